theorem s110_0 : mSnd 110 0 (a_aload 1 0) := snd_aload_n (by decide +kernel : decode (mBc 110) 0 = .ok (.aload_n 0, 1)) rfl rfl
theorem s110_1 : mSnd 110 1 (a_iload 2 1) := snd_iload_n (by decide +kernel : decode (mBc 110) 1 = .ok (.iload_n 1, 1)) rfl rfl
theorem s110_2 : mSnd 110 2 (a_invV 5 1 0 0 [(9, 123, 0, 0)]) := snd_invV v110_246 rfl rfl (by decide +kernel : decode (mBc 110) 2 = .ok (.invokevirtual 246, 3)) rfl
theorem s110_5 : mSnd 110 5 (a_if 8 11 (fun x => decide (¬ x = 0))) := snd_if_ne (by decide +kernel : decode (mBc 110) 5 = .ok (.ifCond .ne 6, 3)) rfl rfl
theorem s110_8 : mSnd 110 8 (a_push 10 (.int (iZ (-2)))) := snd_bipush (by decide +kernel : decode (mBc 110) 8 = .ok (.bipush (-2), 2)) (by decide +kernel) rfl
theorem s110_10 : mSnd 110 10 (a_iret 0 0) := snd_iret rfl rfl rfl (by decide +kernel : decode (mBc 110) 10 = .ok (.ireturn, 1))
theorem s110_11 : mSnd 110 11 (a_aload 12 0) := snd_aload_n (by decide +kernel : decode (mBc 110) 11 = .ok (.aload_n 0, 1)) rfl rfl
theorem s110_12 : mSnd 110 12 (a_getf 15 5 [9]) := snd_getf f26 q62 (Or.inl rfl) (by decide +kernel : decode (mBc 110) 12 = .ok (.getfield 38, 3)) rfl
theorem s110_15 : mSnd 110 15 (a_iload 16 1) := snd_iload_n (by decide +kernel : decode (mBc 110) 15 = .ok (.iload_n 1, 1)) rfl rfl
theorem s110_16 : mSnd 110 16 (a_aald 17) := snd_aald (by decide +kernel : decode (mBc 110) 16 = .ok (.aaload, 1)) rfl
theorem s110_17 : mSnd 110 17 (a_astore 19 4) := snd_astore (by decide +kernel : decode (mBc 110) 17 = .ok (.astore 4, 2)) (by decide) rfl
theorem s110_19 : mSnd 110 19 (a_aload 21 4) := snd_aload (by decide +kernel : decode (mBc 110) 19 = .ok (.aload 4, 2)) rfl
theorem s110_21 : mSnd 110 21 (a_ifnull 27 24) := snd_ifnonnull (by decide +kernel : decode (mBc 110) 21 = .ok (.ifnonnull 6, 3)) rfl rfl
theorem s110_24 : mSnd 110 24 (a_push 26 (.int (iZ (-11)))) := snd_bipush (by decide +kernel : decode (mBc 110) 24 = .ok (.bipush (-11), 2)) (by decide +kernel) rfl
theorem s110_26 : mSnd 110 26 (a_iret 0 0) := snd_iret rfl rfl rfl (by decide +kernel : decode (mBc 110) 26 = .ok (.ireturn, 1))
theorem s110_27 : mSnd 110 27 (a_aload 29 4) := snd_aload (by decide +kernel : decode (mBc 110) 27 = .ok (.aload 4, 2)) rfl
theorem s110_29 : mSnd 110 29 (a_iload 30 2) := snd_iload_n (by decide +kernel : decode (mBc 110) 29 = .ok (.iload_n 2, 1)) rfl rfl
theorem s110_30 : mSnd 110 30 (a_push 31 (.int (iZ 1))) := snd_iconst (by decide +kernel : decode (mBc 110) 30 = .ok (.iconst 1, 1)) rfl rfl
theorem s110_31 : mSnd 110 31 (a_invV 34 2 0 0 [(5, 34, 0, 0)]) := snd_invV v110_253 rfl rfl (by decide +kernel : decode (mBc 110) 31 = .ok (.invokevirtual 253, 3)) rfl
theorem s110_34 : mSnd 110 34 (a_if 37 40 (fun x => decide (¬ x = 0))) := snd_if_ne (by decide +kernel : decode (mBc 110) 34 = .ok (.ifCond .ne 6, 3)) rfl rfl
theorem s110_37 : mSnd 110 37 (a_push 39 (.int (iZ (-12)))) := snd_bipush (by decide +kernel : decode (mBc 110) 37 = .ok (.bipush (-12), 2)) (by decide +kernel) rfl
theorem s110_39 : mSnd 110 39 (a_iret 0 0) := snd_iret rfl rfl rfl (by decide +kernel : decode (mBc 110) 39 = .ok (.ireturn, 1))
theorem s110_40 : mSnd 110 40 (a_aload 42 4) := snd_aload (by decide +kernel : decode (mBc 110) 40 = .ok (.aload 4, 2)) rfl
theorem s110_42 : mSnd 110 42 (a_iload 43 2) := snd_iload_n (by decide +kernel : decode (mBc 110) 42 = .ok (.iload_n 2, 1)) rfl rfl
theorem s110_43 : mSnd 110 43 (a_iload 44 3) := snd_iload_n (by decide +kernel : decode (mBc 110) 43 = .ok (.iload_n 3, 1)) rfl rfl
theorem s110_44 : mSnd 110 44 (a_invV 47 2 0 0 [(5, 36, 0, 0)]) := snd_invV v110_256 rfl rfl (by decide +kernel : decode (mBc 110) 44 = .ok (.invokevirtual 256, 3)) rfl
theorem s110_47 : mSnd 110 47 (a_push 48 (.int (iZ 1))) := snd_iconst (by decide +kernel : decode (mBc 110) 47 = .ok (.iconst 1, 1)) rfl rfl
theorem s110_48 : mSnd 110 48 (a_iret 0 0) := snd_iret rfl rfl rfl (by decide +kernel : decode (mBc 110) 48 = .ok (.ireturn, 1))
theorem ok110 : mOkl2 110 ct110 := ⟨⟨s110_0, s110_1, s110_2, s110_5, s110_8, s110_10, s110_11, s110_12, s110_15, s110_16, s110_17, s110_19, trivial⟩, ⟨s110_21, s110_24, s110_26, s110_27, s110_29, s110_30, s110_31, s110_34, s110_37, s110_39, s110_40, s110_42, trivial⟩, ⟨s110_43, s110_44, s110_47, s110_48, trivial⟩, trivial⟩
theorem s111_0 : mSnd 111 0 (a_aload 1 0) := snd_aload_n (by decide +kernel : decode (mBc 111) 0 = .ok (.aload_n 0, 1)) rfl rfl
theorem s111_1 : mSnd 111 1 (a_iload 2 1) := snd_iload_n (by decide +kernel : decode (mBc 111) 1 = .ok (.iload_n 1, 1)) rfl rfl
theorem s111_2 : mSnd 111 2 (a_invV 5 1 0 0 [(9, 114, 0, 0)]) := snd_invV v111_57 rfl rfl (by decide +kernel : decode (mBc 111) 2 = .ok (.invokevirtual 57, 3)) rfl
theorem s111_5 : mSnd 111 5 (a_astore 7 5) := snd_astore (by decide +kernel : decode (mBc 111) 5 = .ok (.astore 5, 2)) (by decide) rfl
theorem s111_7 : mSnd 111 7 (a_aload 9 5) := snd_aload (by decide +kernel : decode (mBc 111) 7 = .ok (.aload 5, 2)) rfl
theorem s111_9 : mSnd 111 9 (a_ifnull 12 27) := snd_ifnull (by decide +kernel : decode (mBc 111) 9 = .ok (.ifnull 18, 3)) rfl rfl
theorem s111_12 : mSnd 111 12 (a_aload 13 0) := snd_aload_n (by decide +kernel : decode (mBc 111) 12 = .ok (.aload_n 0, 1)) rfl rfl
theorem s111_13 : mSnd 111 13 (a_iload 14 2) := snd_iload_n (by decide +kernel : decode (mBc 111) 13 = .ok (.iload_n 2, 1)) rfl rfl
theorem s111_14 : mSnd 111 14 (a_invV 17 1 0 0 [(9, 123, 0, 0)]) := snd_invV v111_246 rfl rfl (by decide +kernel : decode (mBc 111) 14 = .ok (.invokevirtual 246, 3)) rfl
theorem s111_17 : mSnd 111 17 (a_if 20 27 (fun x => decide (x = 0))) := snd_if_eq (by decide +kernel : decode (mBc 111) 17 = .ok (.ifCond .eq 10, 3)) rfl rfl
theorem s111_20 : mSnd 111 20 (a_iload 21 3) := snd_iload_n (by decide +kernel : decode (mBc 111) 20 = .ok (.iload_n 3, 1)) rfl rfl
theorem s111_21 : mSnd 111 21 (a_invS 24 124 1 0 0 0 0) := snd_invS k111_124 rfl rfl q845 q846 q1 (by decide +kernel) (by decide +kernel : decode (mBc 111) 21 = .ok (.invokestatic 249, 3)) rfl
theorem s111_24 : mSnd 111 24 (a_if 27 30 (fun x => decide (¬ x = 0))) := snd_if_ne (by decide +kernel : decode (mBc 111) 24 = .ok (.ifCond .ne 6, 3)) rfl rfl
theorem s111_27 : mSnd 111 27 (a_push 29 (.int (iZ (-2)))) := snd_bipush (by decide +kernel : decode (mBc 111) 27 = .ok (.bipush (-2), 2)) (by decide +kernel) rfl
theorem s111_29 : mSnd 111 29 (a_iret 0 0) := snd_iret rfl rfl rfl (by decide +kernel : decode (mBc 111) 29 = .ok (.ireturn, 1))
theorem s111_30 : mSnd 111 30 (a_aload 32 5) := snd_aload (by decide +kernel : decode (mBc 111) 30 = .ok (.aload 5, 2)) rfl
theorem s111_32 : mSnd 111 32 (a_invV 35 0 0 0 [(1, 15, 0, 0), (2, 18, 0, 0), (4, 31, 0, 0), (6, 38, 0, 0), (8, 75, 0, 0)]) := snd_invV v111_68 rfl rfl (by decide +kernel : decode (mBc 111) 32 = .ok (.invokevirtual 68, 3)) rfl
theorem s111_35 : mSnd 111 35 (a_if 38 41 (fun x => decide (x = 0))) := snd_if_eq (by decide +kernel : decode (mBc 111) 35 = .ok (.ifCond .eq 6, 3)) rfl rfl
theorem s111_38 : mSnd 111 38 (a_push 40 (.int (iZ (-3)))) := snd_bipush (by decide +kernel : decode (mBc 111) 38 = .ok (.bipush (-3), 2)) (by decide +kernel) rfl
theorem s111_40 : mSnd 111 40 (a_iret 0 0) := snd_iret rfl rfl rfl (by decide +kernel : decode (mBc 111) 40 = .ok (.ireturn, 1))
theorem s111_41 : mSnd 111 41 (a_aload 42 0) := snd_aload_n (by decide +kernel : decode (mBc 111) 41 = .ok (.aload_n 0, 1)) rfl rfl
theorem s111_42 : mSnd 111 42 (a_getf 45 5 [9]) := snd_getf f26 q62 (Or.inl rfl) (by decide +kernel : decode (mBc 111) 42 = .ok (.getfield 38, 3)) rfl
theorem s111_45 : mSnd 111 45 (a_iload 46 2) := snd_iload_n (by decide +kernel : decode (mBc 111) 45 = .ok (.iload_n 2, 1)) rfl rfl
theorem s111_46 : mSnd 111 46 (a_aald 47) := snd_aald (by decide +kernel : decode (mBc 111) 46 = .ok (.aaload, 1)) rfl
theorem s111_47 : mSnd 111 47 (a_astore 49 6) := snd_astore (by decide +kernel : decode (mBc 111) 47 = .ok (.astore 6, 2)) (by decide) rfl
theorem s111_49 : mSnd 111 49 (a_aload 51 6) := snd_aload (by decide +kernel : decode (mBc 111) 49 = .ok (.aload 6, 2)) rfl
theorem s111_51 : mSnd 111 51 (a_ifnull 54 66) := snd_ifnull (by decide +kernel : decode (mBc 111) 51 = .ok (.ifnull 15, 3)) rfl rfl
theorem s111_54 : mSnd 111 54 (a_aload 56 6) := snd_aload (by decide +kernel : decode (mBc 111) 54 = .ok (.aload 6, 2)) rfl
theorem s111_56 : mSnd 111 56 (a_getf 59 0 [5]) := snd_getf f12 q855 (Or.inl rfl) (by decide +kernel : decode (mBc 111) 56 = .ok (.getfield 257, 3)) rfl
theorem s111_59 : mSnd 111 59 (a_iload 60 3) := snd_iload_n (by decide +kernel : decode (mBc 111) 59 = .ok (.iload_n 3, 1)) rfl rfl
theorem s111_60 : mSnd 111 60 (a_icmp 63 66 (fun x y => decide (x = y))) := snd_icmp_eq (by decide +kernel : decode (mBc 111) 60 = .ok (.if_icmp .eq 6, 3)) rfl rfl
theorem s111_63 : mSnd 111 63 (a_push 65 (.int (iZ (-13)))) := snd_bipush (by decide +kernel : decode (mBc 111) 63 = .ok (.bipush (-13), 2)) (by decide +kernel) rfl
theorem s111_65 : mSnd 111 65 (a_iret 0 0) := snd_iret rfl rfl rfl (by decide +kernel : decode (mBc 111) 65 = .ok (.ireturn, 1))
theorem s111_66 : mSnd 111 66 (a_aload 68 6) := snd_aload (by decide +kernel : decode (mBc 111) 66 = .ok (.aload 6, 2)) rfl
theorem s111_68 : mSnd 111 68 (a_ifnull 74 71) := snd_ifnonnull (by decide +kernel : decode (mBc 111) 68 = .ok (.ifnonnull 6, 3)) rfl rfl
theorem s111_71 : mSnd 111 71 (a_push 73 (.int (iZ (-11)))) := snd_bipush (by decide +kernel : decode (mBc 111) 71 = .ok (.bipush (-11), 2)) (by decide +kernel) rfl
theorem s111_73 : mSnd 111 73 (a_iret 0 0) := snd_iret rfl rfl rfl (by decide +kernel : decode (mBc 111) 73 = .ok (.ireturn, 1))
theorem s111_74 : mSnd 111 74 (a_aload 76 6) := snd_aload (by decide +kernel : decode (mBc 111) 74 = .ok (.aload 6, 2)) rfl
theorem s111_76 : mSnd 111 76 (a_iload 78 4) := snd_iload (by decide +kernel : decode (mBc 111) 76 = .ok (.iload 4, 2)) rfl
theorem s111_78 : mSnd 111 78 (a_aload 80 5) := snd_aload (by decide +kernel : decode (mBc 111) 78 = .ok (.aload 5, 2)) rfl
theorem s111_80 : mSnd 111 80 (a_invV 83 0 0 0 [(1, 42, 0, 0), (2, 42, 0, 0), (4, 42, 0, 0), (6, 42, 0, 0), (8, 42, 0, 0)]) := snd_invV v111_126 rfl rfl (by decide +kernel : decode (mBc 111) 80 = .ok (.invokevirtual 126, 3)) rfl
theorem s111_83 : mSnd 111 83 (a_invV 86 2 0 0 [(5, 34, 0, 0)]) := snd_invV v111_253 rfl rfl (by decide +kernel : decode (mBc 111) 83 = .ok (.invokevirtual 253, 3)) rfl
theorem s111_86 : mSnd 111 86 (a_if 89 92 (fun x => decide (¬ x = 0))) := snd_if_ne (by decide +kernel : decode (mBc 111) 86 = .ok (.ifCond .ne 6, 3)) rfl rfl
theorem s111_89 : mSnd 111 89 (a_push 91 (.int (iZ (-12)))) := snd_bipush (by decide +kernel : decode (mBc 111) 89 = .ok (.bipush (-12), 2)) (by decide +kernel) rfl
theorem s111_91 : mSnd 111 91 (a_iret 0 0) := snd_iret rfl rfl rfl (by decide +kernel : decode (mBc 111) 91 = .ok (.ireturn, 1))
theorem s111_92 : mSnd 111 92 (a_aload 94 6) := snd_aload (by decide +kernel : decode (mBc 111) 92 = .ok (.aload 6, 2)) rfl
theorem s111_94 : mSnd 111 94 (a_iload 96 4) := snd_iload (by decide +kernel : decode (mBc 111) 94 = .ok (.iload 4, 2)) rfl
theorem s111_96 : mSnd 111 96 (a_aload 98 5) := snd_aload (by decide +kernel : decode (mBc 111) 96 = .ok (.aload 5, 2)) rfl
theorem s111_98 : mSnd 111 98 (a_invV 101 0 0 0 [(1, 42, 0, 0), (2, 42, 0, 0), (4, 42, 0, 0), (6, 42, 0, 0), (8, 42, 0, 0)]) := snd_invV v111_126 rfl rfl (by decide +kernel : decode (mBc 111) 98 = .ok (.invokevirtual 126, 3)) rfl
theorem s111_101 : mSnd 111 101 (a_invS 104 118 3 0 0 0 0) := snd_invS k111_118 rfl rfl q880 q881 q1 (by decide +kernel) (by decide +kernel : decode (mBc 111) 101 = .ok (.invokestatic 260, 3)) rfl
theorem s111_104 : mSnd 111 104 (a_if 107 110 (fun x => decide (¬ x = 0))) := snd_if_ne (by decide +kernel : decode (mBc 111) 104 = .ok (.ifCond .ne 6, 3)) rfl rfl
theorem s111_107 : mSnd 111 107 (a_push 109 (.int (iZ (-2)))) := snd_bipush (by decide +kernel : decode (mBc 111) 107 = .ok (.bipush (-2), 2)) (by decide +kernel) rfl
theorem s111_109 : mSnd 111 109 (a_iret 0 0) := snd_iret rfl rfl rfl (by decide +kernel : decode (mBc 111) 109 = .ok (.ireturn, 1))
theorem s111_110 : mSnd 111 110 (a_push 111 (.int (iZ 1))) := snd_iconst (by decide +kernel : decode (mBc 111) 110 = .ok (.iconst 1, 1)) rfl rfl
theorem s111_111 : mSnd 111 111 (a_istore 113 7) := snd_istore (by decide +kernel : decode (mBc 111) 111 = .ok (.istore 7, 2)) (by decide) rfl
theorem s111_113 : mSnd 111 113 (a_iload 115 7) := snd_iload (by decide +kernel : decode (mBc 111) 113 = .ok (.iload 7, 2)) rfl
theorem s111_115 : mSnd 111 115 (a_aload 117 5) := snd_aload (by decide +kernel : decode (mBc 111) 115 = .ok (.aload 5, 2)) rfl
theorem s111_117 : mSnd 111 117 (a_invV 120 0 0 0 [(1, 42, 0, 0), (2, 42, 0, 0), (4, 42, 0, 0), (6, 42, 0, 0), (8, 42, 0, 0)]) := snd_invV v111_126 rfl rfl (by decide +kernel : decode (mBc 111) 117 = .ok (.invokevirtual 126, 3)) rfl
theorem s111_120 : mSnd 111 120 (a_icmp 123 149 (fun x y => decide (y < x))) := snd_icmp_gt (by decide +kernel : decode (mBc 111) 120 = .ok (.if_icmp .gt 29, 3)) rfl rfl
theorem s111_123 : mSnd 111 123 (a_aload 125 5) := snd_aload (by decide +kernel : decode (mBc 111) 123 = .ok (.aload 5, 2)) rfl
theorem s111_125 : mSnd 111 125 (a_iload 127 7) := snd_iload (by decide +kernel : decode (mBc 111) 125 = .ok (.iload 7, 2)) rfl
theorem s111_127 : mSnd 111 127 (a_aload 129 6) := snd_aload (by decide +kernel : decode (mBc 111) 127 = .ok (.aload 6, 2)) rfl
theorem s111_129 : mSnd 111 129 (a_iload 131 4) := snd_iload (by decide +kernel : decode (mBc 111) 129 = .ok (.iload 4, 2)) rfl
theorem s111_131 : mSnd 111 131 (a_iload 133 7) := snd_iload (by decide +kernel : decode (mBc 111) 131 = .ok (.iload 7, 2)) rfl
theorem s111_133 : mSnd 111 133 (a_ii 134 (fun x y => x + y)) := snd_iadd (by decide +kernel : decode (mBc 111) 133 = .ok (.iadd, 1)) rfl
theorem s111_134 : mSnd 111 134 (a_push 135 (.int (iZ 1))) := snd_iconst (by decide +kernel : decode (mBc 111) 134 = .ok (.iconst 1, 1)) rfl rfl
theorem s111_135 : mSnd 111 135 (a_ii 136 (fun x y => x - y)) := snd_isub (by decide +kernel : decode (mBc 111) 135 = .ok (.isub, 1)) rfl
theorem s111_136 : mSnd 111 136 (a_invV 139 1 0 0 [(5, 35, 0, 0)]) := snd_invV v111_264 rfl rfl (by decide +kernel : decode (mBc 111) 136 = .ok (.invokevirtual 264, 3)) rfl
theorem s111_139 : mSnd 111 139 (a_l2i 140) := snd_l2i (by decide +kernel : decode (mBc 111) 139 = .ok (.l2i, 1)) rfl
theorem s111_140 : mSnd 111 140 (a_invV 143 2 0 0 [(1, 48, 0, 0), (2, 48, 0, 0), (4, 48, 0, 0), (6, 48, 0, 0), (8, 48, 0, 0)]) := snd_invV v111_72 rfl rfl (by decide +kernel : decode (mBc 111) 140 = .ok (.invokevirtual 72, 3)) rfl
theorem s111_143 : mSnd 111 143 (a_iinc 146 7 (iZ 1)) := snd_iinc (by decide +kernel : decode (mBc 111) 143 = .ok (.iinc 7 1, 3)) rfl (by decide) rfl
theorem s111_146 : mSnd 111 146 (a_goto 113) := snd_goto (by decide +kernel : decode (mBc 111) 146 = .ok (.goto (-33), 3)) rfl
theorem s111_149 : mSnd 111 149 (a_push 150 (.int (iZ 1))) := snd_iconst (by decide +kernel : decode (mBc 111) 149 = .ok (.iconst 1, 1)) rfl rfl
theorem s111_150 : mSnd 111 150 (a_iret 0 0) := snd_iret rfl rfl rfl (by decide +kernel : decode (mBc 111) 150 = .ok (.ireturn, 1))
theorem ok111 : mOkl2 111 ct111 := ⟨⟨s111_0, s111_1, s111_2, s111_5, s111_7, s111_9, s111_12, s111_13, s111_14, s111_17, s111_20, s111_21, trivial⟩, ⟨s111_24, s111_27, s111_29, s111_30, s111_32, s111_35, s111_38, s111_40, s111_41, s111_42, s111_45, s111_46, trivial⟩, ⟨s111_47, s111_49, s111_51, s111_54, s111_56, s111_59, s111_60, s111_63, s111_65, s111_66, s111_68, s111_71, trivial⟩, ⟨s111_73, s111_74, s111_76, s111_78, s111_80, s111_83, s111_86, s111_89, s111_91, s111_92, s111_94, s111_96, trivial⟩, ⟨s111_98, s111_101, s111_104, s111_107, s111_109, s111_110, s111_111, s111_113, s111_115, s111_117, s111_120, s111_123, trivial⟩, ⟨s111_125, s111_127, s111_129, s111_131, s111_133, s111_134, s111_135, s111_136, s111_139, s111_140, s111_143, s111_146, trivial⟩, ⟨s111_149, s111_150, trivial⟩, trivial⟩
theorem s112_0 : mSnd 112 0 (a_aload 1 0) := snd_aload_n (by decide +kernel : decode (mBc 112) 0 = .ok (.aload_n 0, 1)) rfl rfl
theorem s112_1 : mSnd 112 1 (a_iload 2 1) := snd_iload_n (by decide +kernel : decode (mBc 112) 1 = .ok (.iload_n 1, 1)) rfl rfl
theorem s112_2 : mSnd 112 2 (a_invV 5 1 0 0 [(9, 123, 0, 0)]) := snd_invV v112_246 rfl rfl (by decide +kernel : decode (mBc 112) 2 = .ok (.invokevirtual 246, 3)) rfl
theorem s112_5 : mSnd 112 5 (a_if 8 16 (fun x => decide (x = 0))) := snd_if_eq (by decide +kernel : decode (mBc 112) 5 = .ok (.ifCond .eq 11, 3)) rfl rfl
theorem s112_8 : mSnd 112 8 (a_aload 9 0) := snd_aload_n (by decide +kernel : decode (mBc 112) 8 = .ok (.aload_n 0, 1)) rfl rfl
theorem s112_9 : mSnd 112 9 (a_iload 10 3) := snd_iload_n (by decide +kernel : decode (mBc 112) 9 = .ok (.iload_n 3, 1)) rfl rfl
theorem s112_10 : mSnd 112 10 (a_invV 13 1 0 0 [(9, 123, 0, 0)]) := snd_invV v112_246 rfl rfl (by decide +kernel : decode (mBc 112) 10 = .ok (.invokevirtual 246, 3)) rfl
theorem s112_13 : mSnd 112 13 (a_if 16 19 (fun x => decide (¬ x = 0))) := snd_if_ne (by decide +kernel : decode (mBc 112) 13 = .ok (.ifCond .ne 6, 3)) rfl rfl
theorem s112_16 : mSnd 112 16 (a_push 18 (.int (iZ (-2)))) := snd_bipush (by decide +kernel : decode (mBc 112) 16 = .ok (.bipush (-2), 2)) (by decide +kernel) rfl
theorem s112_18 : mSnd 112 18 (a_iret 0 0) := snd_iret rfl rfl rfl (by decide +kernel : decode (mBc 112) 18 = .ok (.ireturn, 1))
theorem s112_19 : mSnd 112 19 (a_aload 20 0) := snd_aload_n (by decide +kernel : decode (mBc 112) 19 = .ok (.aload_n 0, 1)) rfl rfl
theorem s112_20 : mSnd 112 20 (a_getf 23 5 [9]) := snd_getf f26 q62 (Or.inl rfl) (by decide +kernel : decode (mBc 112) 20 = .ok (.getfield 38, 3)) rfl
theorem s112_23 : mSnd 112 23 (a_iload 24 1) := snd_iload_n (by decide +kernel : decode (mBc 112) 23 = .ok (.iload_n 1, 1)) rfl rfl
theorem s112_24 : mSnd 112 24 (a_aald 25) := snd_aald (by decide +kernel : decode (mBc 112) 24 = .ok (.aaload, 1)) rfl
theorem s112_25 : mSnd 112 25 (a_astore 27 6) := snd_astore (by decide +kernel : decode (mBc 112) 25 = .ok (.astore 6, 2)) (by decide) rfl
theorem s112_27 : mSnd 112 27 (a_aload 28 0) := snd_aload_n (by decide +kernel : decode (mBc 112) 27 = .ok (.aload_n 0, 1)) rfl rfl
theorem s112_28 : mSnd 112 28 (a_getf 31 5 [9]) := snd_getf f26 q62 (Or.inl rfl) (by decide +kernel : decode (mBc 112) 28 = .ok (.getfield 38, 3)) rfl
theorem s112_31 : mSnd 112 31 (a_iload 32 3) := snd_iload_n (by decide +kernel : decode (mBc 112) 31 = .ok (.iload_n 3, 1)) rfl rfl
theorem s112_32 : mSnd 112 32 (a_aald 33) := snd_aald (by decide +kernel : decode (mBc 112) 32 = .ok (.aaload, 1)) rfl
theorem s112_33 : mSnd 112 33 (a_astore 35 7) := snd_astore (by decide +kernel : decode (mBc 112) 33 = .ok (.astore 7, 2)) (by decide) rfl
theorem s112_35 : mSnd 112 35 (a_aload 37 6) := snd_aload (by decide +kernel : decode (mBc 112) 35 = .ok (.aload 6, 2)) rfl
theorem s112_37 : mSnd 112 37 (a_ifnull 40 45) := snd_ifnull (by decide +kernel : decode (mBc 112) 37 = .ok (.ifnull 8, 3)) rfl rfl
theorem s112_40 : mSnd 112 40 (a_aload 42 7) := snd_aload (by decide +kernel : decode (mBc 112) 40 = .ok (.aload 7, 2)) rfl
theorem s112_42 : mSnd 112 42 (a_ifnull 48 45) := snd_ifnonnull (by decide +kernel : decode (mBc 112) 42 = .ok (.ifnonnull 6, 3)) rfl rfl
theorem s112_45 : mSnd 112 45 (a_push 47 (.int (iZ (-11)))) := snd_bipush (by decide +kernel : decode (mBc 112) 45 = .ok (.bipush (-11), 2)) (by decide +kernel) rfl
theorem s112_47 : mSnd 112 47 (a_iret 0 0) := snd_iret rfl rfl rfl (by decide +kernel : decode (mBc 112) 47 = .ok (.ireturn, 1))
theorem s112_48 : mSnd 112 48 (a_aload 50 6) := snd_aload (by decide +kernel : decode (mBc 112) 48 = .ok (.aload 6, 2)) rfl
theorem s112_50 : mSnd 112 50 (a_getf 53 0 [5]) := snd_getf f12 q855 (Or.inl rfl) (by decide +kernel : decode (mBc 112) 50 = .ok (.getfield 257, 3)) rfl
theorem s112_53 : mSnd 112 53 (a_aload 55 7) := snd_aload (by decide +kernel : decode (mBc 112) 53 = .ok (.aload 7, 2)) rfl
theorem s112_55 : mSnd 112 55 (a_getf 58 0 [5]) := snd_getf f12 q855 (Or.inl rfl) (by decide +kernel : decode (mBc 112) 55 = .ok (.getfield 257, 3)) rfl
theorem s112_58 : mSnd 112 58 (a_icmp 61 64 (fun x y => decide (x = y))) := snd_icmp_eq (by decide +kernel : decode (mBc 112) 58 = .ok (.if_icmp .eq 6, 3)) rfl rfl
theorem s112_61 : mSnd 112 61 (a_push 63 (.int (iZ (-13)))) := snd_bipush (by decide +kernel : decode (mBc 112) 61 = .ok (.bipush (-13), 2)) (by decide +kernel) rfl
theorem s112_63 : mSnd 112 63 (a_iret 0 0) := snd_iret rfl rfl rfl (by decide +kernel : decode (mBc 112) 63 = .ok (.ireturn, 1))
theorem s112_64 : mSnd 112 64 (a_aload 66 6) := snd_aload (by decide +kernel : decode (mBc 112) 64 = .ok (.aload 6, 2)) rfl
theorem s112_66 : mSnd 112 66 (a_iload 67 2) := snd_iload_n (by decide +kernel : decode (mBc 112) 66 = .ok (.iload_n 2, 1)) rfl rfl
theorem s112_67 : mSnd 112 67 (a_iload 69 5) := snd_iload (by decide +kernel : decode (mBc 112) 67 = .ok (.iload 5, 2)) rfl
theorem s112_69 : mSnd 112 69 (a_invV 72 2 0 0 [(5, 34, 0, 0)]) := snd_invV v112_253 rfl rfl (by decide +kernel : decode (mBc 112) 69 = .ok (.invokevirtual 253, 3)) rfl
theorem s112_72 : mSnd 112 72 (a_if 75 87 (fun x => decide (x = 0))) := snd_if_eq (by decide +kernel : decode (mBc 112) 72 = .ok (.ifCond .eq 15, 3)) rfl rfl
theorem s112_75 : mSnd 112 75 (a_aload 77 7) := snd_aload (by decide +kernel : decode (mBc 112) 75 = .ok (.aload 7, 2)) rfl
theorem s112_77 : mSnd 112 77 (a_iload 79 4) := snd_iload (by decide +kernel : decode (mBc 112) 77 = .ok (.iload 4, 2)) rfl
theorem s112_79 : mSnd 112 79 (a_iload 81 5) := snd_iload (by decide +kernel : decode (mBc 112) 79 = .ok (.iload 5, 2)) rfl
theorem s112_81 : mSnd 112 81 (a_invV 84 2 0 0 [(5, 34, 0, 0)]) := snd_invV v112_253 rfl rfl (by decide +kernel : decode (mBc 112) 81 = .ok (.invokevirtual 253, 3)) rfl
theorem s112_84 : mSnd 112 84 (a_if 87 90 (fun x => decide (¬ x = 0))) := snd_if_ne (by decide +kernel : decode (mBc 112) 84 = .ok (.ifCond .ne 6, 3)) rfl rfl
theorem s112_87 : mSnd 112 87 (a_push 89 (.int (iZ (-12)))) := snd_bipush (by decide +kernel : decode (mBc 112) 87 = .ok (.bipush (-12), 2)) (by decide +kernel) rfl
theorem s112_89 : mSnd 112 89 (a_iret 0 0) := snd_iret rfl rfl rfl (by decide +kernel : decode (mBc 112) 89 = .ok (.ireturn, 1))
theorem s112_90 : mSnd 112 90 (a_aload 92 6) := snd_aload (by decide +kernel : decode (mBc 112) 90 = .ok (.aload 6, 2)) rfl
theorem s112_92 : mSnd 112 92 (a_getf 95 1 [5]) := snd_getf f13 q857 (Or.inl rfl) (by decide +kernel : decode (mBc 112) 92 = .ok (.getfield 267, 3)) rfl
theorem s112_95 : mSnd 112 95 (a_iload 96 2) := snd_iload_n (by decide +kernel : decode (mBc 112) 95 = .ok (.iload_n 2, 1)) rfl rfl
theorem s112_96 : mSnd 112 96 (a_aload 98 7) := snd_aload (by decide +kernel : decode (mBc 112) 96 = .ok (.aload 7, 2)) rfl
theorem s112_98 : mSnd 112 98 (a_getf 101 1 [5]) := snd_getf f13 q857 (Or.inl rfl) (by decide +kernel : decode (mBc 112) 98 = .ok (.getfield 267, 3)) rfl
theorem s112_101 : mSnd 112 101 (a_iload 103 4) := snd_iload (by decide +kernel : decode (mBc 112) 101 = .ok (.iload 4, 2)) rfl
theorem s112_103 : mSnd 112 103 (a_iload 105 5) := snd_iload (by decide +kernel : decode (mBc 112) 103 = .ok (.iload 5, 2)) rfl
theorem s112_105 : mSnd 112 105 (a_copy 108 48) := snd_copy q891 q451 q450 q13 (by decide) rfl (by decide +kernel : decode (mBc 112) 105 = .ok (.invokestatic 271, 3)) rfl
theorem s112_108 : mSnd 112 108 (a_iload 110 5) := snd_iload (by decide +kernel : decode (mBc 112) 108 = .ok (.iload 5, 2)) rfl
theorem s112_110 : mSnd 112 110 (a_iret 0 0) := snd_iret rfl rfl rfl (by decide +kernel : decode (mBc 112) 110 = .ok (.ireturn, 1))
theorem ok112 : mOkl2 112 ct112 := ⟨⟨s112_0, s112_1, s112_2, s112_5, s112_8, s112_9, s112_10, s112_13, s112_16, s112_18, s112_19, s112_20, trivial⟩, ⟨s112_23, s112_24, s112_25, s112_27, s112_28, s112_31, s112_32, s112_33, s112_35, s112_37, s112_40, s112_42, trivial⟩, ⟨s112_45, s112_47, s112_48, s112_50, s112_53, s112_55, s112_58, s112_61, s112_63, s112_64, s112_66, s112_67, trivial⟩, ⟨s112_69, s112_72, s112_75, s112_77, s112_79, s112_81, s112_84, s112_87, s112_89, s112_90, s112_92, s112_95, trivial⟩, ⟨s112_96, s112_98, s112_101, s112_103, s112_105, s112_108, s112_110, trivial⟩, trivial⟩
theorem s113_0 : mSnd 113 0 (a_iload 1 2) := snd_iload_n (by decide +kernel : decode (mBc 113) 0 = .ok (.iload_n 2, 1)) rfl rfl
theorem s113_1 : mSnd 113 1 (a_if 4 9 (fun x => decide (x < 0))) := snd_if_lt (by decide +kernel : decode (mBc 113) 1 = .ok (.ifCond .lt 8, 3)) rfl rfl
theorem s113_4 : mSnd 113 4 (a_iload 5 2) := snd_iload_n (by decide +kernel : decode (mBc 113) 4 = .ok (.iload_n 2, 1)) rfl rfl
theorem s113_5 : mSnd 113 5 (a_push 6 (.int (iZ 4))) := snd_iconst (by decide +kernel : decode (mBc 113) 5 = .ok (.iconst 4, 1)) rfl rfl
theorem s113_6 : mSnd 113 6 (a_icmp 9 12 (fun x y => decide (x ≤ y))) := snd_icmp_le (by decide +kernel : decode (mBc 113) 6 = .ok (.if_icmp .le 6, 3)) rfl rfl
theorem s113_9 : mSnd 113 9 (a_push 11 (.int (iZ (-2)))) := snd_bipush (by decide +kernel : decode (mBc 113) 9 = .ok (.bipush (-2), 2)) (by decide +kernel) rfl
theorem s113_11 : mSnd 113 11 (a_iret 0 0) := snd_iret rfl rfl rfl (by decide +kernel : decode (mBc 113) 11 = .ok (.ireturn, 1))
theorem s113_12 : mSnd 113 12 (a_aload 13 0) := snd_aload_n (by decide +kernel : decode (mBc 113) 12 = .ok (.aload_n 0, 1)) rfl rfl
theorem s113_13 : mSnd 113 13 (a_iload 14 1) := snd_iload_n (by decide +kernel : decode (mBc 113) 13 = .ok (.iload_n 1, 1)) rfl rfl
theorem s113_14 : mSnd 113 14 (a_invV 17 1 0 0 [(9, 114, 0, 0)]) := snd_invV v113_57 rfl rfl (by decide +kernel : decode (mBc 113) 14 = .ok (.invokevirtual 57, 3)) rfl
theorem s113_17 : mSnd 113 17 (a_astore 18 3) := snd_astore_n (by decide +kernel : decode (mBc 113) 17 = .ok (.astore_n 3, 1)) rfl (by decide) rfl
theorem s113_18 : mSnd 113 18 (a_aload 19 3) := snd_aload_n (by decide +kernel : decode (mBc 113) 18 = .ok (.aload_n 3, 1)) rfl rfl
theorem s113_19 : mSnd 113 19 (a_ifnull 25 22) := snd_ifnonnull (by decide +kernel : decode (mBc 113) 19 = .ok (.ifnonnull 6, 3)) rfl rfl
theorem s113_22 : mSnd 113 22 (a_push 24 (.int (iZ (-11)))) := snd_bipush (by decide +kernel : decode (mBc 113) 22 = .ok (.bipush (-11), 2)) (by decide +kernel) rfl
theorem s113_24 : mSnd 113 24 (a_iret 0 0) := snd_iret rfl rfl rfl (by decide +kernel : decode (mBc 113) 24 = .ok (.ireturn, 1))
theorem s113_25 : mSnd 113 25 (a_iload 26 2) := snd_iload_n (by decide +kernel : decode (mBc 113) 25 = .ok (.iload_n 2, 1)) rfl rfl
theorem s113_26 : mSnd 113 26 (a_if 29 37 (fun x => decide (x = 0))) := snd_if_eq (by decide +kernel : decode (mBc 113) 26 = .ok (.ifCond .eq 11, 3)) rfl rfl
theorem s113_29 : mSnd 113 29 (a_iload 30 2) := snd_iload_n (by decide +kernel : decode (mBc 113) 29 = .ok (.iload_n 2, 1)) rfl rfl
theorem s113_30 : mSnd 113 30 (a_aload 31 3) := snd_aload_n (by decide +kernel : decode (mBc 113) 30 = .ok (.aload_n 3, 1)) rfl rfl
theorem s113_31 : mSnd 113 31 (a_invV 34 0 0 0 [(1, 15, 0, 0), (2, 18, 0, 0), (4, 31, 0, 0), (6, 38, 0, 0), (8, 75, 0, 0)]) := snd_invV v113_68 rfl rfl (by decide +kernel : decode (mBc 113) 31 = .ok (.invokevirtual 68, 3)) rfl
theorem s113_34 : mSnd 113 34 (a_icmp 37 44 (fun x y => decide (¬ x = y))) := snd_icmp_ne (by decide +kernel : decode (mBc 113) 34 = .ok (.if_icmp .ne 10, 3)) rfl rfl
theorem s113_37 : mSnd 113 37 (a_aload 38 3) := snd_aload_n (by decide +kernel : decode (mBc 113) 37 = .ok (.aload_n 3, 1)) rfl rfl
theorem s113_38 : mSnd 113 38 (a_getf 41 1 [1, 2, 4, 6, 8]) := snd_getf f10 q128 (Or.inl rfl) (by decide +kernel : decode (mBc 113) 38 = .ok (.getfield 95, 3)) rfl
theorem s113_41 : mSnd 113 41 (a_goto 46) := snd_goto (by decide +kernel : decode (mBc 113) 41 = .ok (.goto 5, 3)) rfl
theorem s113_44 : mSnd 113 44 (a_push 46 (.int (iZ (-13)))) := snd_bipush (by decide +kernel : decode (mBc 113) 44 = .ok (.bipush (-13), 2)) (by decide +kernel) rfl
theorem s113_46 : mSnd 113 46 (a_iret 0 0) := snd_iret rfl rfl rfl (by decide +kernel : decode (mBc 113) 46 = .ok (.ireturn, 1))
theorem ok113 : mOkl2 113 ct113 := ⟨⟨s113_0, s113_1, s113_4, s113_5, s113_6, s113_9, s113_11, s113_12, s113_13, s113_14, s113_17, s113_18, trivial⟩, ⟨s113_19, s113_22, s113_24, s113_25, s113_26, s113_29, s113_30, s113_31, s113_34, s113_37, s113_38, s113_41, trivial⟩, ⟨s113_44, s113_46, trivial⟩, trivial⟩
theorem s114_0 : mSnd 114 0 (a_iload 1 1) := snd_iload_n (by decide +kernel : decode (mBc 114) 0 = .ok (.iload_n 1, 1)) rfl rfl
theorem s114_1 : mSnd 114 1 (a_if 4 21 (fun x => decide (x < 0))) := snd_if_lt (by decide +kernel : decode (mBc 114) 1 = .ok (.ifCond .lt 20, 3)) rfl rfl
theorem s114_4 : mSnd 114 4 (a_iload 5 1) := snd_iload_n (by decide +kernel : decode (mBc 114) 4 = .ok (.iload_n 1, 1)) rfl rfl
theorem s114_5 : mSnd 114 5 (a_aload 6 0) := snd_aload_n (by decide +kernel : decode (mBc 114) 5 = .ok (.aload_n 0, 1)) rfl rfl
theorem s114_6 : mSnd 114 6 (a_getf 9 1 [9]) := snd_getf f22 q58 (Or.inl rfl) (by decide +kernel : decode (mBc 114) 6 = .ok (.getfield 15, 3)) rfl
theorem s114_9 : mSnd 114 9 (a_icmp 12 21 (fun x y => decide (y ≤ x))) := snd_icmp_ge (by decide +kernel : decode (mBc 114) 9 = .ok (.if_icmp .ge 12, 3)) rfl rfl
theorem s114_12 : mSnd 114 12 (a_iload 13 1) := snd_iload_n (by decide +kernel : decode (mBc 114) 12 = .ok (.iload_n 1, 1)) rfl rfl
theorem s114_13 : mSnd 114 13 (a_aload 14 0) := snd_aload_n (by decide +kernel : decode (mBc 114) 13 = .ok (.aload_n 0, 1)) rfl rfl
theorem s114_14 : mSnd 114 14 (a_getf 17 0 [9]) := snd_getf f21 q57 (Or.inl rfl) (by decide +kernel : decode (mBc 114) 14 = .ok (.getfield 11, 3)) rfl
theorem s114_17 : mSnd 114 17 (a_alen 18) := snd_alen (by decide +kernel : decode (mBc 114) 17 = .ok (.arraylength, 1)) rfl
theorem s114_18 : mSnd 114 18 (a_icmp 21 25 (fun x y => decide (x < y))) := snd_icmp_lt (by decide +kernel : decode (mBc 114) 18 = .ok (.if_icmp .lt 7, 3)) rfl rfl
theorem s114_21 : mSnd 114 21 (a_push 22 .null) := snd_null (by decide +kernel : decode (mBc 114) 21 = .ok (.aconst_null, 1)) rfl
theorem s114_22 : mSnd 114 22 (a_goto 31) := snd_goto (by decide +kernel : decode (mBc 114) 22 = .ok (.goto 9, 3)) rfl
theorem s114_25 : mSnd 114 25 (a_aload 26 0) := snd_aload_n (by decide +kernel : decode (mBc 114) 25 = .ok (.aload_n 0, 1)) rfl rfl
theorem s114_26 : mSnd 114 26 (a_getf 29 0 [9]) := snd_getf f21 q57 (Or.inl rfl) (by decide +kernel : decode (mBc 114) 26 = .ok (.getfield 11, 3)) rfl
theorem s114_29 : mSnd 114 29 (a_iload 30 1) := snd_iload_n (by decide +kernel : decode (mBc 114) 29 = .ok (.iload_n 1, 1)) rfl rfl
theorem s114_30 : mSnd 114 30 (a_aald 31) := snd_aald (by decide +kernel : decode (mBc 114) 30 = .ok (.aaload, 1)) rfl
theorem s114_31 : mSnd 114 31 (a_aret 0 0) := snd_aret rfl (Or.inl ⟨_, rfl⟩) rfl rfl (by decide +kernel : decode (mBc 114) 31 = .ok (.areturn, 1))
theorem ok114 : mOkl2 114 ct114 := ⟨⟨s114_0, s114_1, s114_4, s114_5, s114_6, s114_9, s114_12, s114_13, s114_14, s114_17, s114_18, s114_21, trivial⟩, ⟨s114_22, s114_25, s114_26, s114_29, s114_30, s114_31, trivial⟩, trivial⟩
theorem s115_0 : mSnd 115 0 (a_aload 1 0) := snd_aload_n (by decide +kernel : decode (mBc 115) 0 = .ok (.aload_n 0, 1)) rfl rfl
theorem s115_1 : mSnd 115 1 (a_getf 4 1 [9]) := snd_getf f22 q58 (Or.inl rfl) (by decide +kernel : decode (mBc 115) 1 = .ok (.getfield 15, 3)) rfl
theorem s115_4 : mSnd 115 4 (a_aload 5 0) := snd_aload_n (by decide +kernel : decode (mBc 115) 4 = .ok (.aload_n 0, 1)) rfl rfl
theorem s115_5 : mSnd 115 5 (a_getf 8 0 [9]) := snd_getf f21 q57 (Or.inl rfl) (by decide +kernel : decode (mBc 115) 5 = .ok (.getfield 11, 3)) rfl
theorem s115_8 : mSnd 115 8 (a_alen 9) := snd_alen (by decide +kernel : decode (mBc 115) 8 = .ok (.arraylength, 1)) rfl
theorem s115_9 : mSnd 115 9 (a_icmp 12 16 (fun x y => decide (x < y))) := snd_icmp_lt (by decide +kernel : decode (mBc 115) 9 = .ok (.if_icmp .lt 7, 3)) rfl rfl
theorem s115_12 : mSnd 115 12 (a_push 13 (.int (iZ 1))) := snd_iconst (by decide +kernel : decode (mBc 115) 12 = .ok (.iconst 1, 1)) rfl rfl
theorem s115_13 : mSnd 115 13 (a_goto 17) := snd_goto (by decide +kernel : decode (mBc 115) 13 = .ok (.goto 4, 3)) rfl
theorem s115_16 : mSnd 115 16 (a_push 17 (.int (iZ 0))) := snd_iconst (by decide +kernel : decode (mBc 115) 16 = .ok (.iconst 0, 1)) rfl rfl
theorem s115_17 : mSnd 115 17 (a_zret 0 0) := snd_zret rfl rfl rfl (by decide +kernel : decode (mBc 115) 17 = .ok (.ireturn, 1))
theorem ok115 : mOkl2 115 ct115 := ⟨⟨s115_0, s115_1, s115_4, s115_5, s115_8, s115_9, s115_12, s115_13, s115_16, s115_17, trivial⟩, trivial⟩
theorem s116_0 : mSnd 116 0 (a_aload 1 0) := snd_aload_n (by decide +kernel : decode (mBc 116) 0 = .ok (.aload_n 0, 1)) rfl rfl
theorem s116_1 : mSnd 116 1 (a_getf 4 1 [9]) := snd_getf f22 q58 (Or.inl rfl) (by decide +kernel : decode (mBc 116) 1 = .ok (.getfield 15, 3)) rfl
theorem s116_4 : mSnd 116 4 (a_if 7 14 (fun x => decide (x < 0))) := snd_if_lt (by decide +kernel : decode (mBc 116) 4 = .ok (.ifCond .lt 10, 3)) rfl rfl
theorem s116_7 : mSnd 116 7 (a_aload 8 0) := snd_aload_n (by decide +kernel : decode (mBc 116) 7 = .ok (.aload_n 0, 1)) rfl rfl
theorem s116_8 : mSnd 116 8 (a_invV 11 0 0 0 [(9, 115, 0, 0)]) := snd_invV v116_46 rfl rfl (by decide +kernel : decode (mBc 116) 8 = .ok (.invokevirtual 46, 3)) rfl
theorem s116_11 : mSnd 116 11 (a_if 14 17 (fun x => decide (x = 0))) := snd_if_eq (by decide +kernel : decode (mBc 116) 11 = .ok (.ifCond .eq 6, 3)) rfl rfl
theorem s116_14 : mSnd 116 14 (a_push 16 (.int (iZ (-4)))) := snd_bipush (by decide +kernel : decode (mBc 116) 14 = .ok (.bipush (-4), 2)) (by decide +kernel) rfl
theorem s116_16 : mSnd 116 16 (a_iret 0 0) := snd_iret rfl rfl rfl (by decide +kernel : decode (mBc 116) 16 = .ok (.ireturn, 1))
theorem s116_17 : mSnd 116 17 (a_aload 18 0) := snd_aload_n (by decide +kernel : decode (mBc 116) 17 = .ok (.aload_n 0, 1)) rfl rfl
theorem s116_18 : mSnd 116 18 (a_getf 21 0 [9]) := snd_getf f21 q57 (Or.inl rfl) (by decide +kernel : decode (mBc 116) 18 = .ok (.getfield 11, 3)) rfl
theorem s116_21 : mSnd 116 21 (a_aload 22 0) := snd_aload_n (by decide +kernel : decode (mBc 116) 21 = .ok (.aload_n 0, 1)) rfl rfl
theorem s116_22 : mSnd 116 22 (a_getf 25 1 [9]) := snd_getf f22 q58 (Or.inl rfl) (by decide +kernel : decode (mBc 116) 22 = .ok (.getfield 15, 3)) rfl
theorem s116_25 : mSnd 116 25 (a_aload 26 1) := snd_aload_n (by decide +kernel : decode (mBc 116) 25 = .ok (.aload_n 1, 1)) rfl rfl
theorem s116_26 : mSnd 116 26 (a_aast 27) := snd_aast (by decide +kernel : decode (mBc 116) 26 = .ok (.aastore, 1)) rfl
theorem s116_27 : mSnd 116 27 (a_aload 28 0) := snd_aload_n (by decide +kernel : decode (mBc 116) 27 = .ok (.aload_n 0, 1)) rfl rfl
theorem s116_28 : mSnd 116 28 (a_dup 29) := snd_dup (by decide +kernel : decode (mBc 116) 28 = .ok (.dup, 1)) rfl
theorem s116_29 : mSnd 116 29 (a_getf 32 1 [9]) := snd_getf f22 q58 (Or.inl rfl) (by decide +kernel : decode (mBc 116) 29 = .ok (.getfield 15, 3)) rfl
theorem s116_32 : mSnd 116 32 (a_push 33 (.int (iZ 1))) := snd_iconst (by decide +kernel : decode (mBc 116) 32 = .ok (.iconst 1, 1)) rfl rfl
theorem s116_33 : mSnd 116 33 (a_ii 34 (fun x y => x + y)) := snd_iadd (by decide +kernel : decode (mBc 116) 33 = .ok (.iadd, 1)) rfl
theorem s116_34 : mSnd 116 34 (a_putf 37 1 0 [9]) := snd_putf f22 (by decide +kernel) q58 (Or.inl rfl) (Or.inl rfl) (by decide +kernel : decode (mBc 116) 34 = .ok (.putfield 15, 3)) rfl
theorem s116_37 : mSnd 116 37 (a_aload 38 0) := snd_aload_n (by decide +kernel : decode (mBc 116) 37 = .ok (.aload_n 0, 1)) rfl rfl
theorem s116_38 : mSnd 116 38 (a_getf 41 1 [9]) := snd_getf f22 q58 (Or.inl rfl) (by decide +kernel : decode (mBc 116) 38 = .ok (.getfield 15, 3)) rfl
theorem s116_41 : mSnd 116 41 (a_push 42 (.int (iZ 1))) := snd_iconst (by decide +kernel : decode (mBc 116) 41 = .ok (.iconst 1, 1)) rfl rfl
theorem s116_42 : mSnd 116 42 (a_ii 43 (fun x y => x - y)) := snd_isub (by decide +kernel : decode (mBc 116) 42 = .ok (.isub, 1)) rfl
theorem s116_43 : mSnd 116 43 (a_iret 0 0) := snd_iret rfl rfl rfl (by decide +kernel : decode (mBc 116) 43 = .ok (.ireturn, 1))
theorem ok116 : mOkl2 116 ct116 := ⟨⟨s116_0, s116_1, s116_4, s116_7, s116_8, s116_11, s116_14, s116_16, s116_17, s116_18, s116_21, s116_22, trivial⟩, ⟨s116_25, s116_26, s116_27, s116_28, s116_29, s116_32, s116_33, s116_34, s116_37, s116_38, s116_41, s116_42, trivial⟩, ⟨s116_43, trivial⟩, trivial⟩
theorem s117_0 : mSnd 117 0 (a_push 1 (.int (iZ 1))) := snd_iconst (by decide +kernel : decode (mBc 117) 0 = .ok (.iconst 1, 1)) rfl rfl
theorem s117_1 : mSnd 117 1 (a_istore 3 4) := snd_istore (by decide +kernel : decode (mBc 117) 1 = .ok (.istore 4, 2)) (by decide) rfl
theorem s117_3 : mSnd 117 3 (a_iload 5 4) := snd_iload (by decide +kernel : decode (mBc 117) 3 = .ok (.iload 4, 2)) rfl
theorem s117_5 : mSnd 117 5 (a_aload 6 0) := snd_aload_n (by decide +kernel : decode (mBc 117) 5 = .ok (.aload_n 0, 1)) rfl rfl
theorem s117_6 : mSnd 117 6 (a_invV 9 0 0 0 [(1, 42, 0, 0), (2, 42, 0, 0), (4, 42, 0, 0), (6, 42, 0, 0), (8, 42, 0, 0)]) := snd_invV v117_126 rfl rfl (by decide +kernel : decode (mBc 117) 6 = .ok (.invokevirtual 126, 3)) rfl
theorem s117_9 : mSnd 117 9 (a_icmp 12 55 (fun x y => decide (y < x))) := snd_icmp_gt (by decide +kernel : decode (mBc 117) 9 = .ok (.if_icmp .gt 46, 3)) rfl rfl
theorem s117_12 : mSnd 117 12 (a_iload 13 2) := snd_iload_n (by decide +kernel : decode (mBc 117) 12 = .ok (.iload_n 2, 1)) rfl rfl
theorem s117_13 : mSnd 117 13 (a_aload 14 0) := snd_aload_n (by decide +kernel : decode (mBc 117) 13 = .ok (.aload_n 0, 1)) rfl rfl
theorem s117_14 : mSnd 117 14 (a_iload 16 4) := snd_iload (by decide +kernel : decode (mBc 117) 14 = .ok (.iload 4, 2)) rfl
theorem s117_16 : mSnd 117 16 (a_invV 19 1 0 0 [(1, 46, 0, 0), (2, 46, 0, 0), (4, 46, 0, 0), (6, 46, 0, 0), (8, 46, 0, 0)]) := snd_invV v117_108 rfl rfl (by decide +kernel : decode (mBc 117) 16 = .ok (.invokevirtual 108, 3)) rfl
theorem s117_19 : mSnd 117 19 (a_ii 20 (fun x y => x * y)) := snd_imul (by decide +kernel : decode (mBc 117) 19 = .ok (.imul, 1)) rfl
theorem s117_20 : mSnd 117 20 (a_iload 21 3) := snd_iload_n (by decide +kernel : decode (mBc 117) 20 = .ok (.iload_n 3, 1)) rfl rfl
theorem s117_21 : mSnd 117 21 (a_aload 22 1) := snd_aload_n (by decide +kernel : decode (mBc 117) 21 = .ok (.aload_n 1, 1)) rfl rfl
theorem s117_22 : mSnd 117 22 (a_iload 24 4) := snd_iload (by decide +kernel : decode (mBc 117) 22 = .ok (.iload 4, 2)) rfl
theorem s117_24 : mSnd 117 24 (a_invV 27 1 0 0 [(1, 46, 0, 0), (2, 46, 0, 0), (4, 46, 0, 0), (6, 46, 0, 0), (8, 46, 0, 0)]) := snd_invV v117_108 rfl rfl (by decide +kernel : decode (mBc 117) 24 = .ok (.invokevirtual 108, 3)) rfl
theorem s117_27 : mSnd 117 27 (a_ii 28 (fun x y => x * y)) := snd_imul (by decide +kernel : decode (mBc 117) 27 = .ok (.imul, 1)) rfl
theorem s117_28 : mSnd 117 28 (a_ii 29 (fun x y => x + y)) := snd_iadd (by decide +kernel : decode (mBc 117) 28 = .ok (.iadd, 1)) rfl
theorem s117_29 : mSnd 117 29 (a_istore 31 5) := snd_istore (by decide +kernel : decode (mBc 117) 29 = .ok (.istore 5, 2)) (by decide) rfl
theorem s117_31 : mSnd 117 31 (a_iload 33 5) := snd_iload (by decide +kernel : decode (mBc 117) 31 = .ok (.iload 5, 2)) rfl
theorem s117_33 : mSnd 117 33 (a_push 36 (.int (iZ (-1000)))) := snd_sipush (by decide +kernel : decode (mBc 117) 33 = .ok (.sipush (-1000), 3)) (by decide +kernel) rfl
theorem s117_36 : mSnd 117 36 (a_icmp 39 47 (fun x y => decide (x < y))) := snd_icmp_lt (by decide +kernel : decode (mBc 117) 36 = .ok (.if_icmp .lt 11, 3)) rfl rfl
theorem s117_39 : mSnd 117 39 (a_iload 41 5) := snd_iload (by decide +kernel : decode (mBc 117) 39 = .ok (.iload 5, 2)) rfl
theorem s117_41 : mSnd 117 41 (a_push 44 (.int (iZ 1000))) := snd_sipush (by decide +kernel : decode (mBc 117) 41 = .ok (.sipush 1000, 3)) (by decide +kernel) rfl
theorem s117_44 : mSnd 117 44 (a_icmp 47 49 (fun x y => decide (x ≤ y))) := snd_icmp_le (by decide +kernel : decode (mBc 117) 44 = .ok (.if_icmp .le 5, 3)) rfl rfl
theorem s117_47 : mSnd 117 47 (a_push 48 (.int (iZ 0))) := snd_iconst (by decide +kernel : decode (mBc 117) 47 = .ok (.iconst 0, 1)) rfl rfl
theorem s117_48 : mSnd 117 48 (a_zret 0 0) := snd_zret rfl rfl rfl (by decide +kernel : decode (mBc 117) 48 = .ok (.ireturn, 1))
theorem s117_49 : mSnd 117 49 (a_iinc 52 4 (iZ 1)) := snd_iinc (by decide +kernel : decode (mBc 117) 49 = .ok (.iinc 4 1, 3)) rfl (by decide) rfl
theorem s117_52 : mSnd 117 52 (a_goto 3) := snd_goto (by decide +kernel : decode (mBc 117) 52 = .ok (.goto (-49), 3)) rfl
theorem s117_55 : mSnd 117 55 (a_push 56 (.int (iZ 1))) := snd_iconst (by decide +kernel : decode (mBc 117) 55 = .ok (.iconst 1, 1)) rfl rfl
theorem s117_56 : mSnd 117 56 (a_zret 0 0) := snd_zret rfl rfl rfl (by decide +kernel : decode (mBc 117) 56 = .ok (.ireturn, 1))
theorem ok117 : mOkl2 117 ct117 := ⟨⟨s117_0, s117_1, s117_3, s117_5, s117_6, s117_9, s117_12, s117_13, s117_14, s117_16, s117_19, s117_20, trivial⟩, ⟨s117_21, s117_22, s117_24, s117_27, s117_28, s117_29, s117_31, s117_33, s117_36, s117_39, s117_41, s117_44, trivial⟩, ⟨s117_47, s117_48, s117_49, s117_52, s117_55, s117_56, trivial⟩, trivial⟩
theorem s118_0 : mSnd 118 0 (a_push 1 (.int (iZ 0))) := snd_iconst (by decide +kernel : decode (mBc 118) 0 = .ok (.iconst 0, 1)) rfl rfl
theorem s118_1 : mSnd 118 1 (a_istore 2 3) := snd_istore_n (by decide +kernel : decode (mBc 118) 1 = .ok (.istore_n 3, 1)) rfl (by decide) rfl
theorem s118_2 : mSnd 118 2 (a_iload 3 3) := snd_iload_n (by decide +kernel : decode (mBc 118) 2 = .ok (.iload_n 3, 1)) rfl rfl
theorem s118_3 : mSnd 118 3 (a_iload 4 2) := snd_iload_n (by decide +kernel : decode (mBc 118) 3 = .ok (.iload_n 2, 1)) rfl rfl
theorem s118_4 : mSnd 118 4 (a_icmp 7 28 (fun x y => decide (y ≤ x))) := snd_icmp_ge (by decide +kernel : decode (mBc 118) 4 = .ok (.if_icmp .ge 24, 3)) rfl rfl
theorem s118_7 : mSnd 118 7 (a_aload 8 0) := snd_aload_n (by decide +kernel : decode (mBc 118) 7 = .ok (.aload_n 0, 1)) rfl rfl
theorem s118_8 : mSnd 118 8 (a_iload 9 1) := snd_iload_n (by decide +kernel : decode (mBc 118) 8 = .ok (.iload_n 1, 1)) rfl rfl
theorem s118_9 : mSnd 118 9 (a_iload 10 3) := snd_iload_n (by decide +kernel : decode (mBc 118) 9 = .ok (.iload_n 3, 1)) rfl rfl
theorem s118_10 : mSnd 118 10 (a_ii 11 (fun x y => x + y)) := snd_iadd (by decide +kernel : decode (mBc 118) 10 = .ok (.iadd, 1)) rfl
theorem s118_11 : mSnd 118 11 (a_invV 14 1 0 0 [(5, 35, 0, 0)]) := snd_invV v118_264 rfl rfl (by decide +kernel : decode (mBc 118) 11 = .ok (.invokevirtual 264, 3)) rfl
theorem s118_14 : mSnd 118 14 (a_invS 17 120 1 0 0 0 0) := snd_invS k118_120 rfl rfl q176 q177 q1 (by decide +kernel) (by decide +kernel : decode (mBc 118) 14 = .ok (.invokestatic 64, 3)) rfl
theorem s118_17 : mSnd 118 17 (a_if 20 22 (fun x => decide (¬ x = 0))) := snd_if_ne (by decide +kernel : decode (mBc 118) 17 = .ok (.ifCond .ne 5, 3)) rfl rfl
theorem s118_20 : mSnd 118 20 (a_push 21 (.int (iZ 0))) := snd_iconst (by decide +kernel : decode (mBc 118) 20 = .ok (.iconst 0, 1)) rfl rfl
theorem s118_21 : mSnd 118 21 (a_zret 0 0) := snd_zret rfl rfl rfl (by decide +kernel : decode (mBc 118) 21 = .ok (.ireturn, 1))
theorem s118_22 : mSnd 118 22 (a_iinc 25 3 (iZ 1)) := snd_iinc (by decide +kernel : decode (mBc 118) 22 = .ok (.iinc 3 1, 3)) rfl (by decide) rfl
theorem s118_25 : mSnd 118 25 (a_goto 2) := snd_goto (by decide +kernel : decode (mBc 118) 25 = .ok (.goto (-23), 3)) rfl
theorem s118_28 : mSnd 118 28 (a_push 29 (.int (iZ 1))) := snd_iconst (by decide +kernel : decode (mBc 118) 28 = .ok (.iconst 1, 1)) rfl rfl
theorem s118_29 : mSnd 118 29 (a_zret 0 0) := snd_zret rfl rfl rfl (by decide +kernel : decode (mBc 118) 29 = .ok (.ireturn, 1))
theorem ok118 : mOkl2 118 ct118 := ⟨⟨s118_0, s118_1, s118_2, s118_3, s118_4, s118_7, s118_8, s118_9, s118_10, s118_11, s118_14, s118_17, trivial⟩, ⟨s118_20, s118_21, s118_22, s118_25, s118_28, s118_29, trivial⟩, trivial⟩
theorem s119_0 : mSnd 119 0 (a_iload 1 0) := snd_iload_n (by decide +kernel : decode (mBc 119) 0 = .ok (.iload_n 0, 1)) rfl rfl
theorem s119_1 : mSnd 119 1 (a_push 2 (.int (iZ 1))) := snd_iconst (by decide +kernel : decode (mBc 119) 1 = .ok (.iconst 1, 1)) rfl rfl
theorem s119_2 : mSnd 119 2 (a_icmp 5 14 (fun x y => decide (x < y))) := snd_icmp_lt (by decide +kernel : decode (mBc 119) 2 = .ok (.if_icmp .lt 12, 3)) rfl rfl
theorem s119_5 : mSnd 119 5 (a_iload 6 0) := snd_iload_n (by decide +kernel : decode (mBc 119) 5 = .ok (.iload_n 0, 1)) rfl rfl
theorem s119_6 : mSnd 119 6 (a_push 7 (.int (iZ 4))) := snd_iconst (by decide +kernel : decode (mBc 119) 6 = .ok (.iconst 4, 1)) rfl rfl
theorem s119_7 : mSnd 119 7 (a_icmp 10 14 (fun x y => decide (y < x))) := snd_icmp_gt (by decide +kernel : decode (mBc 119) 7 = .ok (.if_icmp .gt 7, 3)) rfl rfl
theorem s119_10 : mSnd 119 10 (a_push 11 (.int (iZ 1))) := snd_iconst (by decide +kernel : decode (mBc 119) 10 = .ok (.iconst 1, 1)) rfl rfl
theorem s119_11 : mSnd 119 11 (a_goto 15) := snd_goto (by decide +kernel : decode (mBc 119) 11 = .ok (.goto 4, 3)) rfl
theorem s119_14 : mSnd 119 14 (a_push 15 (.int (iZ 0))) := snd_iconst (by decide +kernel : decode (mBc 119) 14 = .ok (.iconst 0, 1)) rfl rfl
theorem s119_15 : mSnd 119 15 (a_zret 0 0) := snd_zret rfl rfl rfl (by decide +kernel : decode (mBc 119) 15 = .ok (.ireturn, 1))
theorem ok119 : mOkl2 119 ct119 := ⟨⟨s119_0, s119_1, s119_2, s119_5, s119_6, s119_7, s119_10, s119_11, s119_14, s119_15, trivial⟩, trivial⟩
theorem s120_0 : mSnd 120 0 (a_lload 1 0) := snd_lload_n (by decide +kernel : decode (mBc 120) 0 = .ok (.lload_n 0, 1)) rfl rfl
theorem s120_1 : mSnd 120 1 (a_push 4 (.long (lZ (-100)))) := snd_ldc2 q179 (by decide +kernel : decode (mBc 120) 1 = .ok (.ldc2_w 277, 3)) rfl
theorem s120_4 : mSnd 120 4 (a_lcmp 5) := snd_lcmp (by decide +kernel : decode (mBc 120) 4 = .ok (.lcmp, 1)) rfl
theorem s120_5 : mSnd 120 5 (a_if 8 20 (fun x => decide (x < 0))) := snd_if_lt (by decide +kernel : decode (mBc 120) 5 = .ok (.ifCond .lt 15, 3)) rfl rfl
theorem s120_8 : mSnd 120 8 (a_lload 9 0) := snd_lload_n (by decide +kernel : decode (mBc 120) 8 = .ok (.lload_n 0, 1)) rfl rfl
theorem s120_9 : mSnd 120 9 (a_push 12 (.long (lZ 100))) := snd_ldc2 q180 (by decide +kernel : decode (mBc 120) 9 = .ok (.ldc2_w 279, 3)) rfl
theorem s120_12 : mSnd 120 12 (a_lcmp 13) := snd_lcmp (by decide +kernel : decode (mBc 120) 12 = .ok (.lcmp, 1)) rfl
theorem s120_13 : mSnd 120 13 (a_if 16 20 (fun x => decide (0 < x))) := snd_if_gt (by decide +kernel : decode (mBc 120) 13 = .ok (.ifCond .gt 7, 3)) rfl rfl
theorem s120_16 : mSnd 120 16 (a_push 17 (.int (iZ 1))) := snd_iconst (by decide +kernel : decode (mBc 120) 16 = .ok (.iconst 1, 1)) rfl rfl
theorem s120_17 : mSnd 120 17 (a_goto 21) := snd_goto (by decide +kernel : decode (mBc 120) 17 = .ok (.goto 4, 3)) rfl
theorem s120_20 : mSnd 120 20 (a_push 21 (.int (iZ 0))) := snd_iconst (by decide +kernel : decode (mBc 120) 20 = .ok (.iconst 0, 1)) rfl rfl
theorem s120_21 : mSnd 120 21 (a_zret 0 0) := snd_zret rfl rfl rfl (by decide +kernel : decode (mBc 120) 21 = .ok (.ireturn, 1))
theorem ok120 : mOkl2 120 ct120 := ⟨⟨s120_0, s120_1, s120_4, s120_5, s120_8, s120_9, s120_12, s120_13, s120_16, s120_17, s120_20, s120_21, trivial⟩, trivial⟩
theorem s121_0 : mSnd 121 0 (a_iload 1 0) := snd_iload_n (by decide +kernel : decode (mBc 121) 0 = .ok (.iload_n 0, 1)) rfl rfl
theorem s121_1 : mSnd 121 1 (a_push 3 (.int (iZ (-3)))) := snd_bipush (by decide +kernel : decode (mBc 121) 1 = .ok (.bipush (-3), 2)) (by decide +kernel) rfl
theorem s121_3 : mSnd 121 3 (a_icmp 6 15 (fun x y => decide (x < y))) := snd_icmp_lt (by decide +kernel : decode (mBc 121) 3 = .ok (.if_icmp .lt 12, 3)) rfl rfl
theorem s121_6 : mSnd 121 6 (a_iload 7 0) := snd_iload_n (by decide +kernel : decode (mBc 121) 6 = .ok (.iload_n 0, 1)) rfl rfl
theorem s121_7 : mSnd 121 7 (a_push 8 (.int (iZ 3))) := snd_iconst (by decide +kernel : decode (mBc 121) 7 = .ok (.iconst 3, 1)) rfl rfl
theorem s121_8 : mSnd 121 8 (a_icmp 11 15 (fun x y => decide (y < x))) := snd_icmp_gt (by decide +kernel : decode (mBc 121) 8 = .ok (.if_icmp .gt 7, 3)) rfl rfl
theorem s121_11 : mSnd 121 11 (a_push 12 (.int (iZ 1))) := snd_iconst (by decide +kernel : decode (mBc 121) 11 = .ok (.iconst 1, 1)) rfl rfl
theorem s121_12 : mSnd 121 12 (a_goto 16) := snd_goto (by decide +kernel : decode (mBc 121) 12 = .ok (.goto 4, 3)) rfl
theorem s121_15 : mSnd 121 15 (a_push 16 (.int (iZ 0))) := snd_iconst (by decide +kernel : decode (mBc 121) 15 = .ok (.iconst 0, 1)) rfl rfl
theorem s121_16 : mSnd 121 16 (a_zret 0 0) := snd_zret rfl rfl rfl (by decide +kernel : decode (mBc 121) 16 = .ok (.ireturn, 1))
theorem ok121 : mOkl2 121 ct121 := ⟨⟨s121_0, s121_1, s121_3, s121_6, s121_7, s121_8, s121_11, s121_12, s121_15, s121_16, trivial⟩, trivial⟩
theorem s122_0 : mSnd 122 0 (a_iload 1 0) := snd_iload_n (by decide +kernel : decode (mBc 122) 0 = .ok (.iload_n 0, 1)) rfl rfl
theorem s122_1 : mSnd 122 1 (a_if 4 9 (fun x => decide (x = 0))) := snd_if_eq (by decide +kernel : decode (mBc 122) 1 = .ok (.ifCond .eq 8, 3)) rfl rfl
theorem s122_4 : mSnd 122 4 (a_iload 5 0) := snd_iload_n (by decide +kernel : decode (mBc 122) 4 = .ok (.iload_n 0, 1)) rfl rfl
theorem s122_5 : mSnd 122 5 (a_push 6 (.int (iZ 1))) := snd_iconst (by decide +kernel : decode (mBc 122) 5 = .ok (.iconst 1, 1)) rfl rfl
theorem s122_6 : mSnd 122 6 (a_icmp 9 13 (fun x y => decide (¬ x = y))) := snd_icmp_ne (by decide +kernel : decode (mBc 122) 6 = .ok (.if_icmp .ne 7, 3)) rfl rfl
theorem s122_9 : mSnd 122 9 (a_push 10 (.int (iZ 1))) := snd_iconst (by decide +kernel : decode (mBc 122) 9 = .ok (.iconst 1, 1)) rfl rfl
theorem s122_10 : mSnd 122 10 (a_goto 14) := snd_goto (by decide +kernel : decode (mBc 122) 10 = .ok (.goto 4, 3)) rfl
theorem s122_13 : mSnd 122 13 (a_push 14 (.int (iZ 0))) := snd_iconst (by decide +kernel : decode (mBc 122) 13 = .ok (.iconst 0, 1)) rfl rfl
theorem s122_14 : mSnd 122 14 (a_zret 0 0) := snd_zret rfl rfl rfl (by decide +kernel : decode (mBc 122) 14 = .ok (.ireturn, 1))
theorem ok122 : mOkl2 122 ct122 := ⟨⟨s122_0, s122_1, s122_4, s122_5, s122_6, s122_9, s122_10, s122_13, s122_14, trivial⟩, trivial⟩
theorem s123_0 : mSnd 123 0 (a_iload 1 1) := snd_iload_n (by decide +kernel : decode (mBc 123) 0 = .ok (.iload_n 1, 1)) rfl rfl
theorem s123_1 : mSnd 123 1 (a_if 4 17 (fun x => decide (x < 0))) := snd_if_lt (by decide +kernel : decode (mBc 123) 1 = .ok (.ifCond .lt 16, 3)) rfl rfl
theorem s123_4 : mSnd 123 4 (a_iload 5 1) := snd_iload_n (by decide +kernel : decode (mBc 123) 4 = .ok (.iload_n 1, 1)) rfl rfl
theorem s123_5 : mSnd 123 5 (a_aload 6 0) := snd_aload_n (by decide +kernel : decode (mBc 123) 5 = .ok (.aload_n 0, 1)) rfl rfl
theorem s123_6 : mSnd 123 6 (a_getf 9 5 [9]) := snd_getf f26 q62 (Or.inl rfl) (by decide +kernel : decode (mBc 123) 6 = .ok (.getfield 38, 3)) rfl
theorem s123_9 : mSnd 123 9 (a_alen 10) := snd_alen (by decide +kernel : decode (mBc 123) 9 = .ok (.arraylength, 1)) rfl
theorem s123_10 : mSnd 123 10 (a_icmp 13 17 (fun x y => decide (y ≤ x))) := snd_icmp_ge (by decide +kernel : decode (mBc 123) 10 = .ok (.if_icmp .ge 7, 3)) rfl rfl
theorem s123_13 : mSnd 123 13 (a_push 14 (.int (iZ 1))) := snd_iconst (by decide +kernel : decode (mBc 123) 13 = .ok (.iconst 1, 1)) rfl rfl
theorem s123_14 : mSnd 123 14 (a_goto 18) := snd_goto (by decide +kernel : decode (mBc 123) 14 = .ok (.goto 4, 3)) rfl
theorem s123_17 : mSnd 123 17 (a_push 18 (.int (iZ 0))) := snd_iconst (by decide +kernel : decode (mBc 123) 17 = .ok (.iconst 0, 1)) rfl rfl
theorem s123_18 : mSnd 123 18 (a_zret 0 0) := snd_zret rfl rfl rfl (by decide +kernel : decode (mBc 123) 18 = .ok (.ireturn, 1))
theorem ok123 : mOkl2 123 ct123 := ⟨⟨s123_0, s123_1, s123_4, s123_5, s123_6, s123_9, s123_10, s123_13, s123_14, s123_17, s123_18, trivial⟩, trivial⟩
theorem s124_0 : mSnd 124 0 (a_iload 1 0) := snd_iload_n (by decide +kernel : decode (mBc 124) 0 = .ok (.iload_n 0, 1)) rfl rfl
theorem s124_1 : mSnd 124 1 (a_if 4 13 (fun x => decide (x < 0))) := snd_if_lt (by decide +kernel : decode (mBc 124) 1 = .ok (.ifCond .lt 12, 3)) rfl rfl
theorem s124_4 : mSnd 124 4 (a_iload 5 0) := snd_iload_n (by decide +kernel : decode (mBc 124) 4 = .ok (.iload_n 0, 1)) rfl rfl
theorem s124_5 : mSnd 124 5 (a_push 6 (.int (iZ 2))) := snd_iconst (by decide +kernel : decode (mBc 124) 5 = .ok (.iconst 2, 1)) rfl rfl
theorem s124_6 : mSnd 124 6 (a_icmp 9 13 (fun x y => decide (y < x))) := snd_icmp_gt (by decide +kernel : decode (mBc 124) 6 = .ok (.if_icmp .gt 7, 3)) rfl rfl
theorem s124_9 : mSnd 124 9 (a_push 10 (.int (iZ 1))) := snd_iconst (by decide +kernel : decode (mBc 124) 9 = .ok (.iconst 1, 1)) rfl rfl
theorem s124_10 : mSnd 124 10 (a_goto 14) := snd_goto (by decide +kernel : decode (mBc 124) 10 = .ok (.goto 4, 3)) rfl
theorem s124_13 : mSnd 124 13 (a_push 14 (.int (iZ 0))) := snd_iconst (by decide +kernel : decode (mBc 124) 13 = .ok (.iconst 0, 1)) rfl rfl
theorem s124_14 : mSnd 124 14 (a_zret 0 0) := snd_zret rfl rfl rfl (by decide +kernel : decode (mBc 124) 14 = .ok (.ireturn, 1))
theorem ok124 : mOkl2 124 ct124 := ⟨⟨s124_0, s124_1, s124_4, s124_5, s124_6, s124_9, s124_10, s124_13, s124_14, trivial⟩, trivial⟩
theorem s125_0 : mSnd 125 0 (a_push 1 (.int (iZ 1))) := snd_iconst (by decide +kernel : decode (mBc 125) 0 = .ok (.iconst 1, 1)) rfl rfl
theorem s125_1 : mSnd 125 1 (a_istore 2 3) := snd_istore_n (by decide +kernel : decode (mBc 125) 1 = .ok (.istore_n 3, 1)) rfl (by decide) rfl
theorem s125_2 : mSnd 125 2 (a_push 3 (.int (iZ 0))) := snd_iconst (by decide +kernel : decode (mBc 125) 2 = .ok (.iconst 0, 1)) rfl rfl
theorem s125_3 : mSnd 125 3 (a_istore 5 4) := snd_istore (by decide +kernel : decode (mBc 125) 3 = .ok (.istore 4, 2)) (by decide) rfl
theorem s125_5 : mSnd 125 5 (a_iload 7 4) := snd_iload (by decide +kernel : decode (mBc 125) 5 = .ok (.iload 4, 2)) rfl
theorem s125_7 : mSnd 125 7 (a_iload 8 2) := snd_iload_n (by decide +kernel : decode (mBc 125) 7 = .ok (.iload_n 2, 1)) rfl rfl
theorem s125_8 : mSnd 125 8 (a_icmp 11 21 (fun x y => decide (y ≤ x))) := snd_icmp_ge (by decide +kernel : decode (mBc 125) 8 = .ok (.if_icmp .ge 13, 3)) rfl rfl
theorem s125_11 : mSnd 125 11 (a_iload 12 3) := snd_iload_n (by decide +kernel : decode (mBc 125) 11 = .ok (.iload_n 3, 1)) rfl rfl
theorem s125_12 : mSnd 125 12 (a_iload 13 1) := snd_iload_n (by decide +kernel : decode (mBc 125) 12 = .ok (.iload_n 1, 1)) rfl rfl
theorem s125_13 : mSnd 125 13 (a_ii 14 (fun x y => x * y)) := snd_imul (by decide +kernel : decode (mBc 125) 13 = .ok (.imul, 1)) rfl
theorem s125_14 : mSnd 125 14 (a_istore 15 3) := snd_istore_n (by decide +kernel : decode (mBc 125) 14 = .ok (.istore_n 3, 1)) rfl (by decide) rfl
theorem s125_15 : mSnd 125 15 (a_iinc 18 4 (iZ 1)) := snd_iinc (by decide +kernel : decode (mBc 125) 15 = .ok (.iinc 4 1, 3)) rfl (by decide) rfl
theorem s125_18 : mSnd 125 18 (a_goto 5) := snd_goto (by decide +kernel : decode (mBc 125) 18 = .ok (.goto (-13), 3)) rfl
theorem s125_21 : mSnd 125 21 (a_iload 22 0) := snd_iload_n (by decide +kernel : decode (mBc 125) 21 = .ok (.iload_n 0, 1)) rfl rfl
theorem s125_22 : mSnd 125 22 (a_if 25 34 (fun x => decide (x < 0))) := snd_if_lt (by decide +kernel : decode (mBc 125) 22 = .ok (.ifCond .lt 12, 3)) rfl rfl
theorem s125_25 : mSnd 125 25 (a_iload 26 0) := snd_iload_n (by decide +kernel : decode (mBc 125) 25 = .ok (.iload_n 0, 1)) rfl rfl
theorem s125_26 : mSnd 125 26 (a_iload 27 3) := snd_iload_n (by decide +kernel : decode (mBc 125) 26 = .ok (.iload_n 3, 1)) rfl rfl
theorem s125_27 : mSnd 125 27 (a_icmp 30 34 (fun x y => decide (y ≤ x))) := snd_icmp_ge (by decide +kernel : decode (mBc 125) 27 = .ok (.if_icmp .ge 7, 3)) rfl rfl
theorem s125_30 : mSnd 125 30 (a_push 31 (.int (iZ 1))) := snd_iconst (by decide +kernel : decode (mBc 125) 30 = .ok (.iconst 1, 1)) rfl rfl
theorem s125_31 : mSnd 125 31 (a_goto 35) := snd_goto (by decide +kernel : decode (mBc 125) 31 = .ok (.goto 4, 3)) rfl
theorem s125_34 : mSnd 125 34 (a_push 35 (.int (iZ 0))) := snd_iconst (by decide +kernel : decode (mBc 125) 34 = .ok (.iconst 0, 1)) rfl rfl
theorem s125_35 : mSnd 125 35 (a_zret 0 0) := snd_zret rfl rfl rfl (by decide +kernel : decode (mBc 125) 35 = .ok (.ireturn, 1))
theorem ok125 : mOkl2 125 ct125 := ⟨⟨s125_0, s125_1, s125_2, s125_3, s125_5, s125_7, s125_8, s125_11, s125_12, s125_13, s125_14, s125_15, trivial⟩, ⟨s125_18, s125_21, s125_22, s125_25, s125_26, s125_27, s125_30, s125_31, s125_34, s125_35, trivial⟩, trivial⟩
theorem s126_0 : mSnd 126 0 (a_iload 1 0) := snd_iload_n (by decide +kernel : decode (mBc 126) 0 = .ok (.iload_n 0, 1)) rfl rfl
theorem s126_1 : mSnd 126 1 (a_iload 2 1) := snd_iload_n (by decide +kernel : decode (mBc 126) 1 = .ok (.iload_n 1, 1)) rfl rfl
theorem s126_2 : mSnd 126 2 (a_ii 3 (fun x y => x >>> (y &&& 31))) := snd_ishr (by decide +kernel : decode (mBc 126) 2 = .ok (.ishr, 1)) rfl
theorem s126_3 : mSnd 126 3 (a_push 4 (.int (iZ 1))) := snd_iconst (by decide +kernel : decode (mBc 126) 3 = .ok (.iconst 1, 1)) rfl rfl
theorem s126_4 : mSnd 126 4 (a_ii 5 (fun x y => x &&& y)) := snd_iand (by decide +kernel : decode (mBc 126) 4 = .ok (.iand, 1)) rfl
theorem s126_5 : mSnd 126 5 (a_iret 0 0) := snd_iret rfl rfl rfl (by decide +kernel : decode (mBc 126) 5 = .ok (.ireturn, 1))
theorem ok126 : mOkl2 126 ct126 := ⟨⟨s126_0, s126_1, s126_2, s126_3, s126_4, s126_5, trivial⟩, trivial⟩
theorem s127_0 : mSnd 127 0 (a_iload 1 0) := snd_iload_n (by decide +kernel : decode (mBc 127) 0 = .ok (.iload_n 0, 1)) rfl rfl
theorem s127_1 : mSnd 127 1 (a_push 2 (.int (iZ 1))) := snd_iconst (by decide +kernel : decode (mBc 127) 1 = .ok (.iconst 1, 1)) rfl rfl
theorem s127_2 : mSnd 127 2 (a_iload 3 1) := snd_iload_n (by decide +kernel : decode (mBc 127) 2 = .ok (.iload_n 1, 1)) rfl rfl
theorem s127_3 : mSnd 127 3 (a_ii 4 (fun x y => x <<< (y &&& 31))) := snd_ishl (by decide +kernel : decode (mBc 127) 3 = .ok (.ishl, 1)) rfl
theorem s127_4 : mSnd 127 4 (a_push 5 (.int (iZ 1))) := snd_iconst (by decide +kernel : decode (mBc 127) 4 = .ok (.iconst 1, 1)) rfl rfl
theorem s127_5 : mSnd 127 5 (a_ii 6 (fun x y => x - y)) := snd_isub (by decide +kernel : decode (mBc 127) 5 = .ok (.isub, 1)) rfl
theorem s127_6 : mSnd 127 6 (a_ii 7 (fun x y => x &&& y)) := snd_iand (by decide +kernel : decode (mBc 127) 6 = .ok (.iand, 1)) rfl
theorem s127_7 : mSnd 127 7 (a_istore 8 2) := snd_istore_n (by decide +kernel : decode (mBc 127) 7 = .ok (.istore_n 2, 1)) rfl (by decide) rfl
theorem s127_8 : mSnd 127 8 (a_iload 9 2) := snd_iload_n (by decide +kernel : decode (mBc 127) 8 = .ok (.iload_n 2, 1)) rfl rfl
theorem s127_9 : mSnd 127 9 (a_iload 10 0) := snd_iload_n (by decide +kernel : decode (mBc 127) 9 = .ok (.iload_n 0, 1)) rfl rfl
theorem s127_10 : mSnd 127 10 (a_iload 11 2) := snd_iload_n (by decide +kernel : decode (mBc 127) 10 = .ok (.iload_n 2, 1)) rfl rfl
theorem s127_11 : mSnd 127 11 (a_push 12 (.int (iZ (-1)))) := snd_iconst (by decide +kernel : decode (mBc 127) 11 = .ok (.iconst (-1), 1)) rfl rfl
theorem s127_12 : mSnd 127 12 (a_ii 13 (fun x y => x ^^^ y)) := snd_ixor (by decide +kernel : decode (mBc 127) 12 = .ok (.ixor, 1)) rfl
theorem s127_13 : mSnd 127 13 (a_ii 14 (fun x y => x &&& y)) := snd_iand (by decide +kernel : decode (mBc 127) 13 = .ok (.iand, 1)) rfl
theorem s127_14 : mSnd 127 14 (a_push 15 (.int (iZ 1))) := snd_iconst (by decide +kernel : decode (mBc 127) 14 = .ok (.iconst 1, 1)) rfl rfl
theorem s127_15 : mSnd 127 15 (a_ii 16 (fun x y => x <<< (y &&& 31))) := snd_ishl (by decide +kernel : decode (mBc 127) 15 = .ok (.ishl, 1)) rfl
theorem s127_16 : mSnd 127 16 (a_ii 17 (fun x y => x ||| y)) := snd_ior (by decide +kernel : decode (mBc 127) 16 = .ok (.ior, 1)) rfl
theorem s127_17 : mSnd 127 17 (a_iret 0 0) := snd_iret rfl rfl rfl (by decide +kernel : decode (mBc 127) 17 = .ok (.ireturn, 1))
theorem ok127 : mOkl2 127 ct127 := ⟨⟨s127_0, s127_1, s127_2, s127_3, s127_4, s127_5, s127_6, s127_7, s127_8, s127_9, s127_10, s127_11, trivial⟩, ⟨s127_12, s127_13, s127_14, s127_15, s127_16, s127_17, trivial⟩, trivial⟩
theorem s128_0 : mSnd 128 0 (a_push 1 (.int (iZ 1))) := snd_iconst (by decide +kernel : decode (mBc 128) 0 = .ok (.iconst 1, 1)) rfl rfl
theorem s128_1 : mSnd 128 1 (a_istore 2 1) := snd_istore_n (by decide +kernel : decode (mBc 128) 1 = .ok (.istore_n 1, 1)) rfl (by decide) rfl
theorem s128_2 : mSnd 128 2 (a_push 3 (.int (iZ 2))) := snd_iconst (by decide +kernel : decode (mBc 128) 2 = .ok (.iconst 2, 1)) rfl rfl
theorem s128_3 : mSnd 128 3 (a_istore 4 2) := snd_istore_n (by decide +kernel : decode (mBc 128) 3 = .ok (.istore_n 2, 1)) rfl (by decide) rfl
theorem s128_4 : mSnd 128 4 (a_iload 5 2) := snd_iload_n (by decide +kernel : decode (mBc 128) 4 = .ok (.iload_n 2, 1)) rfl rfl
theorem s128_5 : mSnd 128 5 (a_iload 6 0) := snd_iload_n (by decide +kernel : decode (mBc 128) 5 = .ok (.iload_n 0, 1)) rfl rfl
theorem s128_6 : mSnd 128 6 (a_icmp 9 19 (fun x y => decide (y < x))) := snd_icmp_gt (by decide +kernel : decode (mBc 128) 6 = .ok (.if_icmp .gt 13, 3)) rfl rfl
theorem s128_9 : mSnd 128 9 (a_iload 10 1) := snd_iload_n (by decide +kernel : decode (mBc 128) 9 = .ok (.iload_n 1, 1)) rfl rfl
theorem s128_10 : mSnd 128 10 (a_iload 11 2) := snd_iload_n (by decide +kernel : decode (mBc 128) 10 = .ok (.iload_n 2, 1)) rfl rfl
theorem s128_11 : mSnd 128 11 (a_ii 12 (fun x y => x * y)) := snd_imul (by decide +kernel : decode (mBc 128) 11 = .ok (.imul, 1)) rfl
theorem s128_12 : mSnd 128 12 (a_istore 13 1) := snd_istore_n (by decide +kernel : decode (mBc 128) 12 = .ok (.istore_n 1, 1)) rfl (by decide) rfl
theorem s128_13 : mSnd 128 13 (a_iinc 16 2 (iZ 1)) := snd_iinc (by decide +kernel : decode (mBc 128) 13 = .ok (.iinc 2 1, 3)) rfl (by decide) rfl
theorem s128_16 : mSnd 128 16 (a_goto 4) := snd_goto (by decide +kernel : decode (mBc 128) 16 = .ok (.goto (-12), 3)) rfl
theorem s128_19 : mSnd 128 19 (a_iload 20 1) := snd_iload_n (by decide +kernel : decode (mBc 128) 19 = .ok (.iload_n 1, 1)) rfl rfl
theorem s128_20 : mSnd 128 20 (a_iret 0 0) := snd_iret rfl rfl rfl (by decide +kernel : decode (mBc 128) 20 = .ok (.ireturn, 1))
theorem ok128 : mOkl2 128 ct128 := ⟨⟨s128_0, s128_1, s128_2, s128_3, s128_4, s128_5, s128_6, s128_9, s128_10, s128_11, s128_12, s128_13, trivial⟩, ⟨s128_16, s128_19, s128_20, trivial⟩, trivial⟩
theorem s129_0 : mSnd 129 0 (a_iload 1 0) := snd_iload_n (by decide +kernel : decode (mBc 129) 0 = .ok (.iload_n 0, 1)) rfl rfl
theorem s129_1 : mSnd 129 1 (a_tsw 40 2 4 [28, 32, 36]) := snd_tsw (by decide +kernel : decode (mBc 129) 1 = .ok (.tableswitch 39 2 4 #[27, 31, 35], 27)) rfl (by decide +kernel)
theorem s129_28 : mSnd 129 28 (a_push 31 (.ref 2)) := snd_gets (nm := "LEAN_OF_TWO") (by decide +kernel) (by decide) q635 (by decide +kernel : decode (mBc 129) 28 = .ok (.getstatic 281, 3)) rfl
theorem s129_31 : mSnd 129 31 (a_aret 0 0) := snd_aret rfl (Or.inr ⟨_, rfl⟩) rfl rfl (by decide +kernel : decode (mBc 129) 31 = .ok (.areturn, 1))
theorem s129_32 : mSnd 129 32 (a_push 35 (.ref 3)) := snd_gets (nm := "LEAN_OF_THREE") (by decide +kernel) (by decide) q637 (by decide +kernel : decode (mBc 129) 32 = .ok (.getstatic 284, 3)) rfl
theorem s129_35 : mSnd 129 35 (a_aret 0 0) := snd_aret rfl (Or.inr ⟨_, rfl⟩) rfl rfl (by decide +kernel : decode (mBc 129) 35 = .ok (.areturn, 1))
theorem s129_36 : mSnd 129 36 (a_push 39 (.ref 4)) := snd_gets (nm := "LEAN_OF_FOUR") (by decide +kernel) (by decide) q639 (by decide +kernel : decode (mBc 129) 36 = .ok (.getstatic 287, 3)) rfl
theorem s129_39 : mSnd 129 39 (a_aret 0 0) := snd_aret rfl (Or.inr ⟨_, rfl⟩) rfl rfl (by decide +kernel : decode (mBc 129) 39 = .ok (.areturn, 1))
theorem s129_40 : mSnd 129 40 (a_push 43 (.ref 1)) := snd_gets (nm := "LEAN_OF_ONE") (by decide +kernel) (by decide) q641 (by decide +kernel : decode (mBc 129) 40 = .ok (.getstatic 290, 3)) rfl
theorem s129_43 : mSnd 129 43 (a_aret 0 0) := snd_aret rfl (Or.inr ⟨_, rfl⟩) rfl rfl (by decide +kernel : decode (mBc 129) 43 = .ok (.areturn, 1))
theorem ok129 : mOkl2 129 ct129 := ⟨⟨s129_0, s129_1, s129_28, s129_31, s129_32, s129_35, s129_36, s129_39, s129_40, s129_43, trivial⟩, trivial⟩
theorem s130_0 : mSnd 130 0 (a_lload 1 0) := snd_lload_n (by decide +kernel : decode (mBc 130) 0 = .ok (.lload_n 0, 1)) rfl rfl
theorem s130_1 : mSnd 130 1 (a_push 3 (.int (iZ 8))) := snd_bipush (by decide +kernel : decode (mBc 130) 1 = .ok (.bipush 8, 2)) (by decide +kernel) rfl
theorem s130_3 : mSnd 130 3 (a_iload 4 2) := snd_iload_n (by decide +kernel : decode (mBc 130) 3 = .ok (.iload_n 2, 1)) rfl rfl
theorem s130_4 : mSnd 130 4 (a_ii 5 (fun x y => x * y)) := snd_imul (by decide +kernel : decode (mBc 130) 4 = .ok (.imul, 1)) rfl
theorem s130_5 : mSnd 130 5 (a_push 6 (.int (iZ 4))) := snd_iconst (by decide +kernel : decode (mBc 130) 5 = .ok (.iconst 4, 1)) rfl rfl
theorem s130_6 : mSnd 130 6 (a_ii 7 (fun x y => x + y)) := snd_iadd (by decide +kernel : decode (mBc 130) 6 = .ok (.iadd, 1)) rfl
theorem s130_7 : mSnd 130 7 (a_lsh 8 (fun x y => x >>> (y.toInt64 &&& 63))) := snd_lshr (by decide +kernel : decode (mBc 130) 7 = .ok (.lshr, 1)) rfl
theorem s130_8 : mSnd 130 8 (a_l2i 9) := snd_l2i (by decide +kernel : decode (mBc 130) 8 = .ok (.l2i, 1)) rfl
theorem s130_9 : mSnd 130 9 (a_push 11 (.int (iZ 15))) := snd_bipush (by decide +kernel : decode (mBc 130) 9 = .ok (.bipush 15, 2)) (by decide +kernel) rfl
theorem s130_11 : mSnd 130 11 (a_ii 12 (fun x y => x &&& y)) := snd_iand (by decide +kernel : decode (mBc 130) 11 = .ok (.iand, 1)) rfl
theorem s130_12 : mSnd 130 12 (a_iret 0 0) := snd_iret rfl rfl rfl (by decide +kernel : decode (mBc 130) 12 = .ok (.ireturn, 1))
theorem ok130 : mOkl2 130 ct130 := ⟨⟨s130_0, s130_1, s130_3, s130_4, s130_5, s130_6, s130_7, s130_8, s130_9, s130_11, s130_12, trivial⟩, trivial⟩
theorem s131_0 : mSnd 131 0 (a_lload 1 0) := snd_lload_n (by decide +kernel : decode (mBc 131) 0 = .ok (.lload_n 0, 1)) rfl rfl
theorem s131_1 : mSnd 131 1 (a_push 3 (.int (iZ 8))) := snd_bipush (by decide +kernel : decode (mBc 131) 1 = .ok (.bipush 8, 2)) (by decide +kernel) rfl
theorem s131_3 : mSnd 131 3 (a_iload 4 2) := snd_iload_n (by decide +kernel : decode (mBc 131) 3 = .ok (.iload_n 2, 1)) rfl rfl
theorem s131_4 : mSnd 131 4 (a_ii 5 (fun x y => x * y)) := snd_imul (by decide +kernel : decode (mBc 131) 4 = .ok (.imul, 1)) rfl
theorem s131_5 : mSnd 131 5 (a_lsh 6 (fun x y => x >>> (y.toInt64 &&& 63))) := snd_lshr (by decide +kernel : decode (mBc 131) 5 = .ok (.lshr, 1)) rfl
theorem s131_6 : mSnd 131 6 (a_l2i 7) := snd_l2i (by decide +kernel : decode (mBc 131) 6 = .ok (.l2i, 1)) rfl
theorem s131_7 : mSnd 131 7 (a_push 9 (.int (iZ 15))) := snd_bipush (by decide +kernel : decode (mBc 131) 7 = .ok (.bipush 15, 2)) (by decide +kernel) rfl
theorem s131_9 : mSnd 131 9 (a_ii 10 (fun x y => x &&& y)) := snd_iand (by decide +kernel : decode (mBc 131) 9 = .ok (.iand, 1)) rfl
theorem s131_10 : mSnd 131 10 (a_iret 0 0) := snd_iret rfl rfl rfl (by decide +kernel : decode (mBc 131) 10 = .ok (.ireturn, 1))
theorem ok131 : mOkl2 131 ct131 := ⟨⟨s131_0, s131_1, s131_3, s131_4, s131_5, s131_6, s131_7, s131_9, s131_10, trivial⟩, trivial⟩
theorem s132_0 : mSnd 132 0 (a_push 1 (.int (iZ 0))) := snd_iconst (by decide +kernel : decode (mBc 132) 0 = .ok (.iconst 0, 1)) rfl rfl
theorem s132_1 : mSnd 132 1 (a_istore 2 3) := snd_istore_n (by decide +kernel : decode (mBc 132) 1 = .ok (.istore_n 3, 1)) rfl (by decide) rfl
theorem s132_2 : mSnd 132 2 (a_iload 3 3) := snd_iload_n (by decide +kernel : decode (mBc 132) 2 = .ok (.iload_n 3, 1)) rfl rfl
theorem s132_3 : mSnd 132 3 (a_push 4 (.int (iZ 4))) := snd_iconst (by decide +kernel : decode (mBc 132) 3 = .ok (.iconst 4, 1)) rfl rfl
theorem s132_4 : mSnd 132 4 (a_icmp 7 28 (fun x y => decide (y ≤ x))) := snd_icmp_ge (by decide +kernel : decode (mBc 132) 4 = .ok (.if_icmp .ge 24, 3)) rfl rfl
theorem s132_7 : mSnd 132 7 (a_lload 8 0) := snd_lload_n (by decide +kernel : decode (mBc 132) 7 = .ok (.lload_n 0, 1)) rfl rfl
theorem s132_8 : mSnd 132 8 (a_iload 9 3) := snd_iload_n (by decide +kernel : decode (mBc 132) 8 = .ok (.iload_n 3, 1)) rfl rfl
theorem s132_9 : mSnd 132 9 (a_invS 12 130 2 0 0 0 0) := snd_invS k132_130 rfl rfl q671 q656 q1 (by decide +kernel) (by decide +kernel : decode (mBc 132) 9 = .ok (.invokestatic 293, 3)) rfl
theorem s132_12 : mSnd 132 12 (a_iload 13 2) := snd_iload_n (by decide +kernel : decode (mBc 132) 12 = .ok (.iload_n 2, 1)) rfl rfl
theorem s132_13 : mSnd 132 13 (a_icmp 16 22 (fun x y => decide (¬ x = y))) := snd_icmp_ne (by decide +kernel : decode (mBc 132) 13 = .ok (.if_icmp .ne 9, 3)) rfl rfl
theorem s132_16 : mSnd 132 16 (a_lload 17 0) := snd_lload_n (by decide +kernel : decode (mBc 132) 16 = .ok (.lload_n 0, 1)) rfl rfl
theorem s132_17 : mSnd 132 17 (a_iload 18 3) := snd_iload_n (by decide +kernel : decode (mBc 132) 17 = .ok (.iload_n 3, 1)) rfl rfl
theorem s132_18 : mSnd 132 18 (a_invS 21 131 2 0 0 0 0) := snd_invS k132_131 rfl rfl q661 q653 q1 (by decide +kernel) (by decide +kernel : decode (mBc 132) 18 = .ok (.invokestatic 296, 3)) rfl
theorem s132_21 : mSnd 132 21 (a_iret 0 0) := snd_iret rfl rfl rfl (by decide +kernel : decode (mBc 132) 21 = .ok (.ireturn, 1))
theorem s132_22 : mSnd 132 22 (a_iinc 25 3 (iZ 1)) := snd_iinc (by decide +kernel : decode (mBc 132) 22 = .ok (.iinc 3 1, 3)) rfl (by decide) rfl
theorem s132_25 : mSnd 132 25 (a_goto 2) := snd_goto (by decide +kernel : decode (mBc 132) 25 = .ok (.goto (-23), 3)) rfl
theorem s132_28 : mSnd 132 28 (a_push 29 (.int (iZ 0))) := snd_iconst (by decide +kernel : decode (mBc 132) 28 = .ok (.iconst 0, 1)) rfl rfl
theorem s132_29 : mSnd 132 29 (a_iret 0 0) := snd_iret rfl rfl rfl (by decide +kernel : decode (mBc 132) 29 = .ok (.ireturn, 1))
theorem ok132 : mOkl2 132 ct132 := ⟨⟨s132_0, s132_1, s132_2, s132_3, s132_4, s132_7, s132_8, s132_9, s132_12, s132_13, s132_16, s132_17, trivial⟩, ⟨s132_18, s132_21, s132_22, s132_25, s132_28, s132_29, trivial⟩, trivial⟩
theorem s133_0 : mSnd 133 0 (a_push 1 (.int (iZ 0))) := snd_iconst (by decide +kernel : decode (mBc 133) 0 = .ok (.iconst 0, 1)) rfl rfl
theorem s133_1 : mSnd 133 1 (a_istore 2 2) := snd_istore_n (by decide +kernel : decode (mBc 133) 1 = .ok (.istore_n 2, 1)) rfl (by decide) rfl
theorem s133_2 : mSnd 133 2 (a_push 3 (.int (iZ 0))) := snd_iconst (by decide +kernel : decode (mBc 133) 2 = .ok (.iconst 0, 1)) rfl rfl
theorem s133_3 : mSnd 133 3 (a_istore 4 3) := snd_istore_n (by decide +kernel : decode (mBc 133) 3 = .ok (.istore_n 3, 1)) rfl (by decide) rfl
theorem s133_4 : mSnd 133 4 (a_iload 5 3) := snd_iload_n (by decide +kernel : decode (mBc 133) 4 = .ok (.iload_n 3, 1)) rfl rfl
theorem s133_5 : mSnd 133 5 (a_push 6 (.int (iZ 4))) := snd_iconst (by decide +kernel : decode (mBc 133) 5 = .ok (.iconst 4, 1)) rfl rfl
theorem s133_6 : mSnd 133 6 (a_icmp 9 23 (fun x y => decide (y ≤ x))) := snd_icmp_ge (by decide +kernel : decode (mBc 133) 6 = .ok (.if_icmp .ge 17, 3)) rfl rfl
theorem s133_9 : mSnd 133 9 (a_iload 10 2) := snd_iload_n (by decide +kernel : decode (mBc 133) 9 = .ok (.iload_n 2, 1)) rfl rfl
theorem s133_10 : mSnd 133 10 (a_lload 11 0) := snd_lload_n (by decide +kernel : decode (mBc 133) 10 = .ok (.lload_n 0, 1)) rfl rfl
theorem s133_11 : mSnd 133 11 (a_iload 12 3) := snd_iload_n (by decide +kernel : decode (mBc 133) 11 = .ok (.iload_n 3, 1)) rfl rfl
theorem s133_12 : mSnd 133 12 (a_invS 15 131 2 0 0 0 0) := snd_invS k133_131 rfl rfl q661 q653 q1 (by decide +kernel) (by decide +kernel : decode (mBc 133) 12 = .ok (.invokestatic 296, 3)) rfl
theorem s133_15 : mSnd 133 15 (a_ii 16 (fun x y => x + y)) := snd_iadd (by decide +kernel : decode (mBc 133) 15 = .ok (.iadd, 1)) rfl
theorem s133_16 : mSnd 133 16 (a_istore 17 2) := snd_istore_n (by decide +kernel : decode (mBc 133) 16 = .ok (.istore_n 2, 1)) rfl (by decide) rfl
theorem s133_17 : mSnd 133 17 (a_iinc 20 3 (iZ 1)) := snd_iinc (by decide +kernel : decode (mBc 133) 17 = .ok (.iinc 3 1, 3)) rfl (by decide) rfl
theorem s133_20 : mSnd 133 20 (a_goto 4) := snd_goto (by decide +kernel : decode (mBc 133) 20 = .ok (.goto (-16), 3)) rfl
theorem s133_23 : mSnd 133 23 (a_iload 24 2) := snd_iload_n (by decide +kernel : decode (mBc 133) 23 = .ok (.iload_n 2, 1)) rfl rfl
theorem s133_24 : mSnd 133 24 (a_iret 0 0) := snd_iret rfl rfl rfl (by decide +kernel : decode (mBc 133) 24 = .ok (.ireturn, 1))
theorem ok133 : mOkl2 133 ct133 := ⟨⟨s133_0, s133_1, s133_2, s133_3, s133_4, s133_5, s133_6, s133_9, s133_10, s133_11, s133_12, s133_15, trivial⟩, ⟨s133_16, s133_17, s133_20, s133_23, s133_24, trivial⟩, trivial⟩
theorem s134_0 : mSnd 134 0 (a_lload 1 0) := snd_lload_n (by decide +kernel : decode (mBc 134) 0 = .ok (.lload_n 0, 1)) rfl rfl
theorem s134_1 : mSnd 134 1 (a_invS 4 218 1 0 0 0 0) := snd_invS k134_218 rfl rfl q552 q553 q9 (by decide +kernel) (by decide +kernel : decode (mBc 134) 1 = .ok (.invokestatic 299, 3)) rfl
theorem s134_4 : mSnd 134 4 (a_lload 5 2) := snd_lload_n (by decide +kernel : decode (mBc 134) 4 = .ok (.lload_n 2, 1)) rfl rfl
theorem s134_5 : mSnd 134 5 (a_invS 8 135 2 0 0 0 0) := snd_invS k134_135 rfl rfl q555 q556 q1 (by decide +kernel) (by decide +kernel : decode (mBc 134) 5 = .ok (.invokestatic 305, 3)) rfl
theorem s134_8 : mSnd 134 8 (a_lstore 10 5) := snd_lstore (by decide +kernel : decode (mBc 134) 8 = .ok (.lstore 5, 2)) (by decide) rfl
theorem s134_10 : mSnd 134 10 (a_lload 12 5) := snd_lload (by decide +kernel : decode (mBc 134) 10 = .ok (.lload 5, 2)) rfl
theorem s134_12 : mSnd 134 12 (a_push 13 (.long (lZ 1))) := snd_lconst (by decide +kernel : decode (mBc 134) 12 = .ok (.lconst 1, 1)) (by decide +kernel) rfl
theorem s134_13 : mSnd 134 13 (a_lcmp 14) := snd_lcmp (by decide +kernel : decode (mBc 134) 13 = .ok (.lcmp, 1)) rfl
theorem s134_14 : mSnd 134 14 (a_if 17 28 (fun x => decide (x < 0))) := snd_if_lt (by decide +kernel : decode (mBc 134) 14 = .ok (.ifCond .lt 14, 3)) rfl rfl
theorem s134_17 : mSnd 134 17 (a_iload 19 4) := snd_iload (by decide +kernel : decode (mBc 134) 17 = .ok (.iload 4, 2)) rfl
theorem s134_19 : mSnd 134 19 (a_if 22 32 (fun x => decide (x = 0))) := snd_if_eq (by decide +kernel : decode (mBc 134) 19 = .ok (.ifCond .eq 13, 3)) rfl rfl
theorem s134_22 : mSnd 134 22 (a_iload 24 4) := snd_iload (by decide +kernel : decode (mBc 134) 22 = .ok (.iload 4, 2)) rfl
theorem s134_24 : mSnd 134 24 (a_push 25 (.int (iZ 1))) := snd_iconst (by decide +kernel : decode (mBc 134) 24 = .ok (.iconst 1, 1)) rfl rfl
theorem s134_25 : mSnd 134 25 (a_icmp 28 32 (fun x y => decide (x = y))) := snd_icmp_eq (by decide +kernel : decode (mBc 134) 25 = .ok (.if_icmp .eq 7, 3)) rfl rfl
theorem s134_28 : mSnd 134 28 (a_push 31 (.long (lZ (-4611686018427387904)))) := snd_ldc2 q501 (by decide +kernel : decode (mBc 134) 28 = .ok (.ldc2_w 145, 3)) rfl
theorem s134_31 : mSnd 134 31 (a_lret 0 0) := snd_lret rfl rfl rfl (by decide +kernel : decode (mBc 134) 31 = .ok (.lreturn, 1))
theorem s134_32 : mSnd 134 32 (a_iload 34 4) := snd_iload (by decide +kernel : decode (mBc 134) 32 = .ok (.iload 4, 2)) rfl
theorem s134_34 : mSnd 134 34 (a_if 37 41 (fun x => decide (¬ x = 0))) := snd_if_ne (by decide +kernel : decode (mBc 134) 34 = .ok (.ifCond .ne 7, 3)) rfl rfl
theorem s134_37 : mSnd 134 37 (a_lload 38 0) := snd_lload_n (by decide +kernel : decode (mBc 134) 37 = .ok (.lload_n 0, 1)) rfl rfl
theorem s134_38 : mSnd 134 38 (a_goto 42) := snd_goto (by decide +kernel : decode (mBc 134) 38 = .ok (.goto 4, 3)) rfl
theorem s134_41 : mSnd 134 41 (a_lload 42 2) := snd_lload_n (by decide +kernel : decode (mBc 134) 41 = .ok (.lload_n 2, 1)) rfl rfl
theorem s134_42 : mSnd 134 42 (a_lload 44 5) := snd_lload (by decide +kernel : decode (mBc 134) 42 = .ok (.lload 5, 2)) rfl
theorem s134_44 : mSnd 134 44 (a_lld 45 (fun x y => x / y)) := snd_ldiv (by decide +kernel : decode (mBc 134) 44 = .ok (.ldiv, 1)) rfl
theorem s134_45 : mSnd 134 45 (a_lret 0 0) := snd_lret rfl rfl rfl (by decide +kernel : decode (mBc 134) 45 = .ok (.lreturn, 1))
theorem ok134 : mOkl2 134 ct134 := ⟨⟨s134_0, s134_1, s134_4, s134_5, s134_8, s134_10, s134_12, s134_13, s134_14, s134_17, s134_19, s134_22, trivial⟩, ⟨s134_24, s134_25, s134_28, s134_31, s134_32, s134_34, s134_37, s134_38, s134_41, s134_42, s134_44, s134_45, trivial⟩, trivial⟩
theorem s135_0 : mSnd 135 0 (a_lload 1 0) := snd_lload_n (by decide +kernel : decode (mBc 135) 0 = .ok (.lload_n 0, 1)) rfl rfl
theorem s135_1 : mSnd 135 1 (a_lstore 3 4) := snd_lstore (by decide +kernel : decode (mBc 135) 1 = .ok (.lstore 4, 2)) (by decide) rfl
theorem s135_3 : mSnd 135 3 (a_lload 4 2) := snd_lload_n (by decide +kernel : decode (mBc 135) 3 = .ok (.lload_n 2, 1)) rfl rfl
theorem s135_4 : mSnd 135 4 (a_lstore 6 6) := snd_lstore (by decide +kernel : decode (mBc 135) 4 = .ok (.lstore 6, 2)) (by decide) rfl
theorem s135_6 : mSnd 135 6 (a_push 7 (.int (iZ 0))) := snd_iconst (by decide +kernel : decode (mBc 135) 6 = .ok (.iconst 0, 1)) rfl rfl
theorem s135_7 : mSnd 135 7 (a_istore 9 8) := snd_istore (by decide +kernel : decode (mBc 135) 7 = .ok (.istore 8, 2)) (by decide) rfl
theorem s135_9 : mSnd 135 9 (a_iload 11 8) := snd_iload (by decide +kernel : decode (mBc 135) 9 = .ok (.iload 8, 2)) rfl
theorem s135_11 : mSnd 135 11 (a_push 14 (.int (iZ 128))) := snd_sipush (by decide +kernel : decode (mBc 135) 11 = .ok (.sipush 128, 3)) (by decide +kernel) rfl
theorem s135_14 : mSnd 135 14 (a_icmp 17 45 (fun x y => decide (y ≤ x))) := snd_icmp_ge (by decide +kernel : decode (mBc 135) 14 = .ok (.if_icmp .ge 31, 3)) rfl rfl
theorem s135_17 : mSnd 135 17 (a_lload 19 6) := snd_lload (by decide +kernel : decode (mBc 135) 17 = .ok (.lload 6, 2)) rfl
theorem s135_19 : mSnd 135 19 (a_push 20 (.long (lZ 0))) := snd_lconst (by decide +kernel : decode (mBc 135) 19 = .ok (.lconst 0, 1)) (by decide +kernel) rfl
theorem s135_20 : mSnd 135 20 (a_lcmp 21) := snd_lcmp (by decide +kernel : decode (mBc 135) 20 = .ok (.lcmp, 1)) rfl
theorem s135_21 : mSnd 135 21 (a_if 24 45 (fun x => decide (x = 0))) := snd_if_eq (by decide +kernel : decode (mBc 135) 21 = .ok (.ifCond .eq 24, 3)) rfl rfl
theorem s135_24 : mSnd 135 24 (a_lload 26 4) := snd_lload (by decide +kernel : decode (mBc 135) 24 = .ok (.lload 4, 2)) rfl
theorem s135_26 : mSnd 135 26 (a_lload 28 6) := snd_lload (by decide +kernel : decode (mBc 135) 26 = .ok (.lload 6, 2)) rfl
theorem s135_28 : mSnd 135 28 (a_lld 29 (fun x y => x - x / y * y)) := snd_lrem (by decide +kernel : decode (mBc 135) 28 = .ok (.lrem, 1)) rfl
theorem s135_29 : mSnd 135 29 (a_lstore 31 9) := snd_lstore (by decide +kernel : decode (mBc 135) 29 = .ok (.lstore 9, 2)) (by decide) rfl
theorem s135_31 : mSnd 135 31 (a_lload 33 6) := snd_lload (by decide +kernel : decode (mBc 135) 31 = .ok (.lload 6, 2)) rfl
theorem s135_33 : mSnd 135 33 (a_lstore 35 4) := snd_lstore (by decide +kernel : decode (mBc 135) 33 = .ok (.lstore 4, 2)) (by decide) rfl
theorem s135_35 : mSnd 135 35 (a_lload 37 9) := snd_lload (by decide +kernel : decode (mBc 135) 35 = .ok (.lload 9, 2)) rfl
theorem s135_37 : mSnd 135 37 (a_lstore 39 6) := snd_lstore (by decide +kernel : decode (mBc 135) 37 = .ok (.lstore 6, 2)) (by decide) rfl
theorem s135_39 : mSnd 135 39 (a_iinc 42 8 (iZ 1)) := snd_iinc (by decide +kernel : decode (mBc 135) 39 = .ok (.iinc 8 1, 3)) rfl (by decide) rfl
theorem s135_42 : mSnd 135 42 (a_goto 9) := snd_goto (by decide +kernel : decode (mBc 135) 42 = .ok (.goto (-33), 3)) rfl
theorem s135_45 : mSnd 135 45 (a_lload 47 4) := snd_lload (by decide +kernel : decode (mBc 135) 45 = .ok (.lload 4, 2)) rfl
theorem s135_47 : mSnd 135 47 (a_lret 0 0) := snd_lret rfl rfl rfl (by decide +kernel : decode (mBc 135) 47 = .ok (.lreturn, 1))
theorem ok135 : mOkl2 135 ct135 := ⟨⟨s135_0, s135_1, s135_3, s135_4, s135_6, s135_7, s135_9, s135_11, s135_14, s135_17, s135_19, s135_20, trivial⟩, ⟨s135_21, s135_24, s135_26, s135_28, s135_29, s135_31, s135_33, s135_35, s135_37, s135_39, s135_42, s135_45, trivial⟩, ⟨s135_47, trivial⟩, trivial⟩
