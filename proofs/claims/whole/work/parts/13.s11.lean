theorem s191_0 : mSnd 191 0 (a_push 1 (.int (iZ 0))) := snd_iconst (by decide +kernel : decode (mBc 191) 0 = .ok (.iconst 0, 1)) rfl rfl
theorem s191_1 : mSnd 191 1 (a_istore 2 2) := snd_istore_n (by decide +kernel : decode (mBc 191) 1 = .ok (.istore_n 2, 1)) rfl (by decide) rfl
theorem s191_2 : mSnd 191 2 (a_push 3 (.int (iZ 0))) := snd_iconst (by decide +kernel : decode (mBc 191) 2 = .ok (.iconst 0, 1)) rfl rfl
theorem s191_3 : mSnd 191 3 (a_istore 4 3) := snd_istore_n (by decide +kernel : decode (mBc 191) 3 = .ok (.istore_n 3, 1)) rfl (by decide) rfl
theorem s191_4 : mSnd 191 4 (a_iload 5 3) := snd_iload_n (by decide +kernel : decode (mBc 191) 4 = .ok (.iload_n 3, 1)) rfl rfl
theorem s191_5 : mSnd 191 5 (a_aload 6 0) := snd_aload_n (by decide +kernel : decode (mBc 191) 5 = .ok (.aload_n 0, 1)) rfl rfl
theorem s191_6 : mSnd 191 6 (a_getf 9 2 [10]) := snd_getf f29 q904 (Or.inl rfl) (by decide +kernel : decode (mBc 191) 6 = .ok (.getfield 17, 3)) rfl
theorem s191_9 : mSnd 191 9 (a_iload 10 1) := snd_iload_n (by decide +kernel : decode (mBc 191) 9 = .ok (.iload_n 1, 1)) rfl rfl
theorem s191_10 : mSnd 191 10 (a_iald 11) := snd_iald (by decide +kernel : decode (mBc 191) 10 = .ok (.iaload, 1)) rfl
theorem s191_11 : mSnd 191 11 (a_icmp 14 50 (fun x y => decide (y ≤ x))) := snd_icmp_ge (by decide +kernel : decode (mBc 191) 11 = .ok (.if_icmp .ge 39, 3)) rfl rfl
theorem s191_14 : mSnd 191 14 (a_iload 15 2) := snd_iload_n (by decide +kernel : decode (mBc 191) 14 = .ok (.iload_n 2, 1)) rfl rfl
theorem s191_15 : mSnd 191 15 (a_aload 16 0) := snd_aload_n (by decide +kernel : decode (mBc 191) 15 = .ok (.aload_n 0, 1)) rfl rfl
theorem s191_16 : mSnd 191 16 (a_iload 17 1) := snd_iload_n (by decide +kernel : decode (mBc 191) 16 = .ok (.iload_n 1, 1)) rfl rfl
theorem s191_17 : mSnd 191 17 (a_iload 18 3) := snd_iload_n (by decide +kernel : decode (mBc 191) 17 = .ok (.iload_n 3, 1)) rfl rfl
theorem s191_18 : mSnd 191 18 (a_aload 19 0) := snd_aload_n (by decide +kernel : decode (mBc 191) 18 = .ok (.aload_n 0, 1)) rfl rfl
theorem s191_19 : mSnd 191 19 (a_iload 20 1) := snd_iload_n (by decide +kernel : decode (mBc 191) 19 = .ok (.iload_n 1, 1)) rfl rfl
theorem s191_20 : mSnd 191 20 (a_invV 23 1 0 0 [(10, 139, 0, 0)]) := snd_invV v191_80 rfl rfl (by decide +kernel : decode (mBc 191) 20 = .ok (.invokevirtual 80, 3)) rfl
theorem s191_23 : mSnd 191 23 (a_push 24 (.int (iZ 1))) := snd_iconst (by decide +kernel : decode (mBc 191) 23 = .ok (.iconst 1, 1)) rfl rfl
theorem s191_24 : mSnd 191 24 (a_iload 25 3) := snd_iload_n (by decide +kernel : decode (mBc 191) 24 = .ok (.iload_n 3, 1)) rfl rfl
theorem s191_25 : mSnd 191 25 (a_ii 26 (fun x y => x <<< (y &&& 31))) := snd_ishl (by decide +kernel : decode (mBc 191) 25 = .ok (.ishl, 1)) rfl
theorem s191_26 : mSnd 191 26 (a_push 27 (.int (iZ (-1)))) := snd_iconst (by decide +kernel : decode (mBc 191) 26 = .ok (.iconst (-1), 1)) rfl rfl
theorem s191_27 : mSnd 191 27 (a_ii 28 (fun x y => x ^^^ y)) := snd_ixor (by decide +kernel : decode (mBc 191) 27 = .ok (.ixor, 1)) rfl
theorem s191_28 : mSnd 191 28 (a_ii 29 (fun x y => x &&& y)) := snd_iand (by decide +kernel : decode (mBc 191) 28 = .ok (.iand, 1)) rfl
theorem s191_29 : mSnd 191 29 (a_invV 32 3 0 0 [(10, 162, 0, 0)]) := snd_invV v191_130 rfl rfl (by decide +kernel : decode (mBc 191) 29 = .ok (.invokevirtual 130, 3)) rfl
theorem s191_32 : mSnd 191 32 (a_push 33 (.long (lZ 0))) := snd_lconst (by decide +kernel : decode (mBc 191) 32 = .ok (.lconst 0, 1)) (by decide +kernel) rfl
theorem s191_33 : mSnd 191 33 (a_lcmp 34) := snd_lcmp (by decide +kernel : decode (mBc 191) 33 = .ok (.lcmp, 1)) rfl
theorem s191_34 : mSnd 191 34 (a_if 37 41 (fun x => decide (0 ≤ x))) := snd_if_ge (by decide +kernel : decode (mBc 191) 34 = .ok (.ifCond .ge 7, 3)) rfl rfl
theorem s191_37 : mSnd 191 37 (a_push 38 (.int (iZ 1))) := snd_iconst (by decide +kernel : decode (mBc 191) 37 = .ok (.iconst 1, 1)) rfl rfl
theorem s191_38 : mSnd 191 38 (a_goto 42) := snd_goto (by decide +kernel : decode (mBc 191) 38 = .ok (.goto 4, 3)) rfl
theorem s191_41 : mSnd 191 41 (a_push 42 (.int (iZ 0))) := snd_iconst (by decide +kernel : decode (mBc 191) 41 = .ok (.iconst 0, 1)) rfl rfl
theorem s191_42 : mSnd 191 42 (a_ii 43 (fun x y => x + y)) := snd_iadd (by decide +kernel : decode (mBc 191) 42 = .ok (.iadd, 1)) rfl
theorem s191_43 : mSnd 191 43 (a_istore 44 2) := snd_istore_n (by decide +kernel : decode (mBc 191) 43 = .ok (.istore_n 2, 1)) rfl (by decide) rfl
theorem s191_44 : mSnd 191 44 (a_iinc 47 3 (iZ 1)) := snd_iinc (by decide +kernel : decode (mBc 191) 44 = .ok (.iinc 3 1, 3)) rfl (by decide) rfl
theorem s191_47 : mSnd 191 47 (a_goto 4) := snd_goto (by decide +kernel : decode (mBc 191) 47 = .ok (.goto (-43), 3)) rfl
theorem s191_50 : mSnd 191 50 (a_iload 51 2) := snd_iload_n (by decide +kernel : decode (mBc 191) 50 = .ok (.iload_n 2, 1)) rfl rfl
theorem s191_51 : mSnd 191 51 (a_iret 0 0) := snd_iret rfl rfl rfl (by decide +kernel : decode (mBc 191) 51 = .ok (.ireturn, 1))
theorem ok191 : mOkl2 191 ct191 := ⟨⟨s191_0, s191_1, s191_2, s191_3, s191_4, s191_5, s191_6, s191_9, s191_10, s191_11, s191_14, s191_15, trivial⟩, ⟨s191_16, s191_17, s191_18, s191_19, s191_20, s191_23, s191_24, s191_25, s191_26, s191_27, s191_28, s191_29, trivial⟩, ⟨s191_32, s191_33, s191_34, s191_37, s191_38, s191_41, s191_42, s191_43, s191_44, s191_47, s191_50, s191_51, trivial⟩, trivial⟩
theorem s192_0 : mSnd 192 0 (a_aload 1 0) := snd_aload_n (by decide +kernel : decode (mBc 192) 0 = .ok (.aload_n 0, 1)) rfl rfl
theorem s192_1 : mSnd 192 1 (a_iload 2 1) := snd_iload_n (by decide +kernel : decode (mBc 192) 1 = .ok (.iload_n 1, 1)) rfl rfl
theorem s192_2 : mSnd 192 2 (a_invV 5 1 0 0 [(10, 138, 0, 0)]) := snd_invV v192_92 rfl rfl (by decide +kernel : decode (mBc 192) 2 = .ok (.invokevirtual 92, 3)) rfl
theorem s192_5 : mSnd 192 5 (a_if 8 19 (fun x => decide (x = 0))) := snd_if_eq (by decide +kernel : decode (mBc 192) 5 = .ok (.ifCond .eq 14, 3)) rfl rfl
theorem s192_8 : mSnd 192 8 (a_aload 9 0) := snd_aload_n (by decide +kernel : decode (mBc 192) 8 = .ok (.aload_n 0, 1)) rfl rfl
theorem s192_9 : mSnd 192 9 (a_iload 10 2) := snd_iload_n (by decide +kernel : decode (mBc 192) 9 = .ok (.iload_n 2, 1)) rfl rfl
theorem s192_10 : mSnd 192 10 (a_push 11 (.int (iZ 0))) := snd_iconst (by decide +kernel : decode (mBc 192) 10 = .ok (.iconst 0, 1)) rfl rfl
theorem s192_11 : mSnd 192 11 (a_push 13 (.int (iZ 6))) := snd_bipush (by decide +kernel : decode (mBc 192) 11 = .ok (.bipush 6, 2)) (by decide +kernel) rfl
theorem s192_13 : mSnd 192 13 (a_invV 16 3 0 0 [(10, 137, 0, 0)]) := snd_invV v192_76 rfl rfl (by decide +kernel : decode (mBc 192) 13 = .ok (.invokevirtual 76, 3)) rfl
theorem s192_16 : mSnd 192 16 (a_if 19 22 (fun x => decide (¬ x = 0))) := snd_if_ne (by decide +kernel : decode (mBc 192) 16 = .ok (.ifCond .ne 6, 3)) rfl rfl
theorem s192_19 : mSnd 192 19 (a_push 21 (.int (iZ (-2)))) := snd_bipush (by decide +kernel : decode (mBc 192) 19 = .ok (.bipush (-2), 2)) (by decide +kernel) rfl
theorem s192_21 : mSnd 192 21 (a_iret 0 0) := snd_iret rfl rfl rfl (by decide +kernel : decode (mBc 192) 21 = .ok (.ireturn, 1))
theorem s192_22 : mSnd 192 22 (a_iload 23 2) := snd_iload_n (by decide +kernel : decode (mBc 192) 22 = .ok (.iload_n 2, 1)) rfl rfl
theorem s192_23 : mSnd 192 23 (a_tsw 105 0 6 [64, 71, 105, 105, 78, 93, 99]) := snd_tsw (by decide +kernel : decode (mBc 192) 23 = .ok (.tableswitch 82 0 6 #[41, 48, 82, 82, 55, 70, 76], 41)) rfl (by decide +kernel)
theorem s192_64 : mSnd 192 64 (a_aload 65 0) := snd_aload_n (by decide +kernel : decode (mBc 192) 64 = .ok (.aload_n 0, 1)) rfl rfl
theorem s192_65 : mSnd 192 65 (a_getf 68 1 [10]) := snd_getf f28 q903 (Or.inl rfl) (by decide +kernel : decode (mBc 192) 65 = .ok (.getfield 13, 3)) rfl
theorem s192_68 : mSnd 192 68 (a_iload 69 1) := snd_iload_n (by decide +kernel : decode (mBc 192) 68 = .ok (.iload_n 1, 1)) rfl rfl
theorem s192_69 : mSnd 192 69 (a_iald 70) := snd_iald (by decide +kernel : decode (mBc 192) 69 = .ok (.iaload, 1)) rfl
theorem s192_70 : mSnd 192 70 (a_iret 0 0) := snd_iret rfl rfl rfl (by decide +kernel : decode (mBc 192) 70 = .ok (.ireturn, 1))
theorem s192_71 : mSnd 192 71 (a_aload 72 0) := snd_aload_n (by decide +kernel : decode (mBc 192) 71 = .ok (.aload_n 0, 1)) rfl rfl
theorem s192_72 : mSnd 192 72 (a_getf 75 2 [10]) := snd_getf f29 q904 (Or.inl rfl) (by decide +kernel : decode (mBc 192) 72 = .ok (.getfield 17, 3)) rfl
theorem s192_75 : mSnd 192 75 (a_iload 76 1) := snd_iload_n (by decide +kernel : decode (mBc 192) 75 = .ok (.iload_n 1, 1)) rfl rfl
theorem s192_76 : mSnd 192 76 (a_iald 77) := snd_iald (by decide +kernel : decode (mBc 192) 76 = .ok (.iaload, 1)) rfl
theorem s192_77 : mSnd 192 77 (a_iret 0 0) := snd_iret rfl rfl rfl (by decide +kernel : decode (mBc 192) 77 = .ok (.ireturn, 1))
theorem s192_78 : mSnd 192 78 (a_aload 79 0) := snd_aload_n (by decide +kernel : decode (mBc 192) 78 = .ok (.aload_n 0, 1)) rfl rfl
theorem s192_79 : mSnd 192 79 (a_iload 80 1) := snd_iload_n (by decide +kernel : decode (mBc 192) 79 = .ok (.iload_n 1, 1)) rfl rfl
theorem s192_80 : mSnd 192 80 (a_invV 83 1 0 0 [(10, 189, 0, 0)]) := snd_invV v192_196 rfl rfl (by decide +kernel : decode (mBc 192) 80 = .ok (.invokevirtual 196, 3)) rfl
theorem s192_83 : mSnd 192 83 (a_push 84 (.int (iZ (-1)))) := snd_iconst (by decide +kernel : decode (mBc 192) 83 = .ok (.iconst (-1), 1)) rfl rfl
theorem s192_84 : mSnd 192 84 (a_icmp 87 91 (fun x y => decide (¬ x = y))) := snd_icmp_ne (by decide +kernel : decode (mBc 192) 84 = .ok (.if_icmp .ne 7, 3)) rfl rfl
theorem s192_87 : mSnd 192 87 (a_push 88 (.int (iZ 1))) := snd_iconst (by decide +kernel : decode (mBc 192) 87 = .ok (.iconst 1, 1)) rfl rfl
theorem s192_88 : mSnd 192 88 (a_goto 92) := snd_goto (by decide +kernel : decode (mBc 192) 88 = .ok (.goto 4, 3)) rfl
theorem s192_91 : mSnd 192 91 (a_push 92 (.int (iZ 0))) := snd_iconst (by decide +kernel : decode (mBc 192) 91 = .ok (.iconst 0, 1)) rfl rfl
theorem s192_92 : mSnd 192 92 (a_iret 0 0) := snd_iret rfl rfl rfl (by decide +kernel : decode (mBc 192) 92 = .ok (.ireturn, 1))
theorem s192_93 : mSnd 192 93 (a_aload 94 0) := snd_aload_n (by decide +kernel : decode (mBc 192) 93 = .ok (.aload_n 0, 1)) rfl rfl
theorem s192_94 : mSnd 192 94 (a_iload 95 1) := snd_iload_n (by decide +kernel : decode (mBc 192) 94 = .ok (.iload_n 1, 1)) rfl rfl
theorem s192_95 : mSnd 192 95 (a_invV 98 1 0 0 [(10, 190, 0, 0)]) := snd_invV v192_199 rfl rfl (by decide +kernel : decode (mBc 192) 95 = .ok (.invokevirtual 199, 3)) rfl
theorem s192_98 : mSnd 192 98 (a_iret 0 0) := snd_iret rfl rfl rfl (by decide +kernel : decode (mBc 192) 98 = .ok (.ireturn, 1))
theorem s192_99 : mSnd 192 99 (a_aload 100 0) := snd_aload_n (by decide +kernel : decode (mBc 192) 99 = .ok (.aload_n 0, 1)) rfl rfl
theorem s192_100 : mSnd 192 100 (a_iload 101 1) := snd_iload_n (by decide +kernel : decode (mBc 192) 100 = .ok (.iload_n 1, 1)) rfl rfl
theorem s192_101 : mSnd 192 101 (a_invV 104 1 0 0 [(10, 191, 0, 0)]) := snd_invV v192_202 rfl rfl (by decide +kernel : decode (mBc 192) 101 = .ok (.invokevirtual 202, 3)) rfl
theorem s192_104 : mSnd 192 104 (a_iret 0 0) := snd_iret rfl rfl rfl (by decide +kernel : decode (mBc 192) 104 = .ok (.ireturn, 1))
theorem s192_105 : mSnd 192 105 (a_aload 106 0) := snd_aload_n (by decide +kernel : decode (mBc 192) 105 = .ok (.aload_n 0, 1)) rfl rfl
theorem s192_106 : mSnd 192 106 (a_iload 107 1) := snd_iload_n (by decide +kernel : decode (mBc 192) 106 = .ok (.iload_n 1, 1)) rfl rfl
theorem s192_107 : mSnd 192 107 (a_invV 110 1 0 0 [(10, 182, 0, 0)]) := snd_invV v192_187 rfl rfl (by decide +kernel : decode (mBc 192) 107 = .ok (.invokevirtual 187, 3)) rfl
theorem s192_110 : mSnd 192 110 (a_iload 111 2) := snd_iload_n (by decide +kernel : decode (mBc 192) 110 = .ok (.iload_n 2, 1)) rfl rfl
theorem s192_111 : mSnd 192 111 (a_push 112 (.int (iZ 3))) := snd_iconst (by decide +kernel : decode (mBc 192) 111 = .ok (.iconst 3, 1)) rfl rfl
theorem s192_112 : mSnd 192 112 (a_icmp 115 122 (fun x y => decide (¬ x = y))) := snd_icmp_ne (by decide +kernel : decode (mBc 192) 112 = .ok (.if_icmp .ne 10, 3)) rfl rfl
theorem s192_115 : mSnd 192 115 (a_aload 116 0) := snd_aload_n (by decide +kernel : decode (mBc 192) 115 = .ok (.aload_n 0, 1)) rfl rfl
theorem s192_116 : mSnd 192 116 (a_getf 119 5 [10]) := snd_getf f32 q907 (Or.inl rfl) (by decide +kernel : decode (mBc 192) 116 = .ok (.getfield 27, 3)) rfl
theorem s192_119 : mSnd 192 119 (a_goto 134) := snd_goto (by decide +kernel : decode (mBc 192) 119 = .ok (.goto 15, 3)) rfl
theorem s192_122 : mSnd 192 122 (a_aload 123 0) := snd_aload_n (by decide +kernel : decode (mBc 192) 122 = .ok (.aload_n 0, 1)) rfl rfl
theorem s192_123 : mSnd 192 123 (a_getf 126 5 [10]) := snd_getf f32 q907 (Or.inl rfl) (by decide +kernel : decode (mBc 192) 123 = .ok (.getfield 27, 3)) rfl
theorem s192_126 : mSnd 192 126 (a_if 129 133 (fun x => decide (x ≤ 0))) := snd_if_le (by decide +kernel : decode (mBc 192) 126 = .ok (.ifCond .le 7, 3)) rfl rfl
theorem s192_129 : mSnd 192 129 (a_push 130 (.int (iZ 1))) := snd_iconst (by decide +kernel : decode (mBc 192) 129 = .ok (.iconst 1, 1)) rfl rfl
theorem s192_130 : mSnd 192 130 (a_goto 134) := snd_goto (by decide +kernel : decode (mBc 192) 130 = .ok (.goto 4, 3)) rfl
theorem s192_133 : mSnd 192 133 (a_push 134 (.int (iZ 0))) := snd_iconst (by decide +kernel : decode (mBc 192) 133 = .ok (.iconst 0, 1)) rfl rfl
theorem s192_134 : mSnd 192 134 (a_iret 0 0) := snd_iret rfl rfl rfl (by decide +kernel : decode (mBc 192) 134 = .ok (.ireturn, 1))
theorem ok192 : mOkl2 192 ct192 := ⟨⟨s192_0, s192_1, s192_2, s192_5, s192_8, s192_9, s192_10, s192_11, s192_13, s192_16, s192_19, s192_21, trivial⟩, ⟨s192_22, s192_23, s192_64, s192_65, s192_68, s192_69, s192_70, s192_71, s192_72, s192_75, s192_76, s192_77, trivial⟩, ⟨s192_78, s192_79, s192_80, s192_83, s192_84, s192_87, s192_88, s192_91, s192_92, s192_93, s192_94, s192_95, trivial⟩, ⟨s192_98, s192_99, s192_100, s192_101, s192_104, s192_105, s192_106, s192_107, s192_110, s192_111, s192_112, s192_115, trivial⟩, ⟨s192_116, s192_119, s192_122, s192_123, s192_126, s192_129, s192_130, s192_133, s192_134, trivial⟩, trivial⟩
theorem s193_0 : mSnd 193 0 (a_aload 1 0) := snd_aload_n (by decide +kernel : decode (mBc 193) 0 = .ok (.aload_n 0, 1)) rfl rfl
theorem s193_1 : mSnd 193 1 (a_iload 2 1) := snd_iload_n (by decide +kernel : decode (mBc 193) 1 = .ok (.iload_n 1, 1)) rfl rfl
theorem s193_2 : mSnd 193 2 (a_invV 5 1 0 0 [(10, 138, 0, 0)]) := snd_invV v193_92 rfl rfl (by decide +kernel : decode (mBc 193) 2 = .ok (.invokevirtual 92, 3)) rfl
theorem s193_5 : mSnd 193 5 (a_if 8 31 (fun x => decide (x = 0))) := snd_if_eq (by decide +kernel : decode (mBc 193) 5 = .ok (.ifCond .eq 26, 3)) rfl rfl
theorem s193_8 : mSnd 193 8 (a_aload 9 0) := snd_aload_n (by decide +kernel : decode (mBc 193) 8 = .ok (.aload_n 0, 1)) rfl rfl
theorem s193_9 : mSnd 193 9 (a_iload 10 1) := snd_iload_n (by decide +kernel : decode (mBc 193) 9 = .ok (.iload_n 1, 1)) rfl rfl
theorem s193_10 : mSnd 193 10 (a_iload 11 2) := snd_iload_n (by decide +kernel : decode (mBc 193) 10 = .ok (.iload_n 2, 1)) rfl rfl
theorem s193_11 : mSnd 193 11 (a_invV 14 2 0 0 [(10, 143, 0, 0)]) := snd_invV v193_114 rfl rfl (by decide +kernel : decode (mBc 193) 11 = .ok (.invokevirtual 114, 3)) rfl
theorem s193_14 : mSnd 193 14 (a_if 17 31 (fun x => decide (x = 0))) := snd_if_eq (by decide +kernel : decode (mBc 193) 14 = .ok (.ifCond .eq 17, 3)) rfl rfl
theorem s193_17 : mSnd 193 17 (a_aload 18 0) := snd_aload_n (by decide +kernel : decode (mBc 193) 17 = .ok (.aload_n 0, 1)) rfl rfl
theorem s193_18 : mSnd 193 18 (a_iload 19 1) := snd_iload_n (by decide +kernel : decode (mBc 193) 18 = .ok (.iload_n 1, 1)) rfl rfl
theorem s193_19 : mSnd 193 19 (a_iload 20 3) := snd_iload_n (by decide +kernel : decode (mBc 193) 19 = .ok (.iload_n 3, 1)) rfl rfl
theorem s193_20 : mSnd 193 20 (a_invV 23 2 0 0 [(10, 143, 0, 0)]) := snd_invV v193_114 rfl rfl (by decide +kernel : decode (mBc 193) 20 = .ok (.invokevirtual 114, 3)) rfl
theorem s193_23 : mSnd 193 23 (a_if 26 31 (fun x => decide (x = 0))) := snd_if_eq (by decide +kernel : decode (mBc 193) 23 = .ok (.ifCond .eq 8, 3)) rfl rfl
theorem s193_26 : mSnd 193 26 (a_iload 27 2) := snd_iload_n (by decide +kernel : decode (mBc 193) 26 = .ok (.iload_n 2, 1)) rfl rfl
theorem s193_27 : mSnd 193 27 (a_iload 28 3) := snd_iload_n (by decide +kernel : decode (mBc 193) 27 = .ok (.iload_n 3, 1)) rfl rfl
theorem s193_28 : mSnd 193 28 (a_icmp 31 34 (fun x y => decide (¬ x = y))) := snd_icmp_ne (by decide +kernel : decode (mBc 193) 28 = .ok (.if_icmp .ne 6, 3)) rfl rfl
theorem s193_31 : mSnd 193 31 (a_push 33 (.int (iZ (-2)))) := snd_bipush (by decide +kernel : decode (mBc 193) 31 = .ok (.bipush (-2), 2)) (by decide +kernel) rfl
theorem s193_33 : mSnd 193 33 (a_iret 0 0) := snd_iret rfl rfl rfl (by decide +kernel : decode (mBc 193) 33 = .ok (.ireturn, 1))
theorem s193_34 : mSnd 193 34 (a_push 35 (.int (iZ 1))) := snd_iconst (by decide +kernel : decode (mBc 193) 34 = .ok (.iconst 1, 1)) rfl rfl
theorem s193_35 : mSnd 193 35 (a_istore 37 4) := snd_istore (by decide +kernel : decode (mBc 193) 35 = .ok (.istore 4, 2)) (by decide) rfl
theorem s193_37 : mSnd 193 37 (a_push 38 (.int (iZ 0))) := snd_iconst (by decide +kernel : decode (mBc 193) 37 = .ok (.iconst 0, 1)) rfl rfl
theorem s193_38 : mSnd 193 38 (a_istore 40 5) := snd_istore (by decide +kernel : decode (mBc 193) 38 = .ok (.istore 5, 2)) (by decide) rfl
theorem s193_40 : mSnd 193 40 (a_iload 42 5) := snd_iload (by decide +kernel : decode (mBc 193) 40 = .ok (.iload 5, 2)) rfl
theorem s193_42 : mSnd 193 42 (a_aload 43 0) := snd_aload_n (by decide +kernel : decode (mBc 193) 42 = .ok (.aload_n 0, 1)) rfl rfl
theorem s193_43 : mSnd 193 43 (a_iload 44 1) := snd_iload_n (by decide +kernel : decode (mBc 193) 43 = .ok (.iload_n 1, 1)) rfl rfl
theorem s193_44 : mSnd 193 44 (a_invV 47 1 0 0 [(10, 139, 0, 0)]) := snd_invV v193_80 rfl rfl (by decide +kernel : decode (mBc 193) 44 = .ok (.invokevirtual 80, 3)) rfl
theorem s193_47 : mSnd 193 47 (a_icmp 50 108 (fun x y => decide (y < x))) := snd_icmp_gt (by decide +kernel : decode (mBc 193) 47 = .ok (.if_icmp .gt 61, 3)) rfl rfl
theorem s193_50 : mSnd 193 50 (a_iload 52 4) := snd_iload (by decide +kernel : decode (mBc 193) 50 = .ok (.iload 4, 2)) rfl
theorem s193_52 : mSnd 193 52 (a_if 55 99 (fun x => decide (x = 0))) := snd_if_eq (by decide +kernel : decode (mBc 193) 52 = .ok (.ifCond .eq 47, 3)) rfl rfl
theorem s193_55 : mSnd 193 55 (a_iload 57 5) := snd_iload (by decide +kernel : decode (mBc 193) 55 = .ok (.iload 5, 2)) rfl
theorem s193_57 : mSnd 193 57 (a_iload 58 2) := snd_iload_n (by decide +kernel : decode (mBc 193) 57 = .ok (.iload_n 2, 1)) rfl rfl
theorem s193_58 : mSnd 193 58 (a_ii 59 (fun x y => x >>> (y &&& 31))) := snd_ishr (by decide +kernel : decode (mBc 193) 58 = .ok (.ishr, 1)) rfl
theorem s193_59 : mSnd 193 59 (a_push 60 (.int (iZ 1))) := snd_iconst (by decide +kernel : decode (mBc 193) 59 = .ok (.iconst 1, 1)) rfl rfl
theorem s193_60 : mSnd 193 60 (a_ii 61 (fun x y => x &&& y)) := snd_iand (by decide +kernel : decode (mBc 193) 60 = .ok (.iand, 1)) rfl
theorem s193_61 : mSnd 193 61 (a_push 62 (.int (iZ 1))) := snd_iconst (by decide +kernel : decode (mBc 193) 61 = .ok (.iconst 1, 1)) rfl rfl
theorem s193_62 : mSnd 193 62 (a_icmp 65 95 (fun x y => decide (x = y))) := snd_icmp_eq (by decide +kernel : decode (mBc 193) 62 = .ok (.if_icmp .eq 33, 3)) rfl rfl
theorem s193_65 : mSnd 193 65 (a_iload 67 5) := snd_iload (by decide +kernel : decode (mBc 193) 65 = .ok (.iload 5, 2)) rfl
theorem s193_67 : mSnd 193 67 (a_iload 68 3) := snd_iload_n (by decide +kernel : decode (mBc 193) 67 = .ok (.iload_n 3, 1)) rfl rfl
theorem s193_68 : mSnd 193 68 (a_ii 69 (fun x y => x >>> (y &&& 31))) := snd_ishr (by decide +kernel : decode (mBc 193) 68 = .ok (.ishr, 1)) rfl
theorem s193_69 : mSnd 193 69 (a_push 70 (.int (iZ 1))) := snd_iconst (by decide +kernel : decode (mBc 193) 69 = .ok (.iconst 1, 1)) rfl rfl
theorem s193_70 : mSnd 193 70 (a_ii 71 (fun x y => x &&& y)) := snd_iand (by decide +kernel : decode (mBc 193) 70 = .ok (.iand, 1)) rfl
theorem s193_71 : mSnd 193 71 (a_push 72 (.int (iZ 1))) := snd_iconst (by decide +kernel : decode (mBc 193) 71 = .ok (.iconst 1, 1)) rfl rfl
theorem s193_72 : mSnd 193 72 (a_icmp 75 95 (fun x y => decide (x = y))) := snd_icmp_eq (by decide +kernel : decode (mBc 193) 72 = .ok (.if_icmp .eq 23, 3)) rfl rfl
theorem s193_75 : mSnd 193 75 (a_aload 76 0) := snd_aload_n (by decide +kernel : decode (mBc 193) 75 = .ok (.aload_n 0, 1)) rfl rfl
theorem s193_76 : mSnd 193 76 (a_iload 77 1) := snd_iload_n (by decide +kernel : decode (mBc 193) 76 = .ok (.iload_n 1, 1)) rfl rfl
theorem s193_77 : mSnd 193 77 (a_iload 78 2) := snd_iload_n (by decide +kernel : decode (mBc 193) 77 = .ok (.iload_n 2, 1)) rfl rfl
theorem s193_78 : mSnd 193 78 (a_iload 80 5) := snd_iload (by decide +kernel : decode (mBc 193) 78 = .ok (.iload 5, 2)) rfl
theorem s193_80 : mSnd 193 80 (a_invV 83 3 0 0 [(10, 162, 0, 0)]) := snd_invV v193_130 rfl rfl (by decide +kernel : decode (mBc 193) 80 = .ok (.invokevirtual 130, 3)) rfl
theorem s193_83 : mSnd 193 83 (a_aload 84 0) := snd_aload_n (by decide +kernel : decode (mBc 193) 83 = .ok (.aload_n 0, 1)) rfl rfl
theorem s193_84 : mSnd 193 84 (a_iload 85 1) := snd_iload_n (by decide +kernel : decode (mBc 193) 84 = .ok (.iload_n 1, 1)) rfl rfl
theorem s193_85 : mSnd 193 85 (a_iload 86 3) := snd_iload_n (by decide +kernel : decode (mBc 193) 85 = .ok (.iload_n 3, 1)) rfl rfl
theorem s193_86 : mSnd 193 86 (a_iload 88 5) := snd_iload (by decide +kernel : decode (mBc 193) 86 = .ok (.iload 5, 2)) rfl
theorem s193_88 : mSnd 193 88 (a_invV 91 3 0 0 [(10, 162, 0, 0)]) := snd_invV v193_130 rfl rfl (by decide +kernel : decode (mBc 193) 88 = .ok (.invokevirtual 130, 3)) rfl
theorem s193_91 : mSnd 193 91 (a_lcmp 92) := snd_lcmp (by decide +kernel : decode (mBc 193) 91 = .ok (.lcmp, 1)) rfl
theorem s193_92 : mSnd 193 92 (a_if 95 99 (fun x => decide (¬ x = 0))) := snd_if_ne (by decide +kernel : decode (mBc 193) 92 = .ok (.ifCond .ne 7, 3)) rfl rfl
theorem s193_95 : mSnd 193 95 (a_push 96 (.int (iZ 1))) := snd_iconst (by decide +kernel : decode (mBc 193) 95 = .ok (.iconst 1, 1)) rfl rfl
theorem s193_96 : mSnd 193 96 (a_goto 100) := snd_goto (by decide +kernel : decode (mBc 193) 96 = .ok (.goto 4, 3)) rfl
theorem s193_99 : mSnd 193 99 (a_push 100 (.int (iZ 0))) := snd_iconst (by decide +kernel : decode (mBc 193) 99 = .ok (.iconst 0, 1)) rfl rfl
theorem s193_100 : mSnd 193 100 (a_istore 102 4) := snd_istore (by decide +kernel : decode (mBc 193) 100 = .ok (.istore 4, 2)) (by decide) rfl
theorem s193_102 : mSnd 193 102 (a_iinc 105 5 (iZ 1)) := snd_iinc (by decide +kernel : decode (mBc 193) 102 = .ok (.iinc 5 1, 3)) rfl (by decide) rfl
theorem s193_105 : mSnd 193 105 (a_goto 40) := snd_goto (by decide +kernel : decode (mBc 193) 105 = .ok (.goto (-65), 3)) rfl
theorem s193_108 : mSnd 193 108 (a_iload 110 4) := snd_iload (by decide +kernel : decode (mBc 193) 108 = .ok (.iload 4, 2)) rfl
theorem s193_110 : mSnd 193 110 (a_if 113 117 (fun x => decide (x = 0))) := snd_if_eq (by decide +kernel : decode (mBc 193) 110 = .ok (.ifCond .eq 7, 3)) rfl rfl
theorem s193_113 : mSnd 193 113 (a_push 114 (.int (iZ 1))) := snd_iconst (by decide +kernel : decode (mBc 193) 113 = .ok (.iconst 1, 1)) rfl rfl
theorem s193_114 : mSnd 193 114 (a_goto 118) := snd_goto (by decide +kernel : decode (mBc 193) 114 = .ok (.goto 4, 3)) rfl
theorem s193_117 : mSnd 193 117 (a_push 118 (.int (iZ 0))) := snd_iconst (by decide +kernel : decode (mBc 193) 117 = .ok (.iconst 0, 1)) rfl rfl
theorem s193_118 : mSnd 193 118 (a_iret 0 0) := snd_iret rfl rfl rfl (by decide +kernel : decode (mBc 193) 118 = .ok (.ireturn, 1))
theorem ok193 : mOkl2 193 ct193 := ⟨⟨s193_0, s193_1, s193_2, s193_5, s193_8, s193_9, s193_10, s193_11, s193_14, s193_17, s193_18, s193_19, trivial⟩, ⟨s193_20, s193_23, s193_26, s193_27, s193_28, s193_31, s193_33, s193_34, s193_35, s193_37, s193_38, s193_40, trivial⟩, ⟨s193_42, s193_43, s193_44, s193_47, s193_50, s193_52, s193_55, s193_57, s193_58, s193_59, s193_60, s193_61, trivial⟩, ⟨s193_62, s193_65, s193_67, s193_68, s193_69, s193_70, s193_71, s193_72, s193_75, s193_76, s193_77, s193_78, trivial⟩, ⟨s193_80, s193_83, s193_84, s193_85, s193_86, s193_88, s193_91, s193_92, s193_95, s193_96, s193_99, s193_100, trivial⟩, ⟨s193_102, s193_105, s193_108, s193_110, s193_113, s193_114, s193_117, s193_118, trivial⟩, trivial⟩
theorem s194_0 : mSnd 194 0 (a_aload 1 0) := snd_aload_n (by decide +kernel : decode (mBc 194) 0 = .ok (.aload_n 0, 1)) rfl rfl
theorem s194_1 : mSnd 194 1 (a_iload 2 1) := snd_iload_n (by decide +kernel : decode (mBc 194) 1 = .ok (.iload_n 1, 1)) rfl rfl
theorem s194_2 : mSnd 194 2 (a_invV 5 1 0 0 [(10, 138, 0, 0)]) := snd_invV v194_92 rfl rfl (by decide +kernel : decode (mBc 194) 2 = .ok (.invokevirtual 92, 3)) rfl
theorem s194_5 : mSnd 194 5 (a_if 8 27 (fun x => decide (x = 0))) := snd_if_eq (by decide +kernel : decode (mBc 194) 5 = .ok (.ifCond .eq 22, 3)) rfl rfl
theorem s194_8 : mSnd 194 8 (a_aload 9 0) := snd_aload_n (by decide +kernel : decode (mBc 194) 8 = .ok (.aload_n 0, 1)) rfl rfl
theorem s194_9 : mSnd 194 9 (a_iload 10 1) := snd_iload_n (by decide +kernel : decode (mBc 194) 9 = .ok (.iload_n 1, 1)) rfl rfl
theorem s194_10 : mSnd 194 10 (a_iload 11 2) := snd_iload_n (by decide +kernel : decode (mBc 194) 10 = .ok (.iload_n 2, 1)) rfl rfl
theorem s194_11 : mSnd 194 11 (a_invV 14 2 0 0 [(10, 143, 0, 0)]) := snd_invV v194_114 rfl rfl (by decide +kernel : decode (mBc 194) 11 = .ok (.invokevirtual 114, 3)) rfl
theorem s194_14 : mSnd 194 14 (a_if 17 27 (fun x => decide (x = 0))) := snd_if_eq (by decide +kernel : decode (mBc 194) 14 = .ok (.ifCond .eq 13, 3)) rfl rfl
theorem s194_17 : mSnd 194 17 (a_aload 18 0) := snd_aload_n (by decide +kernel : decode (mBc 194) 17 = .ok (.aload_n 0, 1)) rfl rfl
theorem s194_18 : mSnd 194 18 (a_iload 19 3) := snd_iload_n (by decide +kernel : decode (mBc 194) 18 = .ok (.iload_n 3, 1)) rfl rfl
theorem s194_19 : mSnd 194 19 (a_push 20 (.int (iZ 0))) := snd_iconst (by decide +kernel : decode (mBc 194) 19 = .ok (.iconst 0, 1)) rfl rfl
theorem s194_20 : mSnd 194 20 (a_push 21 (.int (iZ 1))) := snd_iconst (by decide +kernel : decode (mBc 194) 20 = .ok (.iconst 1, 1)) rfl rfl
theorem s194_21 : mSnd 194 21 (a_invV 24 3 0 0 [(10, 137, 0, 0)]) := snd_invV v194_76 rfl rfl (by decide +kernel : decode (mBc 194) 21 = .ok (.invokevirtual 76, 3)) rfl
theorem s194_24 : mSnd 194 24 (a_if 27 30 (fun x => decide (¬ x = 0))) := snd_if_ne (by decide +kernel : decode (mBc 194) 24 = .ok (.ifCond .ne 6, 3)) rfl rfl
theorem s194_27 : mSnd 194 27 (a_push 29 (.int (iZ (-2)))) := snd_bipush (by decide +kernel : decode (mBc 194) 27 = .ok (.bipush (-2), 2)) (by decide +kernel) rfl
theorem s194_29 : mSnd 194 29 (a_iret 0 0) := snd_iret rfl rfl rfl (by decide +kernel : decode (mBc 194) 29 = .ok (.ireturn, 1))
theorem s194_30 : mSnd 194 30 (a_aload 31 0) := snd_aload_n (by decide +kernel : decode (mBc 194) 30 = .ok (.aload_n 0, 1)) rfl rfl
theorem s194_31 : mSnd 194 31 (a_getf 34 1 [10]) := snd_getf f28 q903 (Or.inl rfl) (by decide +kernel : decode (mBc 194) 31 = .ok (.getfield 13, 3)) rfl
theorem s194_34 : mSnd 194 34 (a_iload 35 1) := snd_iload_n (by decide +kernel : decode (mBc 194) 34 = .ok (.iload_n 1, 1)) rfl rfl
theorem s194_35 : mSnd 194 35 (a_iald 36) := snd_iald (by decide +kernel : decode (mBc 194) 35 = .ok (.iaload, 1)) rfl
theorem s194_36 : mSnd 194 36 (a_push 37 (.int (iZ 1))) := snd_iconst (by decide +kernel : decode (mBc 194) 36 = .ok (.iconst 1, 1)) rfl rfl
theorem s194_37 : mSnd 194 37 (a_icmp 40 43 (fun x y => decide (x = y))) := snd_icmp_eq (by decide +kernel : decode (mBc 194) 37 = .ok (.if_icmp .eq 6, 3)) rfl rfl
theorem s194_40 : mSnd 194 40 (a_push 42 (.int (iZ (-3)))) := snd_bipush (by decide +kernel : decode (mBc 194) 40 = .ok (.bipush (-3), 2)) (by decide +kernel) rfl
theorem s194_42 : mSnd 194 42 (a_iret 0 0) := snd_iret rfl rfl rfl (by decide +kernel : decode (mBc 194) 42 = .ok (.ireturn, 1))
theorem s194_43 : mSnd 194 43 (a_push 44 (.long (lZ 0))) := snd_lconst (by decide +kernel : decode (mBc 194) 43 = .ok (.lconst 0, 1)) (by decide +kernel) rfl
theorem s194_44 : mSnd 194 44 (a_lstore 46 4) := snd_lstore (by decide +kernel : decode (mBc 194) 44 = .ok (.lstore 4, 2)) (by decide) rfl
theorem s194_46 : mSnd 194 46 (a_push 47 (.int (iZ 0))) := snd_iconst (by decide +kernel : decode (mBc 194) 46 = .ok (.iconst 0, 1)) rfl rfl
theorem s194_47 : mSnd 194 47 (a_istore 49 6) := snd_istore (by decide +kernel : decode (mBc 194) 47 = .ok (.istore 6, 2)) (by decide) rfl
theorem s194_49 : mSnd 194 49 (a_iload 51 6) := snd_iload (by decide +kernel : decode (mBc 194) 49 = .ok (.iload 6, 2)) rfl
theorem s194_51 : mSnd 194 51 (a_aload 52 0) := snd_aload_n (by decide +kernel : decode (mBc 194) 51 = .ok (.aload_n 0, 1)) rfl rfl
theorem s194_52 : mSnd 194 52 (a_iload 53 1) := snd_iload_n (by decide +kernel : decode (mBc 194) 52 = .ok (.iload_n 1, 1)) rfl rfl
theorem s194_53 : mSnd 194 53 (a_invV 56 1 0 0 [(10, 139, 0, 0)]) := snd_invV v194_80 rfl rfl (by decide +kernel : decode (mBc 194) 53 = .ok (.invokevirtual 80, 3)) rfl
theorem s194_56 : mSnd 194 56 (a_icmp 59 134 (fun x y => decide (y < x))) := snd_icmp_gt (by decide +kernel : decode (mBc 194) 56 = .ok (.if_icmp .gt 78, 3)) rfl rfl
theorem s194_59 : mSnd 194 59 (a_iload 61 6) := snd_iload (by decide +kernel : decode (mBc 194) 59 = .ok (.iload 6, 2)) rfl
theorem s194_61 : mSnd 194 61 (a_iload 62 2) := snd_iload_n (by decide +kernel : decode (mBc 194) 61 = .ok (.iload_n 2, 1)) rfl rfl
theorem s194_62 : mSnd 194 62 (a_ii 63 (fun x y => x >>> (y &&& 31))) := snd_ishr (by decide +kernel : decode (mBc 194) 62 = .ok (.ishr, 1)) rfl
theorem s194_63 : mSnd 194 63 (a_push 64 (.int (iZ 1))) := snd_iconst (by decide +kernel : decode (mBc 194) 63 = .ok (.iconst 1, 1)) rfl rfl
theorem s194_64 : mSnd 194 64 (a_ii 65 (fun x y => x &&& y)) := snd_iand (by decide +kernel : decode (mBc 194) 64 = .ok (.iand, 1)) rfl
theorem s194_65 : mSnd 194 65 (a_push 66 (.int (iZ 1))) := snd_iconst (by decide +kernel : decode (mBc 194) 65 = .ok (.iconst 1, 1)) rfl rfl
theorem s194_66 : mSnd 194 66 (a_icmp 69 128 (fun x y => decide (x = y))) := snd_icmp_eq (by decide +kernel : decode (mBc 194) 66 = .ok (.if_icmp .eq 62, 3)) rfl rfl
theorem s194_69 : mSnd 194 69 (a_aload 70 0) := snd_aload_n (by decide +kernel : decode (mBc 194) 69 = .ok (.aload_n 0, 1)) rfl rfl
theorem s194_70 : mSnd 194 70 (a_iload 71 1) := snd_iload_n (by decide +kernel : decode (mBc 194) 70 = .ok (.iload_n 1, 1)) rfl rfl
theorem s194_71 : mSnd 194 71 (a_iload 72 2) := snd_iload_n (by decide +kernel : decode (mBc 194) 71 = .ok (.iload_n 2, 1)) rfl rfl
theorem s194_72 : mSnd 194 72 (a_iload 74 6) := snd_iload (by decide +kernel : decode (mBc 194) 72 = .ok (.iload 6, 2)) rfl
theorem s194_74 : mSnd 194 74 (a_invV 77 3 0 0 [(10, 162, 0, 0)]) := snd_invV v194_130 rfl rfl (by decide +kernel : decode (mBc 194) 74 = .ok (.invokevirtual 130, 3)) rfl
theorem s194_77 : mSnd 194 77 (a_push 78 (.long (lZ 1))) := snd_lconst (by decide +kernel : decode (mBc 194) 77 = .ok (.lconst 1, 1)) (by decide +kernel) rfl
theorem s194_78 : mSnd 194 78 (a_lcmp 79) := snd_lcmp (by decide +kernel : decode (mBc 194) 78 = .ok (.lcmp, 1)) rfl
theorem s194_79 : mSnd 194 79 (a_if 82 85 (fun x => decide (x = 0))) := snd_if_eq (by decide +kernel : decode (mBc 194) 79 = .ok (.ifCond .eq 6, 3)) rfl rfl
theorem s194_82 : mSnd 194 82 (a_goto 128) := snd_goto (by decide +kernel : decode (mBc 194) 82 = .ok (.goto 46, 3)) rfl
theorem s194_85 : mSnd 194 85 (a_lload 87 4) := snd_lload (by decide +kernel : decode (mBc 194) 85 = .ok (.lload 4, 2)) rfl
theorem s194_87 : mSnd 194 87 (a_iload 88 3) := snd_iload_n (by decide +kernel : decode (mBc 194) 87 = .ok (.iload_n 3, 1)) rfl rfl
theorem s194_88 : mSnd 194 88 (a_if 91 95 (fun x => decide (¬ x = 0))) := snd_if_ne (by decide +kernel : decode (mBc 194) 88 = .ok (.ifCond .ne 7, 3)) rfl rfl
theorem s194_91 : mSnd 194 91 (a_push 92 (.long (lZ 1))) := snd_lconst (by decide +kernel : decode (mBc 194) 91 = .ok (.lconst 1, 1)) (by decide +kernel) rfl
theorem s194_92 : mSnd 194 92 (a_goto 125) := snd_goto (by decide +kernel : decode (mBc 194) 92 = .ok (.goto 33, 3)) rfl
theorem s194_95 : mSnd 194 95 (a_aload 96 0) := snd_aload_n (by decide +kernel : decode (mBc 194) 95 = .ok (.aload_n 0, 1)) rfl rfl
theorem s194_96 : mSnd 194 96 (a_aload 97 0) := snd_aload_n (by decide +kernel : decode (mBc 194) 96 = .ok (.aload_n 0, 1)) rfl rfl
theorem s194_97 : mSnd 194 97 (a_iload 99 6) := snd_iload (by decide +kernel : decode (mBc 194) 97 = .ok (.iload 6, 2)) rfl
theorem s194_99 : mSnd 194 99 (a_invV 102 1 0 0 [(10, 140, 0, 0)]) := snd_invV v194_103 rfl rfl (by decide +kernel : decode (mBc 194) 99 = .ok (.invokevirtual 103, 3)) rfl
theorem s194_102 : mSnd 194 102 (a_invV 105 1 0 0 [(10, 165, 0, 0)]) := snd_invV v194_134 rfl rfl (by decide +kernel : decode (mBc 194) 102 = .ok (.invokevirtual 134, 3)) rfl
theorem s194_105 : mSnd 194 105 (a_aload 106 0) := snd_aload_n (by decide +kernel : decode (mBc 194) 105 = .ok (.aload_n 0, 1)) rfl rfl
theorem s194_106 : mSnd 194 106 (a_aload 107 0) := snd_aload_n (by decide +kernel : decode (mBc 194) 106 = .ok (.aload_n 0, 1)) rfl rfl
theorem s194_107 : mSnd 194 107 (a_getf 110 2 [10]) := snd_getf f29 q904 (Or.inl rfl) (by decide +kernel : decode (mBc 194) 107 = .ok (.getfield 17, 3)) rfl
theorem s194_110 : mSnd 194 110 (a_iload 111 1) := snd_iload_n (by decide +kernel : decode (mBc 194) 110 = .ok (.iload_n 1, 1)) rfl rfl
theorem s194_111 : mSnd 194 111 (a_iald 112) := snd_iald (by decide +kernel : decode (mBc 194) 111 = .ok (.iaload, 1)) rfl
theorem s194_112 : mSnd 194 112 (a_aload 113 0) := snd_aload_n (by decide +kernel : decode (mBc 194) 112 = .ok (.aload_n 0, 1)) rfl rfl
theorem s194_113 : mSnd 194 113 (a_iload 115 6) := snd_iload (by decide +kernel : decode (mBc 194) 113 = .ok (.iload 6, 2)) rfl
theorem s194_115 : mSnd 194 115 (a_invV 118 1 0 0 [(10, 140, 0, 0)]) := snd_invV v194_103 rfl rfl (by decide +kernel : decode (mBc 194) 115 = .ok (.invokevirtual 103, 3)) rfl
theorem s194_118 : mSnd 194 118 (a_ii 119 (fun x y => x - y)) := snd_isub (by decide +kernel : decode (mBc 194) 118 = .ok (.isub, 1)) rfl
theorem s194_119 : mSnd 194 119 (a_push 120 (.int (iZ 1))) := snd_iconst (by decide +kernel : decode (mBc 194) 119 = .ok (.iconst 1, 1)) rfl rfl
theorem s194_120 : mSnd 194 120 (a_ii 121 (fun x y => x - y)) := snd_isub (by decide +kernel : decode (mBc 194) 120 = .ok (.isub, 1)) rfl
theorem s194_121 : mSnd 194 121 (a_invV 124 1 0 0 [(10, 165, 0, 0)]) := snd_invV v194_134 rfl rfl (by decide +kernel : decode (mBc 194) 121 = .ok (.invokevirtual 134, 3)) rfl
theorem s194_124 : mSnd 194 124 (a_ll 125 (fun x y => x * y)) := snd_lmul (by decide +kernel : decode (mBc 194) 124 = .ok (.lmul, 1)) rfl
theorem s194_125 : mSnd 194 125 (a_ll 126 (fun x y => x + y)) := snd_ladd (by decide +kernel : decode (mBc 194) 125 = .ok (.ladd, 1)) rfl
theorem s194_126 : mSnd 194 126 (a_lstore 128 4) := snd_lstore (by decide +kernel : decode (mBc 194) 126 = .ok (.lstore 4, 2)) (by decide) rfl
theorem s194_128 : mSnd 194 128 (a_iinc 131 6 (iZ 1)) := snd_iinc (by decide +kernel : decode (mBc 194) 128 = .ok (.iinc 6 1, 3)) rfl (by decide) rfl
theorem s194_131 : mSnd 194 131 (a_goto 49) := snd_goto (by decide +kernel : decode (mBc 194) 131 = .ok (.goto (-82), 3)) rfl
theorem s194_134 : mSnd 194 134 (a_lload 136 4) := snd_lload (by decide +kernel : decode (mBc 194) 134 = .ok (.lload 4, 2)) rfl
theorem s194_136 : mSnd 194 136 (a_l2i 137) := snd_l2i (by decide +kernel : decode (mBc 194) 136 = .ok (.l2i, 1)) rfl
theorem s194_137 : mSnd 194 137 (a_iret 0 0) := snd_iret rfl rfl rfl (by decide +kernel : decode (mBc 194) 137 = .ok (.ireturn, 1))
theorem ok194 : mOkl2 194 ct194 := ⟨⟨s194_0, s194_1, s194_2, s194_5, s194_8, s194_9, s194_10, s194_11, s194_14, s194_17, s194_18, s194_19, trivial⟩, ⟨s194_20, s194_21, s194_24, s194_27, s194_29, s194_30, s194_31, s194_34, s194_35, s194_36, s194_37, s194_40, trivial⟩, ⟨s194_42, s194_43, s194_44, s194_46, s194_47, s194_49, s194_51, s194_52, s194_53, s194_56, s194_59, s194_61, trivial⟩, ⟨s194_62, s194_63, s194_64, s194_65, s194_66, s194_69, s194_70, s194_71, s194_72, s194_74, s194_77, s194_78, trivial⟩, ⟨s194_79, s194_82, s194_85, s194_87, s194_88, s194_91, s194_92, s194_95, s194_96, s194_97, s194_99, s194_102, trivial⟩, ⟨s194_105, s194_106, s194_107, s194_110, s194_111, s194_112, s194_113, s194_115, s194_118, s194_119, s194_120, s194_121, trivial⟩, ⟨s194_124, s194_125, s194_126, s194_128, s194_131, s194_134, s194_136, s194_137, trivial⟩, trivial⟩
theorem s195_0 : mSnd 195 0 (a_push 1 (.int (iZ 0))) := snd_iconst (by decide +kernel : decode (mBc 195) 0 = .ok (.iconst 0, 1)) rfl rfl
theorem s195_1 : mSnd 195 1 (a_istore 2 2) := snd_istore_n (by decide +kernel : decode (mBc 195) 1 = .ok (.istore_n 2, 1)) rfl (by decide) rfl
theorem s195_2 : mSnd 195 2 (a_push 3 (.int (iZ 1))) := snd_iconst (by decide +kernel : decode (mBc 195) 2 = .ok (.iconst 1, 1)) rfl rfl
theorem s195_3 : mSnd 195 3 (a_istore 4 3) := snd_istore_n (by decide +kernel : decode (mBc 195) 3 = .ok (.istore_n 3, 1)) rfl (by decide) rfl
theorem s195_4 : mSnd 195 4 (a_iload 5 3) := snd_iload_n (by decide +kernel : decode (mBc 195) 4 = .ok (.iload_n 3, 1)) rfl rfl
theorem s195_5 : mSnd 195 5 (a_aload 6 0) := snd_aload_n (by decide +kernel : decode (mBc 195) 5 = .ok (.aload_n 0, 1)) rfl rfl
theorem s195_6 : mSnd 195 6 (a_iload 7 1) := snd_iload_n (by decide +kernel : decode (mBc 195) 6 = .ok (.iload_n 1, 1)) rfl rfl
theorem s195_7 : mSnd 195 7 (a_invV 10 1 0 0 [(10, 139, 0, 0)]) := snd_invV v195_80 rfl rfl (by decide +kernel : decode (mBc 195) 7 = .ok (.invokevirtual 80, 3)) rfl
theorem s195_10 : mSnd 195 10 (a_icmp 13 34 (fun x y => decide (y < x))) := snd_icmp_gt (by decide +kernel : decode (mBc 195) 10 = .ok (.if_icmp .gt 24, 3)) rfl rfl
theorem s195_13 : mSnd 195 13 (a_aload 14 0) := snd_aload_n (by decide +kernel : decode (mBc 195) 13 = .ok (.aload_n 0, 1)) rfl rfl
theorem s195_14 : mSnd 195 14 (a_getf 17 14 [10]) := snd_getf f41 q916 (Or.inl rfl) (by decide +kernel : decode (mBc 195) 14 = .ok (.getfield 55, 3)) rfl
theorem s195_17 : mSnd 195 17 (a_iload 18 2) := snd_iload_n (by decide +kernel : decode (mBc 195) 17 = .ok (.iload_n 2, 1)) rfl rfl
theorem s195_18 : mSnd 195 18 (a_aload 19 0) := snd_aload_n (by decide +kernel : decode (mBc 195) 18 = .ok (.aload_n 0, 1)) rfl rfl
theorem s195_19 : mSnd 195 19 (a_iload 20 1) := snd_iload_n (by decide +kernel : decode (mBc 195) 19 = .ok (.iload_n 1, 1)) rfl rfl
theorem s195_20 : mSnd 195 20 (a_iload 21 3) := snd_iload_n (by decide +kernel : decode (mBc 195) 20 = .ok (.iload_n 3, 1)) rfl rfl
theorem s195_21 : mSnd 195 21 (a_invV 24 2 0 0 [(10, 144, 0, 0)]) := snd_invV v195_106 rfl rfl (by decide +kernel : decode (mBc 195) 21 = .ok (.invokevirtual 106, 3)) rfl
theorem s195_24 : mSnd 195 24 (a_last 25) := snd_last (by decide +kernel : decode (mBc 195) 24 = .ok (.lastore, 1)) rfl
theorem s195_25 : mSnd 195 25 (a_iinc 28 2 (iZ 1)) := snd_iinc (by decide +kernel : decode (mBc 195) 25 = .ok (.iinc 2 1, 3)) rfl (by decide) rfl
theorem s195_28 : mSnd 195 28 (a_iinc 31 3 (iZ 1)) := snd_iinc (by decide +kernel : decode (mBc 195) 28 = .ok (.iinc 3 1, 3)) rfl (by decide) rfl
theorem s195_31 : mSnd 195 31 (a_goto 4) := snd_goto (by decide +kernel : decode (mBc 195) 31 = .ok (.goto (-27), 3)) rfl
theorem s195_34 : mSnd 195 34 (a_push 35 (.int (iZ 0))) := snd_iconst (by decide +kernel : decode (mBc 195) 34 = .ok (.iconst 0, 1)) rfl rfl
theorem s195_35 : mSnd 195 35 (a_istore 36 3) := snd_istore_n (by decide +kernel : decode (mBc 195) 35 = .ok (.istore_n 3, 1)) rfl (by decide) rfl
theorem s195_36 : mSnd 195 36 (a_iload 37 3) := snd_iload_n (by decide +kernel : decode (mBc 195) 36 = .ok (.iload_n 3, 1)) rfl rfl
theorem s195_37 : mSnd 195 37 (a_aload 38 0) := snd_aload_n (by decide +kernel : decode (mBc 195) 37 = .ok (.aload_n 0, 1)) rfl rfl
theorem s195_38 : mSnd 195 38 (a_getf 41 2 [10]) := snd_getf f29 q904 (Or.inl rfl) (by decide +kernel : decode (mBc 195) 38 = .ok (.getfield 17, 3)) rfl
theorem s195_41 : mSnd 195 41 (a_iload 42 1) := snd_iload_n (by decide +kernel : decode (mBc 195) 41 = .ok (.iload_n 1, 1)) rfl rfl
theorem s195_42 : mSnd 195 42 (a_iald 43) := snd_iald (by decide +kernel : decode (mBc 195) 42 = .ok (.iaload, 1)) rfl
theorem s195_43 : mSnd 195 43 (a_icmp 46 111 (fun x y => decide (y ≤ x))) := snd_icmp_ge (by decide +kernel : decode (mBc 195) 43 = .ok (.if_icmp .ge 68, 3)) rfl rfl
theorem s195_46 : mSnd 195 46 (a_aload 47 0) := snd_aload_n (by decide +kernel : decode (mBc 195) 46 = .ok (.aload_n 0, 1)) rfl rfl
theorem s195_47 : mSnd 195 47 (a_getf 50 14 [10]) := snd_getf f41 q916 (Or.inl rfl) (by decide +kernel : decode (mBc 195) 47 = .ok (.getfield 55, 3)) rfl
theorem s195_50 : mSnd 195 50 (a_iload 51 2) := snd_iload_n (by decide +kernel : decode (mBc 195) 50 = .ok (.iload_n 2, 1)) rfl rfl
theorem s195_51 : mSnd 195 51 (a_aload 52 0) := snd_aload_n (by decide +kernel : decode (mBc 195) 51 = .ok (.aload_n 0, 1)) rfl rfl
theorem s195_52 : mSnd 195 52 (a_aload 53 0) := snd_aload_n (by decide +kernel : decode (mBc 195) 52 = .ok (.aload_n 0, 1)) rfl rfl
theorem s195_53 : mSnd 195 53 (a_iload 54 1) := snd_iload_n (by decide +kernel : decode (mBc 195) 53 = .ok (.iload_n 1, 1)) rfl rfl
theorem s195_54 : mSnd 195 54 (a_iload 55 3) := snd_iload_n (by decide +kernel : decode (mBc 195) 54 = .ok (.iload_n 3, 1)) rfl rfl
theorem s195_55 : mSnd 195 55 (a_invV 58 2 0 0 [(10, 166, 0, 0)]) := snd_invV v195_138 rfl rfl (by decide +kernel : decode (mBc 195) 55 = .ok (.invokevirtual 138, 3)) rfl
theorem s195_58 : mSnd 195 58 (a_aload 59 0) := snd_aload_n (by decide +kernel : decode (mBc 195) 58 = .ok (.aload_n 0, 1)) rfl rfl
theorem s195_59 : mSnd 195 59 (a_aload 60 0) := snd_aload_n (by decide +kernel : decode (mBc 195) 59 = .ok (.aload_n 0, 1)) rfl rfl
theorem s195_60 : mSnd 195 60 (a_getf 63 2 [10]) := snd_getf f29 q904 (Or.inl rfl) (by decide +kernel : decode (mBc 195) 60 = .ok (.getfield 17, 3)) rfl
theorem s195_63 : mSnd 195 63 (a_iload 64 1) := snd_iload_n (by decide +kernel : decode (mBc 195) 63 = .ok (.iload_n 1, 1)) rfl rfl
theorem s195_64 : mSnd 195 64 (a_iald 65) := snd_iald (by decide +kernel : decode (mBc 195) 64 = .ok (.iaload, 1)) rfl
theorem s195_65 : mSnd 195 65 (a_invV 68 1 0 0 [(10, 165, 0, 0)]) := snd_invV v195_134 rfl rfl (by decide +kernel : decode (mBc 195) 65 = .ok (.invokevirtual 134, 3)) rfl
theorem s195_68 : mSnd 195 68 (a_push 69 (.int (iZ 0))) := snd_iconst (by decide +kernel : decode (mBc 195) 68 = .ok (.iconst 0, 1)) rfl rfl
theorem s195_69 : mSnd 195 69 (a_invV 72 3 0 0 [(10, 161, 0, 0)]) := snd_invV v195_150 rfl rfl (by decide +kernel : decode (mBc 195) 69 = .ok (.invokevirtual 150, 3)) rfl
theorem s195_72 : mSnd 195 72 (a_last 73) := snd_last (by decide +kernel : decode (mBc 195) 72 = .ok (.lastore, 1)) rfl
theorem s195_73 : mSnd 195 73 (a_aload 74 0) := snd_aload_n (by decide +kernel : decode (mBc 195) 73 = .ok (.aload_n 0, 1)) rfl rfl
theorem s195_74 : mSnd 195 74 (a_getf 77 14 [10]) := snd_getf f41 q916 (Or.inl rfl) (by decide +kernel : decode (mBc 195) 74 = .ok (.getfield 55, 3)) rfl
theorem s195_77 : mSnd 195 77 (a_iload 78 2) := snd_iload_n (by decide +kernel : decode (mBc 195) 77 = .ok (.iload_n 2, 1)) rfl rfl
theorem s195_78 : mSnd 195 78 (a_push 79 (.int (iZ 1))) := snd_iconst (by decide +kernel : decode (mBc 195) 78 = .ok (.iconst 1, 1)) rfl rfl
theorem s195_79 : mSnd 195 79 (a_ii 80 (fun x y => x + y)) := snd_iadd (by decide +kernel : decode (mBc 195) 79 = .ok (.iadd, 1)) rfl
theorem s195_80 : mSnd 195 80 (a_aload 81 0) := snd_aload_n (by decide +kernel : decode (mBc 195) 80 = .ok (.aload_n 0, 1)) rfl rfl
theorem s195_81 : mSnd 195 81 (a_aload 82 0) := snd_aload_n (by decide +kernel : decode (mBc 195) 81 = .ok (.aload_n 0, 1)) rfl rfl
theorem s195_82 : mSnd 195 82 (a_iload 83 1) := snd_iload_n (by decide +kernel : decode (mBc 195) 82 = .ok (.iload_n 1, 1)) rfl rfl
theorem s195_83 : mSnd 195 83 (a_iload 84 3) := snd_iload_n (by decide +kernel : decode (mBc 195) 83 = .ok (.iload_n 3, 1)) rfl rfl
theorem s195_84 : mSnd 195 84 (a_invV 87 2 0 0 [(10, 166, 0, 0)]) := snd_invV v195_138 rfl rfl (by decide +kernel : decode (mBc 195) 84 = .ok (.invokevirtual 138, 3)) rfl
theorem s195_87 : mSnd 195 87 (a_aload 88 0) := snd_aload_n (by decide +kernel : decode (mBc 195) 87 = .ok (.aload_n 0, 1)) rfl rfl
theorem s195_88 : mSnd 195 88 (a_aload 89 0) := snd_aload_n (by decide +kernel : decode (mBc 195) 88 = .ok (.aload_n 0, 1)) rfl rfl
theorem s195_89 : mSnd 195 89 (a_getf 92 2 [10]) := snd_getf f29 q904 (Or.inl rfl) (by decide +kernel : decode (mBc 195) 89 = .ok (.getfield 17, 3)) rfl
theorem s195_92 : mSnd 195 92 (a_iload 93 1) := snd_iload_n (by decide +kernel : decode (mBc 195) 92 = .ok (.iload_n 1, 1)) rfl rfl
theorem s195_93 : mSnd 195 93 (a_iald 94) := snd_iald (by decide +kernel : decode (mBc 195) 93 = .ok (.iaload, 1)) rfl
theorem s195_94 : mSnd 195 94 (a_invV 97 1 0 0 [(10, 165, 0, 0)]) := snd_invV v195_134 rfl rfl (by decide +kernel : decode (mBc 195) 94 = .ok (.invokevirtual 134, 3)) rfl
theorem s195_97 : mSnd 195 97 (a_push 98 (.int (iZ 1))) := snd_iconst (by decide +kernel : decode (mBc 195) 97 = .ok (.iconst 1, 1)) rfl rfl
theorem s195_98 : mSnd 195 98 (a_invV 101 3 0 0 [(10, 161, 0, 0)]) := snd_invV v195_150 rfl rfl (by decide +kernel : decode (mBc 195) 98 = .ok (.invokevirtual 150, 3)) rfl
theorem s195_101 : mSnd 195 101 (a_last 102) := snd_last (by decide +kernel : decode (mBc 195) 101 = .ok (.lastore, 1)) rfl
theorem s195_102 : mSnd 195 102 (a_iinc 105 2 (iZ 2)) := snd_iinc (by decide +kernel : decode (mBc 195) 102 = .ok (.iinc 2 2, 3)) rfl (by decide) rfl
theorem s195_105 : mSnd 195 105 (a_iinc 108 3 (iZ 1)) := snd_iinc (by decide +kernel : decode (mBc 195) 105 = .ok (.iinc 3 1, 3)) rfl (by decide) rfl
theorem s195_108 : mSnd 195 108 (a_goto 36) := snd_goto (by decide +kernel : decode (mBc 195) 108 = .ok (.goto (-72), 3)) rfl
theorem s195_111 : mSnd 195 111 (a_aload 112 0) := snd_aload_n (by decide +kernel : decode (mBc 195) 111 = .ok (.aload_n 0, 1)) rfl rfl
theorem s195_112 : mSnd 195 112 (a_getf 115 2 [10]) := snd_getf f29 q904 (Or.inl rfl) (by decide +kernel : decode (mBc 195) 112 = .ok (.getfield 17, 3)) rfl
theorem s195_115 : mSnd 195 115 (a_iload 116 1) := snd_iload_n (by decide +kernel : decode (mBc 195) 115 = .ok (.iload_n 1, 1)) rfl rfl
theorem s195_116 : mSnd 195 116 (a_iald 117) := snd_iald (by decide +kernel : decode (mBc 195) 116 = .ok (.iaload, 1)) rfl
theorem s195_117 : mSnd 195 117 (a_push 118 (.int (iZ 1))) := snd_iconst (by decide +kernel : decode (mBc 195) 117 = .ok (.iconst 1, 1)) rfl rfl
theorem s195_118 : mSnd 195 118 (a_icmp 121 123 (fun x y => decide (¬ x = y))) := snd_icmp_ne (by decide +kernel : decode (mBc 195) 118 = .ok (.if_icmp .ne 5, 3)) rfl rfl
theorem s195_121 : mSnd 195 121 (a_iload 122 2) := snd_iload_n (by decide +kernel : decode (mBc 195) 121 = .ok (.iload_n 2, 1)) rfl rfl
theorem s195_122 : mSnd 195 122 (a_iret 0 0) := snd_iret rfl rfl rfl (by decide +kernel : decode (mBc 195) 122 = .ok (.ireturn, 1))
theorem s195_123 : mSnd 195 123 (a_aload 124 0) := snd_aload_n (by decide +kernel : decode (mBc 195) 123 = .ok (.aload_n 0, 1)) rfl rfl
theorem s195_124 : mSnd 195 124 (a_iload 125 1) := snd_iload_n (by decide +kernel : decode (mBc 195) 124 = .ok (.iload_n 1, 1)) rfl rfl
theorem s195_125 : mSnd 195 125 (a_invV 128 1 0 0 [(10, 186, 0, 0)]) := snd_invV v195_193 rfl rfl (by decide +kernel : decode (mBc 195) 125 = .ok (.invokevirtual 193, 3)) rfl
theorem s195_128 : mSnd 195 128 (a_aload 129 0) := snd_aload_n (by decide +kernel : decode (mBc 195) 128 = .ok (.aload_n 0, 1)) rfl rfl
theorem s195_129 : mSnd 195 129 (a_getf 132 14 [10]) := snd_getf f41 q916 (Or.inl rfl) (by decide +kernel : decode (mBc 195) 129 = .ok (.getfield 55, 3)) rfl
theorem s195_132 : mSnd 195 132 (a_iload 133 2) := snd_iload_n (by decide +kernel : decode (mBc 195) 132 = .ok (.iload_n 2, 1)) rfl rfl
theorem s195_133 : mSnd 195 133 (a_aload 134 0) := snd_aload_n (by decide +kernel : decode (mBc 195) 133 = .ok (.aload_n 0, 1)) rfl rfl
theorem s195_134 : mSnd 195 134 (a_getf 137 8 [10]) := snd_getf f35 q910 (Or.inl rfl) (by decide +kernel : decode (mBc 195) 134 = .ok (.getfield 36, 3)) rfl
theorem s195_137 : mSnd 195 137 (a_last 138) := snd_last (by decide +kernel : decode (mBc 195) 137 = .ok (.lastore, 1)) rfl
theorem s195_138 : mSnd 195 138 (a_aload 139 0) := snd_aload_n (by decide +kernel : decode (mBc 195) 138 = .ok (.aload_n 0, 1)) rfl rfl
theorem s195_139 : mSnd 195 139 (a_getf 142 14 [10]) := snd_getf f41 q916 (Or.inl rfl) (by decide +kernel : decode (mBc 195) 139 = .ok (.getfield 55, 3)) rfl
theorem s195_142 : mSnd 195 142 (a_iload 143 2) := snd_iload_n (by decide +kernel : decode (mBc 195) 142 = .ok (.iload_n 2, 1)) rfl rfl
theorem s195_143 : mSnd 195 143 (a_push 144 (.int (iZ 1))) := snd_iconst (by decide +kernel : decode (mBc 195) 143 = .ok (.iconst 1, 1)) rfl rfl
theorem s195_144 : mSnd 195 144 (a_ii 145 (fun x y => x + y)) := snd_iadd (by decide +kernel : decode (mBc 195) 144 = .ok (.iadd, 1)) rfl
theorem s195_145 : mSnd 195 145 (a_aload 146 0) := snd_aload_n (by decide +kernel : decode (mBc 195) 145 = .ok (.aload_n 0, 1)) rfl rfl
theorem s195_146 : mSnd 195 146 (a_getf 149 9 [10]) := snd_getf f36 q911 (Or.inl rfl) (by decide +kernel : decode (mBc 195) 146 = .ok (.getfield 40, 3)) rfl
theorem s195_149 : mSnd 195 149 (a_last 150) := snd_last (by decide +kernel : decode (mBc 195) 149 = .ok (.lastore, 1)) rfl
theorem s195_150 : mSnd 195 150 (a_iload 151 2) := snd_iload_n (by decide +kernel : decode (mBc 195) 150 = .ok (.iload_n 2, 1)) rfl rfl
theorem s195_151 : mSnd 195 151 (a_push 152 (.int (iZ 2))) := snd_iconst (by decide +kernel : decode (mBc 195) 151 = .ok (.iconst 2, 1)) rfl rfl
theorem s195_152 : mSnd 195 152 (a_ii 153 (fun x y => x + y)) := snd_iadd (by decide +kernel : decode (mBc 195) 152 = .ok (.iadd, 1)) rfl
theorem s195_153 : mSnd 195 153 (a_iret 0 0) := snd_iret rfl rfl rfl (by decide +kernel : decode (mBc 195) 153 = .ok (.ireturn, 1))
theorem ok195 : mOkl2 195 ct195 := ⟨⟨s195_0, s195_1, s195_2, s195_3, s195_4, s195_5, s195_6, s195_7, s195_10, s195_13, s195_14, s195_17, trivial⟩, ⟨s195_18, s195_19, s195_20, s195_21, s195_24, s195_25, s195_28, s195_31, s195_34, s195_35, s195_36, s195_37, trivial⟩, ⟨s195_38, s195_41, s195_42, s195_43, s195_46, s195_47, s195_50, s195_51, s195_52, s195_53, s195_54, s195_55, trivial⟩, ⟨s195_58, s195_59, s195_60, s195_63, s195_64, s195_65, s195_68, s195_69, s195_72, s195_73, s195_74, s195_77, trivial⟩, ⟨s195_78, s195_79, s195_80, s195_81, s195_82, s195_83, s195_84, s195_87, s195_88, s195_89, s195_92, s195_93, trivial⟩, ⟨s195_94, s195_97, s195_98, s195_101, s195_102, s195_105, s195_108, s195_111, s195_112, s195_115, s195_116, s195_117, trivial⟩, ⟨s195_118, s195_121, s195_122, s195_123, s195_124, s195_125, s195_128, s195_129, s195_132, s195_133, s195_134, s195_137, trivial⟩, ⟨s195_138, s195_139, s195_142, s195_143, s195_144, s195_145, s195_146, s195_149, s195_150, s195_151, s195_152, s195_153, trivial⟩, trivial⟩
theorem s196_0 : mSnd 196 0 (a_aload 1 0) := snd_aload_n (by decide +kernel : decode (mBc 196) 0 = .ok (.aload_n 0, 1)) rfl rfl
theorem s196_1 : mSnd 196 1 (a_iload 2 1) := snd_iload_n (by decide +kernel : decode (mBc 196) 1 = .ok (.iload_n 1, 1)) rfl rfl
theorem s196_2 : mSnd 196 2 (a_invV 5 1 0 0 [(10, 138, 0, 0)]) := snd_invV v196_92 rfl rfl (by decide +kernel : decode (mBc 196) 2 = .ok (.invokevirtual 92, 3)) rfl
theorem s196_5 : mSnd 196 5 (a_if 8 11 (fun x => decide (¬ x = 0))) := snd_if_ne (by decide +kernel : decode (mBc 196) 5 = .ok (.ifCond .ne 6, 3)) rfl rfl
theorem s196_8 : mSnd 196 8 (a_push 10 (.int (iZ (-2)))) := snd_bipush (by decide +kernel : decode (mBc 196) 8 = .ok (.bipush (-2), 2)) (by decide +kernel) rfl
theorem s196_10 : mSnd 196 10 (a_iret 0 0) := snd_iret rfl rfl rfl (by decide +kernel : decode (mBc 196) 10 = .ok (.ireturn, 1))
theorem s196_11 : mSnd 196 11 (a_aload 12 0) := snd_aload_n (by decide +kernel : decode (mBc 196) 11 = .ok (.aload_n 0, 1)) rfl rfl
theorem s196_12 : mSnd 196 12 (a_aload 13 0) := snd_aload_n (by decide +kernel : decode (mBc 196) 12 = .ok (.aload_n 0, 1)) rfl rfl
theorem s196_13 : mSnd 196 13 (a_iload 14 1) := snd_iload_n (by decide +kernel : decode (mBc 196) 13 = .ok (.iload_n 1, 1)) rfl rfl
theorem s196_14 : mSnd 196 14 (a_invV 17 1 0 0 [(10, 195, 0, 0)]) := snd_invV v196_205 rfl rfl (by decide +kernel : decode (mBc 196) 14 = .ok (.invokevirtual 205, 3)) rfl
theorem s196_17 : mSnd 196 17 (a_putf 20 13 0 [10]) := snd_putf f40 (by decide +kernel) q915 (Or.inl rfl) (Or.inl rfl) (by decide +kernel : decode (mBc 196) 17 = .ok (.putfield 52, 3)) rfl
theorem s196_20 : mSnd 196 20 (a_push 21 (.int (iZ 0))) := snd_iconst (by decide +kernel : decode (mBc 196) 20 = .ok (.iconst 0, 1)) rfl rfl
theorem s196_21 : mSnd 196 21 (a_istore 22 2) := snd_istore_n (by decide +kernel : decode (mBc 196) 21 = .ok (.istore_n 2, 1)) rfl (by decide) rfl
theorem s196_22 : mSnd 196 22 (a_iload 23 2) := snd_iload_n (by decide +kernel : decode (mBc 196) 22 = .ok (.iload_n 2, 1)) rfl rfl
theorem s196_23 : mSnd 196 23 (a_aload 24 0) := snd_aload_n (by decide +kernel : decode (mBc 196) 23 = .ok (.aload_n 0, 1)) rfl rfl
theorem s196_24 : mSnd 196 24 (a_getf 27 13 [10]) := snd_getf f40 q915 (Or.inl rfl) (by decide +kernel : decode (mBc 196) 24 = .ok (.getfield 52, 3)) rfl
theorem s196_27 : mSnd 196 27 (a_icmp 30 48 (fun x y => decide (y ≤ x))) := snd_icmp_ge (by decide +kernel : decode (mBc 196) 27 = .ok (.if_icmp .ge 21, 3)) rfl rfl
theorem s196_30 : mSnd 196 30 (a_aload 31 0) := snd_aload_n (by decide +kernel : decode (mBc 196) 30 = .ok (.aload_n 0, 1)) rfl rfl
theorem s196_31 : mSnd 196 31 (a_getf 34 12 [10]) := snd_getf f39 q914 (Or.inl rfl) (by decide +kernel : decode (mBc 196) 31 = .ok (.getfield 49, 3)) rfl
theorem s196_34 : mSnd 196 34 (a_iload 35 2) := snd_iload_n (by decide +kernel : decode (mBc 196) 34 = .ok (.iload_n 2, 1)) rfl rfl
theorem s196_35 : mSnd 196 35 (a_aload 36 0) := snd_aload_n (by decide +kernel : decode (mBc 196) 35 = .ok (.aload_n 0, 1)) rfl rfl
theorem s196_36 : mSnd 196 36 (a_getf 39 14 [10]) := snd_getf f41 q916 (Or.inl rfl) (by decide +kernel : decode (mBc 196) 36 = .ok (.getfield 55, 3)) rfl
theorem s196_39 : mSnd 196 39 (a_iload 40 2) := snd_iload_n (by decide +kernel : decode (mBc 196) 39 = .ok (.iload_n 2, 1)) rfl rfl
theorem s196_40 : mSnd 196 40 (a_lald 41) := snd_lald (by decide +kernel : decode (mBc 196) 40 = .ok (.laload, 1)) rfl
theorem s196_41 : mSnd 196 41 (a_last 42) := snd_last (by decide +kernel : decode (mBc 196) 41 = .ok (.lastore, 1)) rfl
theorem s196_42 : mSnd 196 42 (a_iinc 45 2 (iZ 1)) := snd_iinc (by decide +kernel : decode (mBc 196) 42 = .ok (.iinc 2 1, 3)) rfl (by decide) rfl
theorem s196_45 : mSnd 196 45 (a_goto 22) := snd_goto (by decide +kernel : decode (mBc 196) 45 = .ok (.goto (-23), 3)) rfl
theorem s196_48 : mSnd 196 48 (a_aload 49 0) := snd_aload_n (by decide +kernel : decode (mBc 196) 48 = .ok (.aload_n 0, 1)) rfl rfl
theorem s196_49 : mSnd 196 49 (a_getf 52 13 [10]) := snd_getf f40 q915 (Or.inl rfl) (by decide +kernel : decode (mBc 196) 49 = .ok (.getfield 52, 3)) rfl
theorem s196_52 : mSnd 196 52 (a_iret 0 0) := snd_iret rfl rfl rfl (by decide +kernel : decode (mBc 196) 52 = .ok (.ireturn, 1))
theorem ok196 : mOkl2 196 ct196 := ⟨⟨s196_0, s196_1, s196_2, s196_5, s196_8, s196_10, s196_11, s196_12, s196_13, s196_14, s196_17, s196_20, trivial⟩, ⟨s196_21, s196_22, s196_23, s196_24, s196_27, s196_30, s196_31, s196_34, s196_35, s196_36, s196_39, s196_40, trivial⟩, ⟨s196_41, s196_42, s196_45, s196_48, s196_49, s196_52, trivial⟩, trivial⟩
theorem s197_0 : mSnd 197 0 (a_aload 1 0) := snd_aload_n (by decide +kernel : decode (mBc 197) 0 = .ok (.aload_n 0, 1)) rfl rfl
theorem s197_1 : mSnd 197 1 (a_iload 2 1) := snd_iload_n (by decide +kernel : decode (mBc 197) 1 = .ok (.iload_n 1, 1)) rfl rfl
theorem s197_2 : mSnd 197 2 (a_push 3 (.int (iZ 0))) := snd_iconst (by decide +kernel : decode (mBc 197) 2 = .ok (.iconst 0, 1)) rfl rfl
theorem s197_3 : mSnd 197 3 (a_aload 4 0) := snd_aload_n (by decide +kernel : decode (mBc 197) 3 = .ok (.aload_n 0, 1)) rfl rfl
theorem s197_4 : mSnd 197 4 (a_getf 7 13 [10]) := snd_getf f40 q915 (Or.inl rfl) (by decide +kernel : decode (mBc 197) 4 = .ok (.getfield 52, 3)) rfl
theorem s197_7 : mSnd 197 7 (a_push 8 (.int (iZ 1))) := snd_iconst (by decide +kernel : decode (mBc 197) 7 = .ok (.iconst 1, 1)) rfl rfl
theorem s197_8 : mSnd 197 8 (a_ii 9 (fun x y => x - y)) := snd_isub (by decide +kernel : decode (mBc 197) 8 = .ok (.isub, 1)) rfl
theorem s197_9 : mSnd 197 9 (a_invV 12 3 0 0 [(10, 137, 0, 0)]) := snd_invV v197_76 rfl rfl (by decide +kernel : decode (mBc 197) 9 = .ok (.invokevirtual 76, 3)) rfl
theorem s197_12 : mSnd 197 12 (a_if 15 24 (fun x => decide (x = 0))) := snd_if_eq (by decide +kernel : decode (mBc 197) 12 = .ok (.ifCond .eq 12, 3)) rfl rfl
theorem s197_15 : mSnd 197 15 (a_aload 16 0) := snd_aload_n (by decide +kernel : decode (mBc 197) 15 = .ok (.aload_n 0, 1)) rfl rfl
theorem s197_16 : mSnd 197 16 (a_getf 19 12 [10]) := snd_getf f39 q914 (Or.inl rfl) (by decide +kernel : decode (mBc 197) 16 = .ok (.getfield 49, 3)) rfl
theorem s197_19 : mSnd 197 19 (a_iload 20 1) := snd_iload_n (by decide +kernel : decode (mBc 197) 19 = .ok (.iload_n 1, 1)) rfl rfl
theorem s197_20 : mSnd 197 20 (a_lald 21) := snd_lald (by decide +kernel : decode (mBc 197) 20 = .ok (.laload, 1)) rfl
theorem s197_21 : mSnd 197 21 (a_goto 27) := snd_goto (by decide +kernel : decode (mBc 197) 21 = .ok (.goto 6, 3)) rfl
theorem s197_24 : mSnd 197 24 (a_push 27 (.long (lZ (-4611686018427387904)))) := snd_ldc2 q1060 (by decide +kernel : decode (mBc 197) 24 = .ok (.ldc2_w 128, 3)) rfl
theorem s197_27 : mSnd 197 27 (a_lret 0 0) := snd_lret rfl rfl rfl (by decide +kernel : decode (mBc 197) 27 = .ok (.lreturn, 1))
theorem ok197 : mOkl2 197 ct197 := ⟨⟨s197_0, s197_1, s197_2, s197_3, s197_4, s197_7, s197_8, s197_9, s197_12, s197_15, s197_16, s197_19, trivial⟩, ⟨s197_20, s197_21, s197_24, s197_27, trivial⟩, trivial⟩
theorem s198_0 : mSnd 198 0 (a_aload 1 0) := snd_aload_n (by decide +kernel : decode (mBc 198) 0 = .ok (.aload_n 0, 1)) rfl rfl
theorem s198_1 : mSnd 198 1 (a_iload 2 1) := snd_iload_n (by decide +kernel : decode (mBc 198) 1 = .ok (.iload_n 1, 1)) rfl rfl
theorem s198_2 : mSnd 198 2 (a_push 3 (.int (iZ 0))) := snd_iconst (by decide +kernel : decode (mBc 198) 2 = .ok (.iconst 0, 1)) rfl rfl
theorem s198_3 : mSnd 198 3 (a_aload 4 0) := snd_aload_n (by decide +kernel : decode (mBc 198) 3 = .ok (.aload_n 0, 1)) rfl rfl
theorem s198_4 : mSnd 198 4 (a_getf 7 13 [10]) := snd_getf f40 q915 (Or.inl rfl) (by decide +kernel : decode (mBc 198) 4 = .ok (.getfield 52, 3)) rfl
theorem s198_7 : mSnd 198 7 (a_push 8 (.int (iZ 1))) := snd_iconst (by decide +kernel : decode (mBc 198) 7 = .ok (.iconst 1, 1)) rfl rfl
theorem s198_8 : mSnd 198 8 (a_ii 9 (fun x y => x - y)) := snd_isub (by decide +kernel : decode (mBc 198) 8 = .ok (.isub, 1)) rfl
theorem s198_9 : mSnd 198 9 (a_invV 12 3 0 0 [(10, 137, 0, 0)]) := snd_invV v198_76 rfl rfl (by decide +kernel : decode (mBc 198) 9 = .ok (.invokevirtual 76, 3)) rfl
theorem s198_12 : mSnd 198 12 (a_if 15 18 (fun x => decide (¬ x = 0))) := snd_if_ne (by decide +kernel : decode (mBc 198) 12 = .ok (.ifCond .ne 6, 3)) rfl rfl
theorem s198_15 : mSnd 198 15 (a_push 17 (.int (iZ (-2)))) := snd_bipush (by decide +kernel : decode (mBc 198) 15 = .ok (.bipush (-2), 2)) (by decide +kernel) rfl
theorem s198_17 : mSnd 198 17 (a_iret 0 0) := snd_iret rfl rfl rfl (by decide +kernel : decode (mBc 198) 17 = .ok (.ireturn, 1))
theorem s198_18 : mSnd 198 18 (a_aload 19 0) := snd_aload_n (by decide +kernel : decode (mBc 198) 18 = .ok (.aload_n 0, 1)) rfl rfl
theorem s198_19 : mSnd 198 19 (a_getf 22 12 [10]) := snd_getf f39 q914 (Or.inl rfl) (by decide +kernel : decode (mBc 198) 19 = .ok (.getfield 49, 3)) rfl
theorem s198_22 : mSnd 198 22 (a_iload 23 1) := snd_iload_n (by decide +kernel : decode (mBc 198) 22 = .ok (.iload_n 1, 1)) rfl rfl
theorem s198_23 : mSnd 198 23 (a_lload 24 2) := snd_lload_n (by decide +kernel : decode (mBc 198) 23 = .ok (.lload_n 2, 1)) rfl rfl
theorem s198_24 : mSnd 198 24 (a_last 25) := snd_last (by decide +kernel : decode (mBc 198) 24 = .ok (.lastore, 1)) rfl
theorem s198_25 : mSnd 198 25 (a_push 26 (.int (iZ 1))) := snd_iconst (by decide +kernel : decode (mBc 198) 25 = .ok (.iconst 1, 1)) rfl rfl
theorem s198_26 : mSnd 198 26 (a_iret 0 0) := snd_iret rfl rfl rfl (by decide +kernel : decode (mBc 198) 26 = .ok (.ireturn, 1))
theorem ok198 : mOkl2 198 ct198 := ⟨⟨s198_0, s198_1, s198_2, s198_3, s198_4, s198_7, s198_8, s198_9, s198_12, s198_15, s198_17, s198_18, trivial⟩, ⟨s198_19, s198_22, s198_23, s198_24, s198_25, s198_26, trivial⟩, trivial⟩
theorem s199_0 : mSnd 199 0 (a_aload 1 0) := snd_aload_n (by decide +kernel : decode (mBc 199) 0 = .ok (.aload_n 0, 1)) rfl rfl
theorem s199_1 : mSnd 199 1 (a_iload 2 1) := snd_iload_n (by decide +kernel : decode (mBc 199) 1 = .ok (.iload_n 1, 1)) rfl rfl
theorem s199_2 : mSnd 199 2 (a_invV 5 1 0 0 [(10, 138, 0, 0)]) := snd_invV v199_92 rfl rfl (by decide +kernel : decode (mBc 199) 2 = .ok (.invokevirtual 92, 3)) rfl
theorem s199_5 : mSnd 199 5 (a_if 8 11 (fun x => decide (¬ x = 0))) := snd_if_ne (by decide +kernel : decode (mBc 199) 5 = .ok (.ifCond .ne 6, 3)) rfl rfl
theorem s199_8 : mSnd 199 8 (a_push 10 (.int (iZ (-2)))) := snd_bipush (by decide +kernel : decode (mBc 199) 8 = .ok (.bipush (-2), 2)) (by decide +kernel) rfl
theorem s199_10 : mSnd 199 10 (a_iret 0 0) := snd_iret rfl rfl rfl (by decide +kernel : decode (mBc 199) 10 = .ok (.ireturn, 1))
theorem s199_11 : mSnd 199 11 (a_aload 12 0) := snd_aload_n (by decide +kernel : decode (mBc 199) 11 = .ok (.aload_n 0, 1)) rfl rfl
theorem s199_12 : mSnd 199 12 (a_iload 13 1) := snd_iload_n (by decide +kernel : decode (mBc 199) 12 = .ok (.iload_n 1, 1)) rfl rfl
theorem s199_13 : mSnd 199 13 (a_invV 16 1 0 0 [(10, 195, 0, 0)]) := snd_invV v199_205 rfl rfl (by decide +kernel : decode (mBc 199) 13 = .ok (.invokevirtual 205, 3)) rfl
theorem s199_16 : mSnd 199 16 (a_istore 17 2) := snd_istore_n (by decide +kernel : decode (mBc 199) 16 = .ok (.istore_n 2, 1)) rfl (by decide) rfl
theorem s199_17 : mSnd 199 17 (a_push 18 (.int (iZ 0))) := snd_iconst (by decide +kernel : decode (mBc 199) 17 = .ok (.iconst 0, 1)) rfl rfl
theorem s199_18 : mSnd 199 18 (a_istore 19 3) := snd_istore_n (by decide +kernel : decode (mBc 199) 18 = .ok (.istore_n 3, 1)) rfl (by decide) rfl
theorem s199_19 : mSnd 199 19 (a_iload 20 3) := snd_iload_n (by decide +kernel : decode (mBc 199) 19 = .ok (.iload_n 3, 1)) rfl rfl
theorem s199_20 : mSnd 199 20 (a_iload 21 2) := snd_iload_n (by decide +kernel : decode (mBc 199) 20 = .ok (.iload_n 2, 1)) rfl rfl
theorem s199_21 : mSnd 199 21 (a_icmp 24 32 (fun x y => decide (x < y))) := snd_icmp_lt (by decide +kernel : decode (mBc 199) 21 = .ok (.if_icmp .lt 11, 3)) rfl rfl
theorem s199_24 : mSnd 199 24 (a_iload 25 3) := snd_iload_n (by decide +kernel : decode (mBc 199) 24 = .ok (.iload_n 3, 1)) rfl rfl
theorem s199_25 : mSnd 199 25 (a_aload 26 0) := snd_aload_n (by decide +kernel : decode (mBc 199) 25 = .ok (.aload_n 0, 1)) rfl rfl
theorem s199_26 : mSnd 199 26 (a_getf 29 13 [10]) := snd_getf f40 q915 (Or.inl rfl) (by decide +kernel : decode (mBc 199) 26 = .ok (.getfield 52, 3)) rfl
theorem s199_29 : mSnd 199 29 (a_icmp 32 69 (fun x y => decide (y ≤ x))) := snd_icmp_ge (by decide +kernel : decode (mBc 199) 29 = .ok (.if_icmp .ge 40, 3)) rfl rfl
theorem s199_32 : mSnd 199 32 (a_iload 33 3) := snd_iload_n (by decide +kernel : decode (mBc 199) 32 = .ok (.iload_n 3, 1)) rfl rfl
theorem s199_33 : mSnd 199 33 (a_iload 34 2) := snd_iload_n (by decide +kernel : decode (mBc 199) 33 = .ok (.iload_n 2, 1)) rfl rfl
theorem s199_34 : mSnd 199 34 (a_icmp 37 61 (fun x y => decide (y ≤ x))) := snd_icmp_ge (by decide +kernel : decode (mBc 199) 34 = .ok (.if_icmp .ge 27, 3)) rfl rfl
theorem s199_37 : mSnd 199 37 (a_iload 38 3) := snd_iload_n (by decide +kernel : decode (mBc 199) 37 = .ok (.iload_n 3, 1)) rfl rfl
theorem s199_38 : mSnd 199 38 (a_aload 39 0) := snd_aload_n (by decide +kernel : decode (mBc 199) 38 = .ok (.aload_n 0, 1)) rfl rfl
theorem s199_39 : mSnd 199 39 (a_getf 42 13 [10]) := snd_getf f40 q915 (Or.inl rfl) (by decide +kernel : decode (mBc 199) 39 = .ok (.getfield 52, 3)) rfl
theorem s199_42 : mSnd 199 42 (a_icmp 45 61 (fun x y => decide (y ≤ x))) := snd_icmp_ge (by decide +kernel : decode (mBc 199) 42 = .ok (.if_icmp .ge 19, 3)) rfl rfl
theorem s199_45 : mSnd 199 45 (a_aload 46 0) := snd_aload_n (by decide +kernel : decode (mBc 199) 45 = .ok (.aload_n 0, 1)) rfl rfl
theorem s199_46 : mSnd 199 46 (a_getf 49 12 [10]) := snd_getf f39 q914 (Or.inl rfl) (by decide +kernel : decode (mBc 199) 46 = .ok (.getfield 49, 3)) rfl
theorem s199_49 : mSnd 199 49 (a_iload 50 3) := snd_iload_n (by decide +kernel : decode (mBc 199) 49 = .ok (.iload_n 3, 1)) rfl rfl
theorem s199_50 : mSnd 199 50 (a_lald 51) := snd_lald (by decide +kernel : decode (mBc 199) 50 = .ok (.laload, 1)) rfl
theorem s199_51 : mSnd 199 51 (a_aload 52 0) := snd_aload_n (by decide +kernel : decode (mBc 199) 51 = .ok (.aload_n 0, 1)) rfl rfl
theorem s199_52 : mSnd 199 52 (a_getf 55 14 [10]) := snd_getf f41 q916 (Or.inl rfl) (by decide +kernel : decode (mBc 199) 52 = .ok (.getfield 55, 3)) rfl
theorem s199_55 : mSnd 199 55 (a_iload 56 3) := snd_iload_n (by decide +kernel : decode (mBc 199) 55 = .ok (.iload_n 3, 1)) rfl rfl
theorem s199_56 : mSnd 199 56 (a_lald 57) := snd_lald (by decide +kernel : decode (mBc 199) 56 = .ok (.laload, 1)) rfl
theorem s199_57 : mSnd 199 57 (a_lcmp 58) := snd_lcmp (by decide +kernel : decode (mBc 199) 57 = .ok (.lcmp, 1)) rfl
theorem s199_58 : mSnd 199 58 (a_if 61 63 (fun x => decide (x = 0))) := snd_if_eq (by decide +kernel : decode (mBc 199) 58 = .ok (.ifCond .eq 5, 3)) rfl rfl
theorem s199_61 : mSnd 199 61 (a_iload 62 3) := snd_iload_n (by decide +kernel : decode (mBc 199) 61 = .ok (.iload_n 3, 1)) rfl rfl
theorem s199_62 : mSnd 199 62 (a_iret 0 0) := snd_iret rfl rfl rfl (by decide +kernel : decode (mBc 199) 62 = .ok (.ireturn, 1))
theorem s199_63 : mSnd 199 63 (a_iinc 66 3 (iZ 1)) := snd_iinc (by decide +kernel : decode (mBc 199) 63 = .ok (.iinc 3 1, 3)) rfl (by decide) rfl
theorem s199_66 : mSnd 199 66 (a_goto 19) := snd_goto (by decide +kernel : decode (mBc 199) 66 = .ok (.goto (-47), 3)) rfl
theorem s199_69 : mSnd 199 69 (a_push 70 (.int (iZ (-1)))) := snd_iconst (by decide +kernel : decode (mBc 199) 69 = .ok (.iconst (-1), 1)) rfl rfl
theorem s199_70 : mSnd 199 70 (a_iret 0 0) := snd_iret rfl rfl rfl (by decide +kernel : decode (mBc 199) 70 = .ok (.ireturn, 1))
theorem ok199 : mOkl2 199 ct199 := ⟨⟨s199_0, s199_1, s199_2, s199_5, s199_8, s199_10, s199_11, s199_12, s199_13, s199_16, s199_17, s199_18, trivial⟩, ⟨s199_19, s199_20, s199_21, s199_24, s199_25, s199_26, s199_29, s199_32, s199_33, s199_34, s199_37, s199_38, trivial⟩, ⟨s199_39, s199_42, s199_45, s199_46, s199_49, s199_50, s199_51, s199_52, s199_55, s199_56, s199_57, s199_58, trivial⟩, ⟨s199_61, s199_62, s199_63, s199_66, s199_69, s199_70, trivial⟩, trivial⟩
theorem s200_0 : mSnd 200 0 (a_aload 1 0) := snd_aload_n (by decide +kernel : decode (mBc 200) 0 = .ok (.aload_n 0, 1)) rfl rfl
theorem s200_1 : mSnd 200 1 (a_getf 4 16 [10]) := snd_getf f43 q918 (Or.inl rfl) (by decide +kernel : decode (mBc 200) 1 = .ok (.getfield 61, 3)) rfl
theorem s200_4 : mSnd 200 4 (a_push 6 (.int (iZ 40))) := snd_bipush (by decide +kernel : decode (mBc 200) 4 = .ok (.bipush 40, 2)) (by decide +kernel) rfl
theorem s200_6 : mSnd 200 6 (a_icmp 9 19 (fun x y => decide (y ≤ x))) := snd_icmp_ge (by decide +kernel : decode (mBc 200) 6 = .ok (.if_icmp .ge 13, 3)) rfl rfl
theorem s200_9 : mSnd 200 9 (a_aload 10 0) := snd_aload_n (by decide +kernel : decode (mBc 200) 9 = .ok (.aload_n 0, 1)) rfl rfl
theorem s200_10 : mSnd 200 10 (a_getf 13 15 [10]) := snd_getf f42 q917 (Or.inl rfl) (by decide +kernel : decode (mBc 200) 10 = .ok (.getfield 58, 3)) rfl
theorem s200_13 : mSnd 200 13 (a_aload 14 0) := snd_aload_n (by decide +kernel : decode (mBc 200) 13 = .ok (.aload_n 0, 1)) rfl rfl
theorem s200_14 : mSnd 200 14 (a_getf 17 16 [10]) := snd_getf f43 q918 (Or.inl rfl) (by decide +kernel : decode (mBc 200) 14 = .ok (.getfield 61, 3)) rfl
theorem s200_17 : mSnd 200 17 (a_iload 18 1) := snd_iload_n (by decide +kernel : decode (mBc 200) 17 = .ok (.iload_n 1, 1)) rfl rfl
theorem s200_18 : mSnd 200 18 (a_iast 19) := snd_iast (by decide +kernel : decode (mBc 200) 18 = .ok (.iastore, 1)) rfl
theorem s200_19 : mSnd 200 19 (a_aload 20 0) := snd_aload_n (by decide +kernel : decode (mBc 200) 19 = .ok (.aload_n 0, 1)) rfl rfl
theorem s200_20 : mSnd 200 20 (a_dup 21) := snd_dup (by decide +kernel : decode (mBc 200) 20 = .ok (.dup, 1)) rfl
theorem s200_21 : mSnd 200 21 (a_getf 24 16 [10]) := snd_getf f43 q918 (Or.inl rfl) (by decide +kernel : decode (mBc 200) 21 = .ok (.getfield 61, 3)) rfl
theorem s200_24 : mSnd 200 24 (a_push 25 (.int (iZ 1))) := snd_iconst (by decide +kernel : decode (mBc 200) 24 = .ok (.iconst 1, 1)) rfl rfl
theorem s200_25 : mSnd 200 25 (a_ii 26 (fun x y => x + y)) := snd_iadd (by decide +kernel : decode (mBc 200) 25 = .ok (.iadd, 1)) rfl
theorem s200_26 : mSnd 200 26 (a_putf 29 16 0 [10]) := snd_putf f43 (by decide +kernel) q918 (Or.inl rfl) (Or.inl rfl) (by decide +kernel : decode (mBc 200) 26 = .ok (.putfield 61, 3)) rfl
theorem s200_29 : mSnd 200 29 (a_vret 0 0) := snd_vret rfl rfl rfl (by decide +kernel : decode (mBc 200) 29 = .ok (.return_, 1))
theorem ok200 : mOkl2 200 ct200 := ⟨⟨s200_0, s200_1, s200_4, s200_6, s200_9, s200_10, s200_13, s200_14, s200_17, s200_18, s200_19, s200_20, trivial⟩, ⟨s200_21, s200_24, s200_25, s200_26, s200_29, trivial⟩, trivial⟩
theorem s201_0 : mSnd 201 0 (a_aload 1 0) := snd_aload_n (by decide +kernel : decode (mBc 201) 0 = .ok (.aload_n 0, 1)) rfl rfl
theorem s201_1 : mSnd 201 1 (a_push 3 (.int (iZ 10))) := snd_bipush (by decide +kernel : decode (mBc 201) 1 = .ok (.bipush 10, 2)) (by decide +kernel) rfl
theorem s201_3 : mSnd 201 3 (a_invV 6 1 0 0 [(10, 200, 0, 0)]) := snd_invV v201_208 rfl rfl (by decide +kernel : decode (mBc 201) 3 = .ok (.invokevirtual 208, 3)) rfl
theorem s201_6 : mSnd 201 6 (a_iload 7 2) := snd_iload_n (by decide +kernel : decode (mBc 201) 6 = .ok (.iload_n 2, 1)) rfl rfl
theorem s201_7 : mSnd 201 7 (a_aload 8 0) := snd_aload_n (by decide +kernel : decode (mBc 201) 7 = .ok (.aload_n 0, 1)) rfl rfl
theorem s201_8 : mSnd 201 8 (a_iload 9 1) := snd_iload_n (by decide +kernel : decode (mBc 201) 8 = .ok (.iload_n 1, 1)) rfl rfl
theorem s201_9 : mSnd 201 9 (a_aload 10 0) := snd_aload_n (by decide +kernel : decode (mBc 201) 9 = .ok (.aload_n 0, 1)) rfl rfl
theorem s201_10 : mSnd 201 10 (a_iload 11 1) := snd_iload_n (by decide +kernel : decode (mBc 201) 10 = .ok (.iload_n 1, 1)) rfl rfl
theorem s201_11 : mSnd 201 11 (a_invV 14 1 0 0 [(10, 139, 0, 0)]) := snd_invV v201_80 rfl rfl (by decide +kernel : decode (mBc 201) 11 = .ok (.invokevirtual 80, 3)) rfl
theorem s201_14 : mSnd 201 14 (a_invV 17 2 0 0 [(10, 144, 0, 0)]) := snd_invV v201_106 rfl rfl (by decide +kernel : decode (mBc 201) 14 = .ok (.invokevirtual 106, 3)) rfl
theorem s201_17 : mSnd 201 17 (a_l2i 18) := snd_l2i (by decide +kernel : decode (mBc 201) 17 = .ok (.l2i, 1)) rfl
theorem s201_18 : mSnd 201 18 (a_ii 19 (fun x y => x + y)) := snd_iadd (by decide +kernel : decode (mBc 201) 18 = .ok (.iadd, 1)) rfl
theorem s201_19 : mSnd 201 19 (a_iret 0 0) := snd_iret rfl rfl rfl (by decide +kernel : decode (mBc 201) 19 = .ok (.ireturn, 1))
theorem ok201 : mOkl2 201 ct201 := ⟨⟨s201_0, s201_1, s201_3, s201_6, s201_7, s201_8, s201_9, s201_10, s201_11, s201_14, s201_17, s201_18, trivial⟩, ⟨s201_19, trivial⟩, trivial⟩
theorem s202_0 : mSnd 202 0 (a_aload 1 0) := snd_aload_n (by decide +kernel : decode (mBc 202) 0 = .ok (.aload_n 0, 1)) rfl rfl
theorem s202_1 : mSnd 202 1 (a_getf 4 1 [10]) := snd_getf f28 q903 (Or.inl rfl) (by decide +kernel : decode (mBc 202) 1 = .ok (.getfield 13, 3)) rfl
theorem s202_4 : mSnd 202 4 (a_iload 5 1) := snd_iload_n (by decide +kernel : decode (mBc 202) 4 = .ok (.iload_n 1, 1)) rfl rfl
theorem s202_5 : mSnd 202 5 (a_iald 6) := snd_iald (by decide +kernel : decode (mBc 202) 5 = .ok (.iaload, 1)) rfl
theorem s202_6 : mSnd 202 6 (a_push 7 (.int (iZ 1))) := snd_iconst (by decide +kernel : decode (mBc 202) 6 = .ok (.iconst 1, 1)) rfl rfl
theorem s202_7 : mSnd 202 7 (a_icmp 10 25 (fun x y => decide (¬ x = y))) := snd_icmp_ne (by decide +kernel : decode (mBc 202) 7 = .ok (.if_icmp .ne 18, 3)) rfl rfl
theorem s202_10 : mSnd 202 10 (a_aload 11 0) := snd_aload_n (by decide +kernel : decode (mBc 202) 10 = .ok (.aload_n 0, 1)) rfl rfl
theorem s202_11 : mSnd 202 11 (a_push 13 (.int (iZ 20))) := snd_bipush (by decide +kernel : decode (mBc 202) 11 = .ok (.bipush 20, 2)) (by decide +kernel) rfl
theorem s202_13 : mSnd 202 13 (a_invV 16 1 0 0 [(10, 200, 0, 0)]) := snd_invV v202_208 rfl rfl (by decide +kernel : decode (mBc 202) 13 = .ok (.invokevirtual 208, 3)) rfl
theorem s202_16 : mSnd 202 16 (a_aload 17 0) := snd_aload_n (by decide +kernel : decode (mBc 202) 16 = .ok (.aload_n 0, 1)) rfl rfl
theorem s202_17 : mSnd 202 17 (a_iload 18 1) := snd_iload_n (by decide +kernel : decode (mBc 202) 17 = .ok (.iload_n 1, 1)) rfl rfl
theorem s202_18 : mSnd 202 18 (a_iload 19 2) := snd_iload_n (by decide +kernel : decode (mBc 202) 18 = .ok (.iload_n 2, 1)) rfl rfl
theorem s202_19 : mSnd 202 19 (a_invV 22 2 0 0 [(10, 201, 0, 0)]) := snd_invV v202_211 rfl rfl (by decide +kernel : decode (mBc 202) 19 = .ok (.invokevirtual 211, 3)) rfl
theorem s202_22 : mSnd 202 22 (a_push 23 (.int (iZ 2))) := snd_iconst (by decide +kernel : decode (mBc 202) 22 = .ok (.iconst 2, 1)) rfl rfl
theorem s202_23 : mSnd 202 23 (a_ii 24 (fun x y => x * y)) := snd_imul (by decide +kernel : decode (mBc 202) 23 = .ok (.imul, 1)) rfl
theorem s202_24 : mSnd 202 24 (a_iret 0 0) := snd_iret rfl rfl rfl (by decide +kernel : decode (mBc 202) 24 = .ok (.ireturn, 1))
theorem s202_25 : mSnd 202 25 (a_aload 26 0) := snd_aload_n (by decide +kernel : decode (mBc 202) 25 = .ok (.aload_n 0, 1)) rfl rfl
theorem s202_26 : mSnd 202 26 (a_getf 29 1 [10]) := snd_getf f28 q903 (Or.inl rfl) (by decide +kernel : decode (mBc 202) 26 = .ok (.getfield 13, 3)) rfl
theorem s202_29 : mSnd 202 29 (a_iload 30 1) := snd_iload_n (by decide +kernel : decode (mBc 202) 29 = .ok (.iload_n 1, 1)) rfl rfl
theorem s202_30 : mSnd 202 30 (a_iald 31) := snd_iald (by decide +kernel : decode (mBc 202) 30 = .ok (.iaload, 1)) rfl
theorem s202_31 : mSnd 202 31 (a_push 32 (.int (iZ 4))) := snd_iconst (by decide +kernel : decode (mBc 202) 31 = .ok (.iconst 4, 1)) rfl rfl
theorem s202_32 : mSnd 202 32 (a_icmp 35 55 (fun x y => decide (¬ x = y))) := snd_icmp_ne (by decide +kernel : decode (mBc 202) 32 = .ok (.if_icmp .ne 23, 3)) rfl rfl
theorem s202_35 : mSnd 202 35 (a_aload 36 0) := snd_aload_n (by decide +kernel : decode (mBc 202) 35 = .ok (.aload_n 0, 1)) rfl rfl
theorem s202_36 : mSnd 202 36 (a_push 38 (.int (iZ 50))) := snd_bipush (by decide +kernel : decode (mBc 202) 36 = .ok (.bipush 50, 2)) (by decide +kernel) rfl
theorem s202_38 : mSnd 202 38 (a_invV 41 1 0 0 [(10, 200, 0, 0)]) := snd_invV v202_208 rfl rfl (by decide +kernel : decode (mBc 202) 38 = .ok (.invokevirtual 208, 3)) rfl
theorem s202_41 : mSnd 202 41 (a_aload 42 0) := snd_aload_n (by decide +kernel : decode (mBc 202) 41 = .ok (.aload_n 0, 1)) rfl rfl
theorem s202_42 : mSnd 202 42 (a_iload 43 1) := snd_iload_n (by decide +kernel : decode (mBc 202) 42 = .ok (.iload_n 1, 1)) rfl rfl
theorem s202_43 : mSnd 202 43 (a_iload 44 2) := snd_iload_n (by decide +kernel : decode (mBc 202) 43 = .ok (.iload_n 2, 1)) rfl rfl
theorem s202_44 : mSnd 202 44 (a_aload 45 0) := snd_aload_n (by decide +kernel : decode (mBc 202) 44 = .ok (.aload_n 0, 1)) rfl rfl
theorem s202_45 : mSnd 202 45 (a_getf 48 2 [10]) := snd_getf f29 q904 (Or.inl rfl) (by decide +kernel : decode (mBc 202) 45 = .ok (.getfield 17, 3)) rfl
theorem s202_48 : mSnd 202 48 (a_iload 49 1) := snd_iload_n (by decide +kernel : decode (mBc 202) 48 = .ok (.iload_n 1, 1)) rfl rfl
theorem s202_49 : mSnd 202 49 (a_iald 50) := snd_iald (by decide +kernel : decode (mBc 202) 49 = .ok (.iaload, 1)) rfl
theorem s202_50 : mSnd 202 50 (a_ii 51 (fun x y => x - y)) := snd_isub (by decide +kernel : decode (mBc 202) 50 = .ok (.isub, 1)) rfl
theorem s202_51 : mSnd 202 51 (a_invV 54 2 0 0 [(10, 201, 0, 0)]) := snd_invV v202_211 rfl rfl (by decide +kernel : decode (mBc 202) 51 = .ok (.invokevirtual 211, 3)) rfl
theorem s202_54 : mSnd 202 54 (a_iret 0 0) := snd_iret rfl rfl rfl (by decide +kernel : decode (mBc 202) 54 = .ok (.ireturn, 1))
theorem s202_55 : mSnd 202 55 (a_aload 56 0) := snd_aload_n (by decide +kernel : decode (mBc 202) 55 = .ok (.aload_n 0, 1)) rfl rfl
theorem s202_56 : mSnd 202 56 (a_iload 57 1) := snd_iload_n (by decide +kernel : decode (mBc 202) 56 = .ok (.iload_n 1, 1)) rfl rfl
theorem s202_57 : mSnd 202 57 (a_iload 58 2) := snd_iload_n (by decide +kernel : decode (mBc 202) 57 = .ok (.iload_n 2, 1)) rfl rfl
theorem s202_58 : mSnd 202 58 (a_invV 61 2 0 0 [(10, 201, 0, 0)]) := snd_invV v202_211 rfl rfl (by decide +kernel : decode (mBc 202) 58 = .ok (.invokevirtual 211, 3)) rfl
theorem s202_61 : mSnd 202 61 (a_iret 0 0) := snd_iret rfl rfl rfl (by decide +kernel : decode (mBc 202) 61 = .ok (.ireturn, 1))
theorem ok202 : mOkl2 202 ct202 := ⟨⟨s202_0, s202_1, s202_4, s202_5, s202_6, s202_7, s202_10, s202_11, s202_13, s202_16, s202_17, s202_18, trivial⟩, ⟨s202_19, s202_22, s202_23, s202_24, s202_25, s202_26, s202_29, s202_30, s202_31, s202_32, s202_35, s202_36, trivial⟩, ⟨s202_38, s202_41, s202_42, s202_43, s202_44, s202_45, s202_48, s202_49, s202_50, s202_51, s202_54, s202_55, trivial⟩, ⟨s202_56, s202_57, s202_58, s202_61, trivial⟩, trivial⟩
