theorem s88_0 : mSnd 88 0 (a_aload 1 0) := snd_aload_n (by decide +kernel : decode (mBc 88) 0 = .ok (.aload_n 0, 1)) rfl rfl
theorem s88_1 : mSnd 88 1 (a_getf 4 1 [9]) := snd_getf f22 q58 (Or.inl rfl) (by decide +kernel : decode (mBc 88) 1 = .ok (.getfield 15, 3)) rfl
theorem s88_4 : mSnd 88 4 (a_push 5 (.int (iZ 1))) := snd_iconst (by decide +kernel : decode (mBc 88) 4 = .ok (.iconst 1, 1)) rfl rfl
theorem s88_5 : mSnd 88 5 (a_icmp 8 20 (fun x y => decide (x < y))) := snd_icmp_lt (by decide +kernel : decode (mBc 88) 5 = .ok (.if_icmp .lt 15, 3)) rfl rfl
theorem s88_8 : mSnd 88 8 (a_aload 9 0) := snd_aload_n (by decide +kernel : decode (mBc 88) 8 = .ok (.aload_n 0, 1)) rfl rfl
theorem s88_9 : mSnd 88 9 (a_getf 12 1 [9]) := snd_getf f22 q58 (Or.inl rfl) (by decide +kernel : decode (mBc 88) 9 = .ok (.getfield 15, 3)) rfl
theorem s88_12 : mSnd 88 12 (a_aload 13 0) := snd_aload_n (by decide +kernel : decode (mBc 88) 12 = .ok (.aload_n 0, 1)) rfl rfl
theorem s88_13 : mSnd 88 13 (a_getf 16 0 [9]) := snd_getf f21 q57 (Or.inl rfl) (by decide +kernel : decode (mBc 88) 13 = .ok (.getfield 11, 3)) rfl
theorem s88_16 : mSnd 88 16 (a_alen 17) := snd_alen (by decide +kernel : decode (mBc 88) 16 = .ok (.arraylength, 1)) rfl
theorem s88_17 : mSnd 88 17 (a_icmp 20 23 (fun x y => decide (x ≤ y))) := snd_icmp_le (by decide +kernel : decode (mBc 88) 17 = .ok (.if_icmp .le 6, 3)) rfl rfl
theorem s88_20 : mSnd 88 20 (a_push 22 (.int (iZ (-3)))) := snd_bipush (by decide +kernel : decode (mBc 88) 20 = .ok (.bipush (-3), 2)) (by decide +kernel) rfl
theorem s88_22 : mSnd 88 22 (a_iret 0 0) := snd_iret rfl rfl rfl (by decide +kernel : decode (mBc 88) 22 = .ok (.ireturn, 1))
theorem s88_23 : mSnd 88 23 (a_aload 24 0) := snd_aload_n (by decide +kernel : decode (mBc 88) 23 = .ok (.aload_n 0, 1)) rfl rfl
theorem s88_24 : mSnd 88 24 (a_dup 25) := snd_dup (by decide +kernel : decode (mBc 88) 24 = .ok (.dup, 1)) rfl
theorem s88_25 : mSnd 88 25 (a_getf 28 1 [9]) := snd_getf f22 q58 (Or.inl rfl) (by decide +kernel : decode (mBc 88) 25 = .ok (.getfield 15, 3)) rfl
theorem s88_28 : mSnd 88 28 (a_push 29 (.int (iZ 1))) := snd_iconst (by decide +kernel : decode (mBc 88) 28 = .ok (.iconst 1, 1)) rfl rfl
theorem s88_29 : mSnd 88 29 (a_ii 30 (fun x y => x - y)) := snd_isub (by decide +kernel : decode (mBc 88) 29 = .ok (.isub, 1)) rfl
theorem s88_30 : mSnd 88 30 (a_putf 33 1 0 [9]) := snd_putf f22 (by decide +kernel) q58 (Or.inl rfl) (Or.inl rfl) (by decide +kernel : decode (mBc 88) 30 = .ok (.putfield 15, 3)) rfl
theorem s88_33 : mSnd 88 33 (a_aload 34 0) := snd_aload_n (by decide +kernel : decode (mBc 88) 33 = .ok (.aload_n 0, 1)) rfl rfl
theorem s88_34 : mSnd 88 34 (a_getf 37 0 [9]) := snd_getf f21 q57 (Or.inl rfl) (by decide +kernel : decode (mBc 88) 34 = .ok (.getfield 11, 3)) rfl
theorem s88_37 : mSnd 88 37 (a_aload 38 0) := snd_aload_n (by decide +kernel : decode (mBc 88) 37 = .ok (.aload_n 0, 1)) rfl rfl
theorem s88_38 : mSnd 88 38 (a_getf 41 1 [9]) := snd_getf f22 q58 (Or.inl rfl) (by decide +kernel : decode (mBc 88) 38 = .ok (.getfield 15, 3)) rfl
theorem s88_41 : mSnd 88 41 (a_push 42 .null) := snd_null (by decide +kernel : decode (mBc 88) 41 = .ok (.aconst_null, 1)) rfl
theorem s88_42 : mSnd 88 42 (a_aast 43) := snd_aast (by decide +kernel : decode (mBc 88) 42 = .ok (.aastore, 1)) rfl
theorem s88_43 : mSnd 88 43 (a_aload 44 0) := snd_aload_n (by decide +kernel : decode (mBc 88) 43 = .ok (.aload_n 0, 1)) rfl rfl
theorem s88_44 : mSnd 88 44 (a_getf 47 1 [9]) := snd_getf f22 q58 (Or.inl rfl) (by decide +kernel : decode (mBc 88) 44 = .ok (.getfield 15, 3)) rfl
theorem s88_47 : mSnd 88 47 (a_iret 0 0) := snd_iret rfl rfl rfl (by decide +kernel : decode (mBc 88) 47 = .ok (.ireturn, 1))
theorem ok88 : mOkl2 88 ct88 := ⟨⟨s88_0, s88_1, s88_4, s88_5, s88_8, s88_9, s88_12, s88_13, s88_16, s88_17, s88_20, s88_22, trivial⟩, ⟨s88_23, s88_24, s88_25, s88_28, s88_29, s88_30, s88_33, s88_34, s88_37, s88_38, s88_41, s88_42, trivial⟩, ⟨s88_43, s88_44, s88_47, trivial⟩, trivial⟩
theorem s89_0 : mSnd 89 0 (a_aload 1 0) := snd_aload_n (by decide +kernel : decode (mBc 89) 0 = .ok (.aload_n 0, 1)) rfl rfl
theorem s89_1 : mSnd 89 1 (a_iload 2 1) := snd_iload_n (by decide +kernel : decode (mBc 89) 1 = .ok (.iload_n 1, 1)) rfl rfl
theorem s89_2 : mSnd 89 2 (a_invV 5 1 0 0 [(9, 114, 0, 0)]) := snd_invV v89_57 rfl rfl (by decide +kernel : decode (mBc 89) 2 = .ok (.invokevirtual 57, 3)) rfl
theorem s89_5 : mSnd 89 5 (a_astore 6 3) := snd_astore_n (by decide +kernel : decode (mBc 89) 5 = .ok (.astore_n 3, 1)) rfl (by decide) rfl
theorem s89_6 : mSnd 89 6 (a_aload 7 3) := snd_aload_n (by decide +kernel : decode (mBc 89) 6 = .ok (.aload_n 3, 1)) rfl rfl
theorem s89_7 : mSnd 89 7 (a_ifnull 13 10) := snd_ifnonnull (by decide +kernel : decode (mBc 89) 7 = .ok (.ifnonnull 6, 3)) rfl rfl
theorem s89_10 : mSnd 89 10 (a_push 12 (.int (iZ (-2)))) := snd_bipush (by decide +kernel : decode (mBc 89) 10 = .ok (.bipush (-2), 2)) (by decide +kernel) rfl
theorem s89_12 : mSnd 89 12 (a_iret 0 0) := snd_iret rfl rfl rfl (by decide +kernel : decode (mBc 89) 12 = .ok (.ireturn, 1))
theorem s89_13 : mSnd 89 13 (a_iload 14 2) := snd_iload_n (by decide +kernel : decode (mBc 89) 13 = .ok (.iload_n 2, 1)) rfl rfl
theorem s89_14 : mSnd 89 14 (a_tsw 114 0 6 [56, 61, 66, 82, 90, 104, 109]) := snd_tsw (by decide +kernel : decode (mBc 89) 14 = .ok (.tableswitch 100 0 6 #[42, 47, 52, 68, 76, 90, 95], 42)) rfl (by decide +kernel)
theorem s89_56 : mSnd 89 56 (a_aload 57 3) := snd_aload_n (by decide +kernel : decode (mBc 89) 56 = .ok (.aload_n 3, 1)) rfl rfl
theorem s89_57 : mSnd 89 57 (a_invV 60 0 0 0 [(1, 15, 0, 0), (2, 18, 0, 0), (4, 31, 0, 0), (6, 38, 0, 0), (8, 75, 0, 0)]) := snd_invV v89_68 rfl rfl (by decide +kernel : decode (mBc 89) 57 = .ok (.invokevirtual 68, 3)) rfl
theorem s89_60 : mSnd 89 60 (a_iret 0 0) := snd_iret rfl rfl rfl (by decide +kernel : decode (mBc 89) 60 = .ok (.ireturn, 1))
theorem s89_61 : mSnd 89 61 (a_aload 62 3) := snd_aload_n (by decide +kernel : decode (mBc 89) 61 = .ok (.aload_n 3, 1)) rfl rfl
theorem s89_62 : mSnd 89 62 (a_getf 65 1 [1, 2, 4, 6, 8]) := snd_getf f10 q128 (Or.inl rfl) (by decide +kernel : decode (mBc 89) 62 = .ok (.getfield 95, 3)) rfl
theorem s89_65 : mSnd 89 65 (a_iret 0 0) := snd_iret rfl rfl rfl (by decide +kernel : decode (mBc 89) 65 = .ok (.ireturn, 1))
theorem s89_66 : mSnd 89 66 (a_aload 67 3) := snd_aload_n (by decide +kernel : decode (mBc 89) 66 = .ok (.aload_n 3, 1)) rfl rfl
theorem s89_67 : mSnd 89 67 (a_invV 70 0 0 0 [(1, 49, 0, 0), (2, 49, 0, 0), (4, 49, 0, 0), (6, 49, 0, 0), (8, 49, 0, 0)]) := snd_invV v89_127 rfl rfl (by decide +kernel : decode (mBc 89) 67 = .ok (.invokevirtual 127, 3)) rfl
theorem s89_70 : mSnd 89 70 (a_getf 73 0 [0]) := snd_getf f0 q99 (Or.inl rfl) (by decide +kernel : decode (mBc 89) 70 = .ok (.getfield 131, 3)) rfl
theorem s89_73 : mSnd 89 73 (a_if 76 80 (fun x => decide (x ≤ 0))) := snd_if_le (by decide +kernel : decode (mBc 89) 73 = .ok (.ifCond .le 7, 3)) rfl rfl
theorem s89_76 : mSnd 89 76 (a_push 77 (.int (iZ 1))) := snd_iconst (by decide +kernel : decode (mBc 89) 76 = .ok (.iconst 1, 1)) rfl rfl
theorem s89_77 : mSnd 89 77 (a_goto 81) := snd_goto (by decide +kernel : decode (mBc 89) 77 = .ok (.goto 4, 3)) rfl
theorem s89_80 : mSnd 89 80 (a_push 81 (.int (iZ 0))) := snd_iconst (by decide +kernel : decode (mBc 89) 80 = .ok (.iconst 0, 1)) rfl rfl
theorem s89_81 : mSnd 89 81 (a_iret 0 0) := snd_iret rfl rfl rfl (by decide +kernel : decode (mBc 89) 81 = .ok (.ireturn, 1))
theorem s89_82 : mSnd 89 82 (a_aload 83 3) := snd_aload_n (by decide +kernel : decode (mBc 89) 82 = .ok (.aload_n 3, 1)) rfl rfl
theorem s89_83 : mSnd 89 83 (a_invV 86 0 0 0 [(1, 49, 0, 0), (2, 49, 0, 0), (4, 49, 0, 0), (6, 49, 0, 0), (8, 49, 0, 0)]) := snd_invV v89_127 rfl rfl (by decide +kernel : decode (mBc 89) 83 = .ok (.invokevirtual 127, 3)) rfl
theorem s89_86 : mSnd 89 86 (a_getf 89 0 [0]) := snd_getf f0 q99 (Or.inl rfl) (by decide +kernel : decode (mBc 89) 86 = .ok (.getfield 131, 3)) rfl
theorem s89_89 : mSnd 89 89 (a_iret 0 0) := snd_iret rfl rfl rfl (by decide +kernel : decode (mBc 89) 89 = .ok (.ireturn, 1))
theorem s89_90 : mSnd 89 90 (a_aload 91 3) := snd_aload_n (by decide +kernel : decode (mBc 89) 90 = .ok (.aload_n 3, 1)) rfl rfl
theorem s89_91 : mSnd 89 91 (a_invV 94 0 0 0 [(1, 55, 0, 0), (2, 55, 0, 0), (4, 55, 0, 0), (6, 55, 0, 0), (8, 55, 0, 0)]) := snd_invV v89_136 rfl rfl (by decide +kernel : decode (mBc 89) 91 = .ok (.invokevirtual 136, 3)) rfl
theorem s89_94 : mSnd 89 94 (a_push 95 (.int (iZ (-1)))) := snd_iconst (by decide +kernel : decode (mBc 89) 94 = .ok (.iconst (-1), 1)) rfl rfl
theorem s89_95 : mSnd 89 95 (a_icmp 98 102 (fun x y => decide (¬ x = y))) := snd_icmp_ne (by decide +kernel : decode (mBc 89) 95 = .ok (.if_icmp .ne 7, 3)) rfl rfl
theorem s89_98 : mSnd 89 98 (a_push 99 (.int (iZ 1))) := snd_iconst (by decide +kernel : decode (mBc 89) 98 = .ok (.iconst 1, 1)) rfl rfl
theorem s89_99 : mSnd 89 99 (a_goto 103) := snd_goto (by decide +kernel : decode (mBc 89) 99 = .ok (.goto 4, 3)) rfl
theorem s89_102 : mSnd 89 102 (a_push 103 (.int (iZ 0))) := snd_iconst (by decide +kernel : decode (mBc 89) 102 = .ok (.iconst 0, 1)) rfl rfl
theorem s89_103 : mSnd 89 103 (a_iret 0 0) := snd_iret rfl rfl rfl (by decide +kernel : decode (mBc 89) 103 = .ok (.ireturn, 1))
theorem s89_104 : mSnd 89 104 (a_aload 105 3) := snd_aload_n (by decide +kernel : decode (mBc 89) 104 = .ok (.aload_n 3, 1)) rfl rfl
theorem s89_105 : mSnd 89 105 (a_invV 108 0 0 0 [(1, 51, 0, 0), (2, 51, 0, 0), (4, 51, 0, 0), (6, 51, 0, 0), (8, 51, 0, 0)]) := snd_invV v89_139 rfl rfl (by decide +kernel : decode (mBc 89) 105 = .ok (.invokevirtual 139, 3)) rfl
theorem s89_108 : mSnd 89 108 (a_iret 0 0) := snd_iret rfl rfl rfl (by decide +kernel : decode (mBc 89) 108 = .ok (.ireturn, 1))
theorem s89_109 : mSnd 89 109 (a_aload 110 3) := snd_aload_n (by decide +kernel : decode (mBc 89) 109 = .ok (.aload_n 3, 1)) rfl rfl
theorem s89_110 : mSnd 89 110 (a_invV 113 0 0 0 [(1, 54, 0, 0), (2, 54, 0, 0), (4, 54, 0, 0), (6, 54, 0, 0), (8, 54, 0, 0)]) := snd_invV v89_142 rfl rfl (by decide +kernel : decode (mBc 89) 110 = .ok (.invokevirtual 142, 3)) rfl
theorem s89_113 : mSnd 89 113 (a_iret 0 0) := snd_iret rfl rfl rfl (by decide +kernel : decode (mBc 89) 113 = .ok (.ireturn, 1))
theorem s89_114 : mSnd 89 114 (a_push 116 (.int (iZ (-2)))) := snd_bipush (by decide +kernel : decode (mBc 89) 114 = .ok (.bipush (-2), 2)) (by decide +kernel) rfl
theorem s89_116 : mSnd 89 116 (a_iret 0 0) := snd_iret rfl rfl rfl (by decide +kernel : decode (mBc 89) 116 = .ok (.ireturn, 1))
theorem ok89 : mOkl2 89 ct89 := ⟨⟨s89_0, s89_1, s89_2, s89_5, s89_6, s89_7, s89_10, s89_12, s89_13, s89_14, s89_56, s89_57, trivial⟩, ⟨s89_60, s89_61, s89_62, s89_65, s89_66, s89_67, s89_70, s89_73, s89_76, s89_77, s89_80, s89_81, trivial⟩, ⟨s89_82, s89_83, s89_86, s89_89, s89_90, s89_91, s89_94, s89_95, s89_98, s89_99, s89_102, s89_103, trivial⟩, ⟨s89_104, s89_105, s89_108, s89_109, s89_110, s89_113, s89_114, s89_116, trivial⟩, trivial⟩
theorem s90_0 : mSnd 90 0 (a_aload 1 0) := snd_aload_n (by decide +kernel : decode (mBc 90) 0 = .ok (.aload_n 0, 1)) rfl rfl
theorem s90_1 : mSnd 90 1 (a_iload 2 1) := snd_iload_n (by decide +kernel : decode (mBc 90) 1 = .ok (.iload_n 1, 1)) rfl rfl
theorem s90_2 : mSnd 90 2 (a_invV 5 1 0 0 [(9, 114, 0, 0)]) := snd_invV v90_57 rfl rfl (by decide +kernel : decode (mBc 90) 2 = .ok (.invokevirtual 57, 3)) rfl
theorem s90_5 : mSnd 90 5 (a_astore 6 3) := snd_astore_n (by decide +kernel : decode (mBc 90) 5 = .ok (.astore_n 3, 1)) rfl (by decide) rfl
theorem s90_6 : mSnd 90 6 (a_aload 7 3) := snd_aload_n (by decide +kernel : decode (mBc 90) 6 = .ok (.aload_n 3, 1)) rfl rfl
theorem s90_7 : mSnd 90 7 (a_ifnull 10 22) := snd_ifnull (by decide +kernel : decode (mBc 90) 7 = .ok (.ifnull 15, 3)) rfl rfl
theorem s90_10 : mSnd 90 10 (a_iload 11 2) := snd_iload_n (by decide +kernel : decode (mBc 90) 10 = .ok (.iload_n 2, 1)) rfl rfl
theorem s90_11 : mSnd 90 11 (a_if 14 22 (fun x => decide (x < 0))) := snd_if_lt (by decide +kernel : decode (mBc 90) 11 = .ok (.ifCond .lt 11, 3)) rfl rfl
theorem s90_14 : mSnd 90 14 (a_iload 15 2) := snd_iload_n (by decide +kernel : decode (mBc 90) 14 = .ok (.iload_n 2, 1)) rfl rfl
theorem s90_15 : mSnd 90 15 (a_aload 16 3) := snd_aload_n (by decide +kernel : decode (mBc 90) 15 = .ok (.aload_n 3, 1)) rfl rfl
theorem s90_16 : mSnd 90 16 (a_invV 19 0 0 0 [(1, 42, 0, 0), (2, 42, 0, 0), (4, 42, 0, 0), (6, 42, 0, 0), (8, 42, 0, 0)]) := snd_invV v90_126 rfl rfl (by decide +kernel : decode (mBc 90) 16 = .ok (.invokevirtual 126, 3)) rfl
theorem s90_19 : mSnd 90 19 (a_icmp 22 28 (fun x y => decide (x ≤ y))) := snd_icmp_le (by decide +kernel : decode (mBc 90) 19 = .ok (.if_icmp .le 9, 3)) rfl rfl
theorem s90_22 : mSnd 90 22 (a_push 25 (.long (lZ (-4611686018427387904)))) := snd_ldc2 q501 (by decide +kernel : decode (mBc 90) 22 = .ok (.ldc2_w 145, 3)) rfl
theorem s90_25 : mSnd 90 25 (a_goto 34) := snd_goto (by decide +kernel : decode (mBc 90) 25 = .ok (.goto 9, 3)) rfl
theorem s90_28 : mSnd 90 28 (a_aload 29 3) := snd_aload_n (by decide +kernel : decode (mBc 90) 28 = .ok (.aload_n 3, 1)) rfl rfl
theorem s90_29 : mSnd 90 29 (a_iload 30 2) := snd_iload_n (by decide +kernel : decode (mBc 90) 29 = .ok (.iload_n 2, 1)) rfl rfl
theorem s90_30 : mSnd 90 30 (a_invV 33 1 0 0 [(1, 46, 0, 0), (2, 46, 0, 0), (4, 46, 0, 0), (6, 46, 0, 0), (8, 46, 0, 0)]) := snd_invV v90_108 rfl rfl (by decide +kernel : decode (mBc 90) 30 = .ok (.invokevirtual 108, 3)) rfl
theorem s90_33 : mSnd 90 33 (a_i2l 34) := snd_i2l (by decide +kernel : decode (mBc 90) 33 = .ok (.i2l, 1)) rfl
theorem s90_34 : mSnd 90 34 (a_lret 0 0) := snd_lret rfl rfl rfl (by decide +kernel : decode (mBc 90) 34 = .ok (.lreturn, 1))
theorem ok90 : mOkl2 90 ct90 := ⟨⟨s90_0, s90_1, s90_2, s90_5, s90_6, s90_7, s90_10, s90_11, s90_14, s90_15, s90_16, s90_19, trivial⟩, ⟨s90_22, s90_25, s90_28, s90_29, s90_30, s90_33, s90_34, trivial⟩, trivial⟩
theorem s91_0 : mSnd 91 0 (a_aload 1 0) := snd_aload_n (by decide +kernel : decode (mBc 91) 0 = .ok (.aload_n 0, 1)) rfl rfl
theorem s91_1 : mSnd 91 1 (a_iload 2 1) := snd_iload_n (by decide +kernel : decode (mBc 91) 1 = .ok (.iload_n 1, 1)) rfl rfl
theorem s91_2 : mSnd 91 2 (a_invV 5 1 0 0 [(9, 114, 0, 0)]) := snd_invV v91_57 rfl rfl (by decide +kernel : decode (mBc 91) 2 = .ok (.invokevirtual 57, 3)) rfl
theorem s91_5 : mSnd 91 5 (a_astore 7 4) := snd_astore (by decide +kernel : decode (mBc 91) 5 = .ok (.astore 4, 2)) (by decide) rfl
theorem s91_7 : mSnd 91 7 (a_aload 9 4) := snd_aload (by decide +kernel : decode (mBc 91) 7 = .ok (.aload 4, 2)) rfl
theorem s91_9 : mSnd 91 9 (a_ifnull 12 43) := snd_ifnull (by decide +kernel : decode (mBc 91) 9 = .ok (.ifnull 34, 3)) rfl rfl
theorem s91_12 : mSnd 91 12 (a_aload 14 4) := snd_aload (by decide +kernel : decode (mBc 91) 12 = .ok (.aload 4, 2)) rfl
theorem s91_14 : mSnd 91 14 (a_iload 15 2) := snd_iload_n (by decide +kernel : decode (mBc 91) 14 = .ok (.iload_n 2, 1)) rfl rfl
theorem s91_15 : mSnd 91 15 (a_invV 18 1 0 0 [(1, 43, 0, 0), (2, 43, 0, 0), (4, 43, 0, 0), (6, 43, 0, 0), (8, 43, 0, 0)]) := snd_invV v91_113 rfl rfl (by decide +kernel : decode (mBc 91) 15 = .ok (.invokevirtual 113, 3)) rfl
theorem s91_18 : mSnd 91 18 (a_if 21 43 (fun x => decide (x = 0))) := snd_if_eq (by decide +kernel : decode (mBc 91) 18 = .ok (.ifCond .eq 25, 3)) rfl rfl
theorem s91_21 : mSnd 91 21 (a_iload 22 3) := snd_iload_n (by decide +kernel : decode (mBc 91) 21 = .ok (.iload_n 3, 1)) rfl rfl
theorem s91_22 : mSnd 91 22 (a_if 25 43 (fun x => decide (x < 0))) := snd_if_lt (by decide +kernel : decode (mBc 91) 22 = .ok (.ifCond .lt 21, 3)) rfl rfl
theorem s91_25 : mSnd 91 25 (a_iload 26 3) := snd_iload_n (by decide +kernel : decode (mBc 91) 25 = .ok (.iload_n 3, 1)) rfl rfl
theorem s91_26 : mSnd 91 26 (a_aload 28 4) := snd_aload (by decide +kernel : decode (mBc 91) 26 = .ok (.aload 4, 2)) rfl
theorem s91_28 : mSnd 91 28 (a_invV 31 0 0 0 [(1, 42, 0, 0), (2, 42, 0, 0), (4, 42, 0, 0), (6, 42, 0, 0), (8, 42, 0, 0)]) := snd_invV v91_126 rfl rfl (by decide +kernel : decode (mBc 91) 28 = .ok (.invokevirtual 126, 3)) rfl
theorem s91_31 : mSnd 91 31 (a_icmp 34 43 (fun x y => decide (y < x))) := snd_icmp_gt (by decide +kernel : decode (mBc 91) 31 = .ok (.if_icmp .gt 12, 3)) rfl rfl
theorem s91_34 : mSnd 91 34 (a_iload 35 3) := snd_iload_n (by decide +kernel : decode (mBc 91) 34 = .ok (.iload_n 3, 1)) rfl rfl
theorem s91_35 : mSnd 91 35 (a_iload 36 2) := snd_iload_n (by decide +kernel : decode (mBc 91) 35 = .ok (.iload_n 2, 1)) rfl rfl
theorem s91_36 : mSnd 91 36 (a_invS 39 126 2 0 0 0 0) := snd_invS k91_126 rfl rfl q363 q229 q1 (by decide +kernel) (by decide +kernel : decode (mBc 91) 36 = .ok (.invokestatic 120, 3)) rfl
theorem s91_39 : mSnd 91 39 (a_push 40 (.int (iZ 1))) := snd_iconst (by decide +kernel : decode (mBc 91) 39 = .ok (.iconst 1, 1)) rfl rfl
theorem s91_40 : mSnd 91 40 (a_icmp 43 47 (fun x y => decide (¬ x = y))) := snd_icmp_ne (by decide +kernel : decode (mBc 91) 40 = .ok (.if_icmp .ne 7, 3)) rfl rfl
theorem s91_43 : mSnd 91 43 (a_push 46 (.long (lZ (-4611686018427387904)))) := snd_ldc2 q501 (by decide +kernel : decode (mBc 91) 43 = .ok (.ldc2_w 145, 3)) rfl
theorem s91_46 : mSnd 91 46 (a_lret 0 0) := snd_lret rfl rfl rfl (by decide +kernel : decode (mBc 91) 46 = .ok (.lreturn, 1))
theorem s91_47 : mSnd 91 47 (a_aload 49 4) := snd_aload (by decide +kernel : decode (mBc 91) 47 = .ok (.aload 4, 2)) rfl
theorem s91_49 : mSnd 91 49 (a_iload 50 2) := snd_iload_n (by decide +kernel : decode (mBc 91) 49 = .ok (.iload_n 2, 1)) rfl rfl
theorem s91_50 : mSnd 91 50 (a_iload 51 3) := snd_iload_n (by decide +kernel : decode (mBc 91) 50 = .ok (.iload_n 3, 1)) rfl rfl
theorem s91_51 : mSnd 91 51 (a_invV 54 2 0 0 [(1, 50, 0, 0), (2, 50, 0, 0), (4, 50, 0, 0), (6, 50, 0, 0), (8, 50, 0, 0)]) := snd_invV v91_147 rfl rfl (by decide +kernel : decode (mBc 91) 51 = .ok (.invokevirtual 147, 3)) rfl
theorem s91_54 : mSnd 91 54 (a_i2l 55) := snd_i2l (by decide +kernel : decode (mBc 91) 54 = .ok (.i2l, 1)) rfl
theorem s91_55 : mSnd 91 55 (a_lret 0 0) := snd_lret rfl rfl rfl (by decide +kernel : decode (mBc 91) 55 = .ok (.lreturn, 1))
theorem ok91 : mOkl2 91 ct91 := ⟨⟨s91_0, s91_1, s91_2, s91_5, s91_7, s91_9, s91_12, s91_14, s91_15, s91_18, s91_21, s91_22, trivial⟩, ⟨s91_25, s91_26, s91_28, s91_31, s91_34, s91_35, s91_36, s91_39, s91_40, s91_43, s91_46, s91_47, trivial⟩, ⟨s91_49, s91_50, s91_51, s91_54, s91_55, trivial⟩, trivial⟩
theorem s92_0 : mSnd 92 0 (a_aload 1 0) := snd_aload_n (by decide +kernel : decode (mBc 92) 0 = .ok (.aload_n 0, 1)) rfl rfl
theorem s92_1 : mSnd 92 1 (a_iload 2 1) := snd_iload_n (by decide +kernel : decode (mBc 92) 1 = .ok (.iload_n 1, 1)) rfl rfl
theorem s92_2 : mSnd 92 2 (a_invV 5 1 0 0 [(9, 114, 0, 0)]) := snd_invV v92_57 rfl rfl (by decide +kernel : decode (mBc 92) 2 = .ok (.invokevirtual 57, 3)) rfl
theorem s92_5 : mSnd 92 5 (a_astore 7 5) := snd_astore (by decide +kernel : decode (mBc 92) 5 = .ok (.astore 5, 2)) (by decide) rfl
theorem s92_7 : mSnd 92 7 (a_aload 9 5) := snd_aload (by decide +kernel : decode (mBc 92) 7 = .ok (.aload 5, 2)) rfl
theorem s92_9 : mSnd 92 9 (a_ifnull 12 28) := snd_ifnull (by decide +kernel : decode (mBc 92) 9 = .ok (.ifnull 19, 3)) rfl rfl
theorem s92_12 : mSnd 92 12 (a_iload 13 2) := snd_iload_n (by decide +kernel : decode (mBc 92) 12 = .ok (.iload_n 2, 1)) rfl rfl
theorem s92_13 : mSnd 92 13 (a_invS 16 122 1 0 0 0 0) := snd_invS k92_122 rfl rfl q511 q512 q1 (by decide +kernel) (by decide +kernel : decode (mBc 92) 13 = .ok (.invokestatic 150, 3)) rfl
theorem s92_16 : mSnd 92 16 (a_if 19 28 (fun x => decide (x = 0))) := snd_if_eq (by decide +kernel : decode (mBc 92) 16 = .ok (.ifCond .eq 12, 3)) rfl rfl
theorem s92_19 : mSnd 92 19 (a_aload 21 5) := snd_aload (by decide +kernel : decode (mBc 92) 19 = .ok (.aload 5, 2)) rfl
theorem s92_21 : mSnd 92 21 (a_iload 22 3) := snd_iload_n (by decide +kernel : decode (mBc 92) 21 = .ok (.iload_n 3, 1)) rfl rfl
theorem s92_22 : mSnd 92 22 (a_invV 25 1 0 0 [(1, 43, 0, 0), (2, 43, 0, 0), (4, 43, 0, 0), (6, 43, 0, 0), (8, 43, 0, 0)]) := snd_invV v92_113 rfl rfl (by decide +kernel : decode (mBc 92) 22 = .ok (.invokevirtual 113, 3)) rfl
theorem s92_25 : mSnd 92 25 (a_if 28 32 (fun x => decide (¬ x = 0))) := snd_if_ne (by decide +kernel : decode (mBc 92) 25 = .ok (.ifCond .ne 7, 3)) rfl rfl
theorem s92_28 : mSnd 92 28 (a_push 31 (.long (lZ (-4611686018427387904)))) := snd_ldc2 q501 (by decide +kernel : decode (mBc 92) 28 = .ok (.ldc2_w 145, 3)) rfl
theorem s92_31 : mSnd 92 31 (a_lret 0 0) := snd_lret rfl rfl rfl (by decide +kernel : decode (mBc 92) 31 = .ok (.lreturn, 1))
theorem s92_32 : mSnd 92 32 (a_aload 34 5) := snd_aload (by decide +kernel : decode (mBc 92) 32 = .ok (.aload 5, 2)) rfl
theorem s92_34 : mSnd 92 34 (a_iload 35 2) := snd_iload_n (by decide +kernel : decode (mBc 92) 34 = .ok (.iload_n 2, 1)) rfl rfl
theorem s92_35 : mSnd 92 35 (a_iload 36 3) := snd_iload_n (by decide +kernel : decode (mBc 92) 35 = .ok (.iload_n 3, 1)) rfl rfl
theorem s92_36 : mSnd 92 36 (a_invV 39 2 0 0 [(1, 60, 0, 0), (2, 60, 0, 0), (4, 60, 0, 0), (6, 60, 0, 0), (8, 60, 0, 0)]) := snd_invV v92_153 rfl rfl (by decide +kernel : decode (mBc 92) 36 = .ok (.invokevirtual 153, 3)) rfl
theorem s92_39 : mSnd 92 39 (a_i2l 40) := snd_i2l (by decide +kernel : decode (mBc 92) 39 = .ok (.i2l, 1)) rfl
theorem s92_40 : mSnd 92 40 (a_aload 42 5) := snd_aload (by decide +kernel : decode (mBc 92) 40 = .ok (.aload 5, 2)) rfl
theorem s92_42 : mSnd 92 42 (a_iload 43 2) := snd_iload_n (by decide +kernel : decode (mBc 92) 42 = .ok (.iload_n 2, 1)) rfl rfl
theorem s92_43 : mSnd 92 43 (a_invV 46 1 0 0 [(1, 59, 0, 0), (2, 59, 0, 0), (4, 59, 0, 0), (6, 59, 0, 0), (8, 59, 0, 0)]) := snd_invV v92_156 rfl rfl (by decide +kernel : decode (mBc 92) 43 = .ok (.invokevirtual 156, 3)) rfl
theorem s92_46 : mSnd 92 46 (a_i2l 47) := snd_i2l (by decide +kernel : decode (mBc 92) 46 = .ok (.i2l, 1)) rfl
theorem s92_47 : mSnd 92 47 (a_iload 49 4) := snd_iload (by decide +kernel : decode (mBc 92) 47 = .ok (.iload 4, 2)) rfl
theorem s92_49 : mSnd 92 49 (a_invS 52 134 3 0 0 0 0) := snd_invS k92_134 rfl rfl q549 q550 q1 (by decide +kernel) (by decide +kernel : decode (mBc 92) 49 = .ok (.invokestatic 159, 3)) rfl
theorem s92_52 : mSnd 92 52 (a_lret 0 0) := snd_lret rfl rfl rfl (by decide +kernel : decode (mBc 92) 52 = .ok (.lreturn, 1))
theorem ok92 : mOkl2 92 ct92 := ⟨⟨s92_0, s92_1, s92_2, s92_5, s92_7, s92_9, s92_12, s92_13, s92_16, s92_19, s92_21, s92_22, trivial⟩, ⟨s92_25, s92_28, s92_31, s92_32, s92_34, s92_35, s92_36, s92_39, s92_40, s92_42, s92_43, s92_46, trivial⟩, ⟨s92_47, s92_49, s92_52, trivial⟩, trivial⟩
theorem s93_0 : mSnd 93 0 (a_aload 1 0) := snd_aload_n (by decide +kernel : decode (mBc 93) 0 = .ok (.aload_n 0, 1)) rfl rfl
theorem s93_1 : mSnd 93 1 (a_iload 2 1) := snd_iload_n (by decide +kernel : decode (mBc 93) 1 = .ok (.iload_n 1, 1)) rfl rfl
theorem s93_2 : mSnd 93 2 (a_invV 5 1 0 0 [(9, 114, 0, 0)]) := snd_invV v93_57 rfl rfl (by decide +kernel : decode (mBc 93) 2 = .ok (.invokevirtual 57, 3)) rfl
theorem s93_5 : mSnd 93 5 (a_astore 7 5) := snd_astore (by decide +kernel : decode (mBc 93) 5 = .ok (.astore 5, 2)) (by decide) rfl
theorem s93_7 : mSnd 93 7 (a_aload 9 5) := snd_aload (by decide +kernel : decode (mBc 93) 7 = .ok (.aload 5, 2)) rfl
theorem s93_9 : mSnd 93 9 (a_ifnull 12 28) := snd_ifnull (by decide +kernel : decode (mBc 93) 9 = .ok (.ifnull 19, 3)) rfl rfl
theorem s93_12 : mSnd 93 12 (a_iload 13 2) := snd_iload_n (by decide +kernel : decode (mBc 93) 12 = .ok (.iload_n 2, 1)) rfl rfl
theorem s93_13 : mSnd 93 13 (a_invS 16 122 1 0 0 0 0) := snd_invS k93_122 rfl rfl q511 q512 q1 (by decide +kernel) (by decide +kernel : decode (mBc 93) 13 = .ok (.invokestatic 150, 3)) rfl
theorem s93_16 : mSnd 93 16 (a_if 19 28 (fun x => decide (x = 0))) := snd_if_eq (by decide +kernel : decode (mBc 93) 16 = .ok (.ifCond .eq 12, 3)) rfl rfl
theorem s93_19 : mSnd 93 19 (a_aload 21 5) := snd_aload (by decide +kernel : decode (mBc 93) 19 = .ok (.aload 5, 2)) rfl
theorem s93_21 : mSnd 93 21 (a_iload 22 3) := snd_iload_n (by decide +kernel : decode (mBc 93) 21 = .ok (.iload_n 3, 1)) rfl rfl
theorem s93_22 : mSnd 93 22 (a_invV 25 1 0 0 [(1, 45, 0, 0), (2, 45, 0, 0), (4, 45, 0, 0), (6, 45, 0, 0), (8, 45, 0, 0)]) := snd_invV v93_163 rfl rfl (by decide +kernel : decode (mBc 93) 22 = .ok (.invokevirtual 163, 3)) rfl
theorem s93_25 : mSnd 93 25 (a_if 28 32 (fun x => decide (¬ x = 0))) := snd_if_ne (by decide +kernel : decode (mBc 93) 25 = .ok (.ifCond .ne 7, 3)) rfl rfl
theorem s93_28 : mSnd 93 28 (a_push 31 (.long (lZ (-4611686018427387904)))) := snd_ldc2 q501 (by decide +kernel : decode (mBc 93) 28 = .ok (.ldc2_w 145, 3)) rfl
theorem s93_31 : mSnd 93 31 (a_lret 0 0) := snd_lret rfl rfl rfl (by decide +kernel : decode (mBc 93) 31 = .ok (.lreturn, 1))
theorem s93_32 : mSnd 93 32 (a_aload 34 5) := snd_aload (by decide +kernel : decode (mBc 93) 32 = .ok (.aload 5, 2)) rfl
theorem s93_34 : mSnd 93 34 (a_iload 35 2) := snd_iload_n (by decide +kernel : decode (mBc 93) 34 = .ok (.iload_n 2, 1)) rfl rfl
theorem s93_35 : mSnd 93 35 (a_iload 36 3) := snd_iload_n (by decide +kernel : decode (mBc 93) 35 = .ok (.iload_n 3, 1)) rfl rfl
theorem s93_36 : mSnd 93 36 (a_invV 39 2 0 0 [(1, 63, 0, 0), (2, 63, 0, 0), (4, 63, 0, 0), (6, 63, 0, 0), (8, 63, 0, 0)]) := snd_invV v93_166 rfl rfl (by decide +kernel : decode (mBc 93) 36 = .ok (.invokevirtual 166, 3)) rfl
theorem s93_39 : mSnd 93 39 (a_i2l 40) := snd_i2l (by decide +kernel : decode (mBc 93) 39 = .ok (.i2l, 1)) rfl
theorem s93_40 : mSnd 93 40 (a_aload 42 5) := snd_aload (by decide +kernel : decode (mBc 93) 40 = .ok (.aload 5, 2)) rfl
theorem s93_42 : mSnd 93 42 (a_iload 43 2) := snd_iload_n (by decide +kernel : decode (mBc 93) 42 = .ok (.iload_n 2, 1)) rfl rfl
theorem s93_43 : mSnd 93 43 (a_invV 46 1 0 0 [(1, 59, 0, 0), (2, 59, 0, 0), (4, 59, 0, 0), (6, 59, 0, 0), (8, 59, 0, 0)]) := snd_invV v93_156 rfl rfl (by decide +kernel : decode (mBc 93) 43 = .ok (.invokevirtual 156, 3)) rfl
theorem s93_46 : mSnd 93 46 (a_i2l 47) := snd_i2l (by decide +kernel : decode (mBc 93) 46 = .ok (.i2l, 1)) rfl
theorem s93_47 : mSnd 93 47 (a_iload 49 4) := snd_iload (by decide +kernel : decode (mBc 93) 47 = .ok (.iload 4, 2)) rfl
theorem s93_49 : mSnd 93 49 (a_invS 52 134 3 0 0 0 0) := snd_invS k93_134 rfl rfl q549 q550 q1 (by decide +kernel) (by decide +kernel : decode (mBc 93) 49 = .ok (.invokestatic 159, 3)) rfl
theorem s93_52 : mSnd 93 52 (a_lret 0 0) := snd_lret rfl rfl rfl (by decide +kernel : decode (mBc 93) 52 = .ok (.lreturn, 1))
theorem ok93 : mOkl2 93 ct93 := ⟨⟨s93_0, s93_1, s93_2, s93_5, s93_7, s93_9, s93_12, s93_13, s93_16, s93_19, s93_21, s93_22, trivial⟩, ⟨s93_25, s93_28, s93_31, s93_32, s93_34, s93_35, s93_36, s93_39, s93_40, s93_42, s93_43, s93_46, trivial⟩, ⟨s93_47, s93_49, s93_52, trivial⟩, trivial⟩
theorem s94_0 : mSnd 94 0 (a_aload 1 0) := snd_aload_n (by decide +kernel : decode (mBc 94) 0 = .ok (.aload_n 0, 1)) rfl rfl
theorem s94_1 : mSnd 94 1 (a_iload 2 1) := snd_iload_n (by decide +kernel : decode (mBc 94) 1 = .ok (.iload_n 1, 1)) rfl rfl
theorem s94_2 : mSnd 94 2 (a_invV 5 1 0 0 [(9, 114, 0, 0)]) := snd_invV v94_57 rfl rfl (by decide +kernel : decode (mBc 94) 2 = .ok (.invokevirtual 57, 3)) rfl
theorem s94_5 : mSnd 94 5 (a_astore 6 3) := snd_astore_n (by decide +kernel : decode (mBc 94) 5 = .ok (.astore_n 3, 1)) rfl (by decide) rfl
theorem s94_6 : mSnd 94 6 (a_aload 7 3) := snd_aload_n (by decide +kernel : decode (mBc 94) 6 = .ok (.aload_n 3, 1)) rfl rfl
theorem s94_7 : mSnd 94 7 (a_ifnull 10 17) := snd_ifnull (by decide +kernel : decode (mBc 94) 7 = .ok (.ifnull 10, 3)) rfl rfl
theorem s94_10 : mSnd 94 10 (a_iload 11 2) := snd_iload_n (by decide +kernel : decode (mBc 94) 10 = .ok (.iload_n 2, 1)) rfl rfl
theorem s94_11 : mSnd 94 11 (a_invS 14 122 1 0 0 0 0) := snd_invS k94_122 rfl rfl q511 q512 q1 (by decide +kernel) (by decide +kernel : decode (mBc 94) 11 = .ok (.invokestatic 150, 3)) rfl
theorem s94_14 : mSnd 94 14 (a_if 17 22 (fun x => decide (¬ x = 0))) := snd_if_ne (by decide +kernel : decode (mBc 94) 14 = .ok (.ifCond .ne 8, 3)) rfl rfl
theorem s94_17 : mSnd 94 17 (a_push 19 (.int (iZ (-2)))) := snd_bipush (by decide +kernel : decode (mBc 94) 17 = .ok (.bipush (-2), 2)) (by decide +kernel) rfl
theorem s94_19 : mSnd 94 19 (a_goto 27) := snd_goto (by decide +kernel : decode (mBc 94) 19 = .ok (.goto 8, 3)) rfl
theorem s94_22 : mSnd 94 22 (a_aload 23 3) := snd_aload_n (by decide +kernel : decode (mBc 94) 22 = .ok (.aload_n 3, 1)) rfl rfl
theorem s94_23 : mSnd 94 23 (a_iload 24 2) := snd_iload_n (by decide +kernel : decode (mBc 94) 23 = .ok (.iload_n 2, 1)) rfl rfl
theorem s94_24 : mSnd 94 24 (a_invV 27 1 0 0 [(1, 66, 0, 0), (2, 66, 0, 0), (4, 66, 0, 0), (6, 66, 0, 0), (8, 66, 0, 0)]) := snd_invV v94_169 rfl rfl (by decide +kernel : decode (mBc 94) 24 = .ok (.invokevirtual 169, 3)) rfl
theorem s94_27 : mSnd 94 27 (a_iret 0 0) := snd_iret rfl rfl rfl (by decide +kernel : decode (mBc 94) 27 = .ok (.ireturn, 1))
theorem ok94 : mOkl2 94 ct94 := ⟨⟨s94_0, s94_1, s94_2, s94_5, s94_6, s94_7, s94_10, s94_11, s94_14, s94_17, s94_19, s94_22, trivial⟩, ⟨s94_23, s94_24, s94_27, trivial⟩, trivial⟩
theorem s95_0 : mSnd 95 0 (a_aload 1 0) := snd_aload_n (by decide +kernel : decode (mBc 95) 0 = .ok (.aload_n 0, 1)) rfl rfl
theorem s95_1 : mSnd 95 1 (a_iload 2 1) := snd_iload_n (by decide +kernel : decode (mBc 95) 1 = .ok (.iload_n 1, 1)) rfl rfl
theorem s95_2 : mSnd 95 2 (a_invV 5 1 0 0 [(9, 114, 0, 0)]) := snd_invV v95_57 rfl rfl (by decide +kernel : decode (mBc 95) 2 = .ok (.invokevirtual 57, 3)) rfl
theorem s95_5 : mSnd 95 5 (a_astore 7 5) := snd_astore (by decide +kernel : decode (mBc 95) 5 = .ok (.astore 5, 2)) (by decide) rfl
theorem s95_7 : mSnd 95 7 (a_aload 9 5) := snd_aload (by decide +kernel : decode (mBc 95) 7 = .ok (.aload 5, 2)) rfl
theorem s95_9 : mSnd 95 9 (a_ifnull 12 21) := snd_ifnull (by decide +kernel : decode (mBc 95) 9 = .ok (.ifnull 12, 3)) rfl rfl
theorem s95_12 : mSnd 95 12 (a_aload 14 5) := snd_aload (by decide +kernel : decode (mBc 95) 12 = .ok (.aload 5, 2)) rfl
theorem s95_14 : mSnd 95 14 (a_iload 15 3) := snd_iload_n (by decide +kernel : decode (mBc 95) 14 = .ok (.iload_n 3, 1)) rfl rfl
theorem s95_15 : mSnd 95 15 (a_invV 18 1 0 0 [(1, 43, 0, 0), (2, 43, 0, 0), (4, 43, 0, 0), (6, 43, 0, 0), (8, 43, 0, 0)]) := snd_invV v95_113 rfl rfl (by decide +kernel : decode (mBc 95) 15 = .ok (.invokevirtual 113, 3)) rfl
theorem s95_18 : mSnd 95 18 (a_if 21 25 (fun x => decide (¬ x = 0))) := snd_if_ne (by decide +kernel : decode (mBc 95) 18 = .ok (.ifCond .ne 7, 3)) rfl rfl
theorem s95_21 : mSnd 95 21 (a_push 24 (.long (lZ (-4611686018427387904)))) := snd_ldc2 q501 (by decide +kernel : decode (mBc 95) 21 = .ok (.ldc2_w 145, 3)) rfl
theorem s95_24 : mSnd 95 24 (a_lret 0 0) := snd_lret rfl rfl rfl (by decide +kernel : decode (mBc 95) 24 = .ok (.lreturn, 1))
theorem s95_25 : mSnd 95 25 (a_aload 27 5) := snd_aload (by decide +kernel : decode (mBc 95) 25 = .ok (.aload 5, 2)) rfl
theorem s95_27 : mSnd 95 27 (a_invV 30 0 0 0 [(1, 49, 0, 0), (2, 49, 0, 0), (4, 49, 0, 0), (6, 49, 0, 0), (8, 49, 0, 0)]) := snd_invV v95_127 rfl rfl (by decide +kernel : decode (mBc 95) 27 = .ok (.invokevirtual 127, 3)) rfl
theorem s95_30 : mSnd 95 30 (a_astore 32 6) := snd_astore (by decide +kernel : decode (mBc 95) 30 = .ok (.astore 6, 2)) (by decide) rfl
theorem s95_32 : mSnd 95 32 (a_iload 33 2) := snd_iload_n (by decide +kernel : decode (mBc 95) 32 = .ok (.iload_n 2, 1)) rfl rfl
theorem s95_33 : mSnd 95 33 (a_if 36 45 (fun x => decide (x < 0))) := snd_if_lt (by decide +kernel : decode (mBc 95) 33 = .ok (.ifCond .lt 12, 3)) rfl rfl
theorem s95_36 : mSnd 95 36 (a_iload 37 2) := snd_iload_n (by decide +kernel : decode (mBc 95) 36 = .ok (.iload_n 2, 1)) rfl rfl
theorem s95_37 : mSnd 95 37 (a_aload 39 6) := snd_aload (by decide +kernel : decode (mBc 95) 37 = .ok (.aload 6, 2)) rfl
theorem s95_39 : mSnd 95 39 (a_getf 42 0 [0]) := snd_getf f0 q99 (Or.inl rfl) (by decide +kernel : decode (mBc 95) 39 = .ok (.getfield 131, 3)) rfl
theorem s95_42 : mSnd 95 42 (a_icmp 45 49 (fun x y => decide (x < y))) := snd_icmp_lt (by decide +kernel : decode (mBc 95) 42 = .ok (.if_icmp .lt 7, 3)) rfl rfl
theorem s95_45 : mSnd 95 45 (a_push 48 (.long (lZ (-4611686018427387904)))) := snd_ldc2 q501 (by decide +kernel : decode (mBc 95) 45 = .ok (.ldc2_w 145, 3)) rfl
theorem s95_48 : mSnd 95 48 (a_lret 0 0) := snd_lret rfl rfl rfl (by decide +kernel : decode (mBc 95) 48 = .ok (.lreturn, 1))
theorem s95_49 : mSnd 95 49 (a_aload 51 6) := snd_aload (by decide +kernel : decode (mBc 95) 49 = .ok (.aload 6, 2)) rfl
theorem s95_51 : mSnd 95 51 (a_iload 52 2) := snd_iload_n (by decide +kernel : decode (mBc 95) 51 = .ok (.iload_n 2, 1)) rfl rfl
theorem s95_52 : mSnd 95 52 (a_iload 53 3) := snd_iload_n (by decide +kernel : decode (mBc 95) 52 = .ok (.iload_n 3, 1)) rfl rfl
theorem s95_53 : mSnd 95 53 (a_invV 56 2 0 0 [(0, 1, 0, 0)]) := snd_invV v95_172 rfl rfl (by decide +kernel : decode (mBc 95) 53 = .ok (.invokevirtual 172, 3)) rfl
theorem s95_56 : mSnd 95 56 (a_i2l 57) := snd_i2l (by decide +kernel : decode (mBc 95) 56 = .ok (.i2l, 1)) rfl
theorem s95_57 : mSnd 95 57 (a_push 60 (.long (lZ 2))) := snd_ldc2 q608 (by decide +kernel : decode (mBc 95) 57 = .ok (.ldc2_w 175, 3)) rfl
theorem s95_60 : mSnd 95 60 (a_iload 62 4) := snd_iload (by decide +kernel : decode (mBc 95) 60 = .ok (.iload 4, 2)) rfl
theorem s95_62 : mSnd 95 62 (a_invS 65 134 3 0 0 0 0) := snd_invS k95_134 rfl rfl q549 q550 q1 (by decide +kernel) (by decide +kernel : decode (mBc 95) 62 = .ok (.invokestatic 159, 3)) rfl
theorem s95_65 : mSnd 95 65 (a_lret 0 0) := snd_lret rfl rfl rfl (by decide +kernel : decode (mBc 95) 65 = .ok (.lreturn, 1))
theorem ok95 : mOkl2 95 ct95 := ⟨⟨s95_0, s95_1, s95_2, s95_5, s95_7, s95_9, s95_12, s95_14, s95_15, s95_18, s95_21, s95_24, trivial⟩, ⟨s95_25, s95_27, s95_30, s95_32, s95_33, s95_36, s95_37, s95_39, s95_42, s95_45, s95_48, s95_49, trivial⟩, ⟨s95_51, s95_52, s95_53, s95_56, s95_57, s95_60, s95_62, s95_65, trivial⟩, trivial⟩
theorem s96_0 : mSnd 96 0 (a_aload 1 0) := snd_aload_n (by decide +kernel : decode (mBc 96) 0 = .ok (.aload_n 0, 1)) rfl rfl
theorem s96_1 : mSnd 96 1 (a_iload 2 1) := snd_iload_n (by decide +kernel : decode (mBc 96) 1 = .ok (.iload_n 1, 1)) rfl rfl
theorem s96_2 : mSnd 96 2 (a_invV 5 1 0 0 [(9, 114, 0, 0)]) := snd_invV v96_57 rfl rfl (by decide +kernel : decode (mBc 96) 2 = .ok (.invokevirtual 57, 3)) rfl
theorem s96_5 : mSnd 96 5 (a_astore 7 5) := snd_astore (by decide +kernel : decode (mBc 96) 5 = .ok (.astore 5, 2)) (by decide) rfl
theorem s96_7 : mSnd 96 7 (a_aload 9 5) := snd_aload (by decide +kernel : decode (mBc 96) 7 = .ok (.aload 5, 2)) rfl
theorem s96_9 : mSnd 96 9 (a_ifnull 12 28) := snd_ifnull (by decide +kernel : decode (mBc 96) 9 = .ok (.ifnull 19, 3)) rfl rfl
theorem s96_12 : mSnd 96 12 (a_aload 14 5) := snd_aload (by decide +kernel : decode (mBc 96) 12 = .ok (.aload 5, 2)) rfl
theorem s96_14 : mSnd 96 14 (a_iload 15 2) := snd_iload_n (by decide +kernel : decode (mBc 96) 14 = .ok (.iload_n 2, 1)) rfl rfl
theorem s96_15 : mSnd 96 15 (a_invV 18 1 0 0 [(1, 43, 0, 0), (2, 43, 0, 0), (4, 43, 0, 0), (6, 43, 0, 0), (8, 43, 0, 0)]) := snd_invV v96_113 rfl rfl (by decide +kernel : decode (mBc 96) 15 = .ok (.invokevirtual 113, 3)) rfl
theorem s96_18 : mSnd 96 18 (a_if 21 28 (fun x => decide (x = 0))) := snd_if_eq (by decide +kernel : decode (mBc 96) 18 = .ok (.ifCond .eq 10, 3)) rfl rfl
theorem s96_21 : mSnd 96 21 (a_iload 22 3) := snd_iload_n (by decide +kernel : decode (mBc 96) 21 = .ok (.iload_n 3, 1)) rfl rfl
theorem s96_22 : mSnd 96 22 (a_invS 25 122 1 0 0 0 0) := snd_invS k96_122 rfl rfl q511 q512 q1 (by decide +kernel) (by decide +kernel : decode (mBc 96) 22 = .ok (.invokestatic 150, 3)) rfl
theorem s96_25 : mSnd 96 25 (a_if 28 32 (fun x => decide (¬ x = 0))) := snd_if_ne (by decide +kernel : decode (mBc 96) 25 = .ok (.ifCond .ne 7, 3)) rfl rfl
theorem s96_28 : mSnd 96 28 (a_push 31 (.long (lZ (-4611686018427387904)))) := snd_ldc2 q501 (by decide +kernel : decode (mBc 96) 28 = .ok (.ldc2_w 145, 3)) rfl
theorem s96_31 : mSnd 96 31 (a_lret 0 0) := snd_lret rfl rfl rfl (by decide +kernel : decode (mBc 96) 31 = .ok (.lreturn, 1))
theorem s96_32 : mSnd 96 32 (a_aload 34 5) := snd_aload (by decide +kernel : decode (mBc 96) 32 = .ok (.aload 5, 2)) rfl
theorem s96_34 : mSnd 96 34 (a_invV 37 0 0 0 [(1, 49, 0, 0), (2, 49, 0, 0), (4, 49, 0, 0), (6, 49, 0, 0), (8, 49, 0, 0)]) := snd_invV v96_127 rfl rfl (by decide +kernel : decode (mBc 96) 34 = .ok (.invokevirtual 127, 3)) rfl
theorem s96_37 : mSnd 96 37 (a_astore 39 6) := snd_astore (by decide +kernel : decode (mBc 96) 37 = .ok (.astore 6, 2)) (by decide) rfl
theorem s96_39 : mSnd 96 39 (a_aload 41 6) := snd_aload (by decide +kernel : decode (mBc 96) 39 = .ok (.aload 6, 2)) rfl
theorem s96_41 : mSnd 96 41 (a_getf 44 0 [0]) := snd_getf f0 q99 (Or.inl rfl) (by decide +kernel : decode (mBc 96) 41 = .ok (.getfield 131, 3)) rfl
theorem s96_44 : mSnd 96 44 (a_if 47 51 (fun x => decide (¬ x = 0))) := snd_if_ne (by decide +kernel : decode (mBc 96) 44 = .ok (.ifCond .ne 7, 3)) rfl rfl
theorem s96_47 : mSnd 96 47 (a_push 50 (.long (lZ (-4611686018427387904)))) := snd_ldc2 q501 (by decide +kernel : decode (mBc 96) 47 = .ok (.ldc2_w 145, 3)) rfl
theorem s96_50 : mSnd 96 50 (a_lret 0 0) := snd_lret rfl rfl rfl (by decide +kernel : decode (mBc 96) 50 = .ok (.lreturn, 1))
theorem s96_51 : mSnd 96 51 (a_aload 53 6) := snd_aload (by decide +kernel : decode (mBc 96) 51 = .ok (.aload 6, 2)) rfl
theorem s96_53 : mSnd 96 53 (a_iload 54 2) := snd_iload_n (by decide +kernel : decode (mBc 96) 53 = .ok (.iload_n 2, 1)) rfl rfl
theorem s96_54 : mSnd 96 54 (a_iload 55 3) := snd_iload_n (by decide +kernel : decode (mBc 96) 54 = .ok (.iload_n 3, 1)) rfl rfl
theorem s96_55 : mSnd 96 55 (a_push 56 (.int (iZ 1))) := snd_iconst (by decide +kernel : decode (mBc 96) 55 = .ok (.iconst 1, 1)) rfl rfl
theorem s96_56 : mSnd 96 56 (a_icmp 59 63 (fun x y => decide (¬ x = y))) := snd_icmp_ne (by decide +kernel : decode (mBc 96) 56 = .ok (.if_icmp .ne 7, 3)) rfl rfl
theorem s96_59 : mSnd 96 59 (a_push 60 (.int (iZ 1))) := snd_iconst (by decide +kernel : decode (mBc 96) 59 = .ok (.iconst 1, 1)) rfl rfl
theorem s96_60 : mSnd 96 60 (a_goto 64) := snd_goto (by decide +kernel : decode (mBc 96) 60 = .ok (.goto 4, 3)) rfl
theorem s96_63 : mSnd 96 63 (a_push 64 (.int (iZ 0))) := snd_iconst (by decide +kernel : decode (mBc 96) 63 = .ok (.iconst 0, 1)) rfl rfl
theorem s96_64 : mSnd 96 64 (a_invV 67 2 0 0 [(0, 2, 0, 0)]) := snd_invV v96_177 rfl rfl (by decide +kernel : decode (mBc 96) 64 = .ok (.invokevirtual 177, 3)) rfl
theorem s96_67 : mSnd 96 67 (a_i2l 68) := snd_i2l (by decide +kernel : decode (mBc 96) 67 = .ok (.i2l, 1)) rfl
theorem s96_68 : mSnd 96 68 (a_push 71 (.long (lZ 2))) := snd_ldc2 q608 (by decide +kernel : decode (mBc 96) 68 = .ok (.ldc2_w 175, 3)) rfl
theorem s96_71 : mSnd 96 71 (a_iload 73 4) := snd_iload (by decide +kernel : decode (mBc 96) 71 = .ok (.iload 4, 2)) rfl
theorem s96_73 : mSnd 96 73 (a_invS 76 134 3 0 0 0 0) := snd_invS k96_134 rfl rfl q549 q550 q1 (by decide +kernel) (by decide +kernel : decode (mBc 96) 73 = .ok (.invokestatic 159, 3)) rfl
theorem s96_76 : mSnd 96 76 (a_lret 0 0) := snd_lret rfl rfl rfl (by decide +kernel : decode (mBc 96) 76 = .ok (.lreturn, 1))
theorem ok96 : mOkl2 96 ct96 := ⟨⟨s96_0, s96_1, s96_2, s96_5, s96_7, s96_9, s96_12, s96_14, s96_15, s96_18, s96_21, s96_22, trivial⟩, ⟨s96_25, s96_28, s96_31, s96_32, s96_34, s96_37, s96_39, s96_41, s96_44, s96_47, s96_50, s96_51, trivial⟩, ⟨s96_53, s96_54, s96_55, s96_56, s96_59, s96_60, s96_63, s96_64, s96_67, s96_68, s96_71, s96_73, trivial⟩, ⟨s96_76, trivial⟩, trivial⟩
theorem s97_0 : mSnd 97 0 (a_aload 1 0) := snd_aload_n (by decide +kernel : decode (mBc 97) 0 = .ok (.aload_n 0, 1)) rfl rfl
theorem s97_1 : mSnd 97 1 (a_iload 2 1) := snd_iload_n (by decide +kernel : decode (mBc 97) 1 = .ok (.iload_n 1, 1)) rfl rfl
theorem s97_2 : mSnd 97 2 (a_invV 5 1 0 0 [(9, 114, 0, 0)]) := snd_invV v97_57 rfl rfl (by decide +kernel : decode (mBc 97) 2 = .ok (.invokevirtual 57, 3)) rfl
theorem s97_5 : mSnd 97 5 (a_astore 6 3) := snd_astore_n (by decide +kernel : decode (mBc 97) 5 = .ok (.astore_n 3, 1)) rfl (by decide) rfl
theorem s97_6 : mSnd 97 6 (a_aload 7 3) := snd_aload_n (by decide +kernel : decode (mBc 97) 6 = .ok (.aload_n 3, 1)) rfl rfl
theorem s97_7 : mSnd 97 7 (a_ifnull 10 18) := snd_ifnull (by decide +kernel : decode (mBc 97) 7 = .ok (.ifnull 11, 3)) rfl rfl
theorem s97_10 : mSnd 97 10 (a_aload 11 3) := snd_aload_n (by decide +kernel : decode (mBc 97) 10 = .ok (.aload_n 3, 1)) rfl rfl
theorem s97_11 : mSnd 97 11 (a_getf 14 1 [1, 2, 4, 6, 8]) := snd_getf f10 q128 (Or.inl rfl) (by decide +kernel : decode (mBc 97) 11 = .ok (.getfield 95, 3)) rfl
theorem s97_14 : mSnd 97 14 (a_push 15 (.int (iZ 1))) := snd_iconst (by decide +kernel : decode (mBc 97) 14 = .ok (.iconst 1, 1)) rfl rfl
theorem s97_15 : mSnd 97 15 (a_icmp 18 22 (fun x y => decide (¬ x = y))) := snd_icmp_ne (by decide +kernel : decode (mBc 97) 15 = .ok (.if_icmp .ne 7, 3)) rfl rfl
theorem s97_18 : mSnd 97 18 (a_push 21 (.long (lZ (-4611686018427387904)))) := snd_ldc2 q501 (by decide +kernel : decode (mBc 97) 18 = .ok (.ldc2_w 145, 3)) rfl
theorem s97_21 : mSnd 97 21 (a_lret 0 0) := snd_lret rfl rfl rfl (by decide +kernel : decode (mBc 97) 21 = .ok (.lreturn, 1))
theorem s97_22 : mSnd 97 22 (a_aload 23 3) := snd_aload_n (by decide +kernel : decode (mBc 97) 22 = .ok (.aload_n 3, 1)) rfl rfl
theorem s97_23 : mSnd 97 23 (a_invV 26 0 0 0 [(1, 67, 0, 0), (2, 67, 0, 0), (4, 67, 0, 0), (6, 67, 0, 0), (8, 67, 0, 0)]) := snd_invV v97_181 rfl rfl (by decide +kernel : decode (mBc 97) 23 = .ok (.invokevirtual 181, 3)) rfl
theorem s97_26 : mSnd 97 26 (a_lstore 28 4) := snd_lstore (by decide +kernel : decode (mBc 97) 26 = .ok (.lstore 4, 2)) (by decide) rfl
theorem s97_28 : mSnd 97 28 (a_aload 29 3) := snd_aload_n (by decide +kernel : decode (mBc 97) 28 = .ok (.aload_n 3, 1)) rfl rfl
theorem s97_29 : mSnd 97 29 (a_lload 31 4) := snd_lload (by decide +kernel : decode (mBc 97) 29 = .ok (.lload 4, 2)) rfl
theorem s97_31 : mSnd 97 31 (a_invV 34 1 0 0 [(1, 68, 0, 0), (2, 68, 0, 0), (4, 68, 0, 0), (6, 68, 0, 0), (8, 68, 0, 0)]) := snd_invV v97_185 rfl rfl (by decide +kernel : decode (mBc 97) 31 = .ok (.invokevirtual 185, 3)) rfl
theorem s97_34 : mSnd 97 34 (a_i2l 35) := snd_i2l (by decide +kernel : decode (mBc 97) 34 = .ok (.i2l, 1)) rfl
theorem s97_35 : mSnd 97 35 (a_lload 37 4) := snd_lload (by decide +kernel : decode (mBc 97) 35 = .ok (.lload 4, 2)) rfl
theorem s97_37 : mSnd 97 37 (a_invS 40 133 1 0 0 0 0) := snd_invS k97_133 rfl rfl q663 q659 q1 (by decide +kernel) (by decide +kernel : decode (mBc 97) 37 = .ok (.invokestatic 189, 3)) rfl
theorem s97_40 : mSnd 97 40 (a_i2l 41) := snd_i2l (by decide +kernel : decode (mBc 97) 40 = .ok (.i2l, 1)) rfl
theorem s97_41 : mSnd 97 41 (a_iload 42 2) := snd_iload_n (by decide +kernel : decode (mBc 97) 41 = .ok (.iload_n 2, 1)) rfl rfl
theorem s97_42 : mSnd 97 42 (a_invS 45 134 3 0 0 0 0) := snd_invS k97_134 rfl rfl q549 q550 q1 (by decide +kernel) (by decide +kernel : decode (mBc 97) 42 = .ok (.invokestatic 159, 3)) rfl
theorem s97_45 : mSnd 97 45 (a_lret 0 0) := snd_lret rfl rfl rfl (by decide +kernel : decode (mBc 97) 45 = .ok (.lreturn, 1))
theorem ok97 : mOkl2 97 ct97 := ⟨⟨s97_0, s97_1, s97_2, s97_5, s97_6, s97_7, s97_10, s97_11, s97_14, s97_15, s97_18, s97_21, trivial⟩, ⟨s97_22, s97_23, s97_26, s97_28, s97_29, s97_31, s97_34, s97_35, s97_37, s97_40, s97_41, s97_42, trivial⟩, ⟨s97_45, trivial⟩, trivial⟩
theorem s98_0 : mSnd 98 0 (a_aload 1 0) := snd_aload_n (by decide +kernel : decode (mBc 98) 0 = .ok (.aload_n 0, 1)) rfl rfl
theorem s98_1 : mSnd 98 1 (a_iload 2 1) := snd_iload_n (by decide +kernel : decode (mBc 98) 1 = .ok (.iload_n 1, 1)) rfl rfl
theorem s98_2 : mSnd 98 2 (a_invV 5 1 0 0 [(9, 114, 0, 0)]) := snd_invV v98_57 rfl rfl (by decide +kernel : decode (mBc 98) 2 = .ok (.invokevirtual 57, 3)) rfl
theorem s98_5 : mSnd 98 5 (a_astore 7 4) := snd_astore (by decide +kernel : decode (mBc 98) 5 = .ok (.astore 4, 2)) (by decide) rfl
theorem s98_7 : mSnd 98 7 (a_aload 9 4) := snd_aload (by decide +kernel : decode (mBc 98) 7 = .ok (.aload 4, 2)) rfl
theorem s98_9 : mSnd 98 9 (a_ifnull 12 21) := snd_ifnull (by decide +kernel : decode (mBc 98) 9 = .ok (.ifnull 12, 3)) rfl rfl
theorem s98_12 : mSnd 98 12 (a_aload 14 4) := snd_aload (by decide +kernel : decode (mBc 98) 12 = .ok (.aload 4, 2)) rfl
theorem s98_14 : mSnd 98 14 (a_iload 15 2) := snd_iload_n (by decide +kernel : decode (mBc 98) 14 = .ok (.iload_n 2, 1)) rfl rfl
theorem s98_15 : mSnd 98 15 (a_invV 18 1 0 0 [(1, 45, 0, 0), (2, 45, 0, 0), (4, 45, 0, 0), (6, 45, 0, 0), (8, 45, 0, 0)]) := snd_invV v98_163 rfl rfl (by decide +kernel : decode (mBc 98) 15 = .ok (.invokevirtual 163, 3)) rfl
theorem s98_18 : mSnd 98 18 (a_if 21 25 (fun x => decide (¬ x = 0))) := snd_if_ne (by decide +kernel : decode (mBc 98) 18 = .ok (.ifCond .ne 7, 3)) rfl rfl
theorem s98_21 : mSnd 98 21 (a_push 24 (.long (lZ (-4611686018427387904)))) := snd_ldc2 q501 (by decide +kernel : decode (mBc 98) 21 = .ok (.ldc2_w 145, 3)) rfl
theorem s98_24 : mSnd 98 24 (a_lret 0 0) := snd_lret rfl rfl rfl (by decide +kernel : decode (mBc 98) 24 = .ok (.lreturn, 1))
theorem s98_25 : mSnd 98 25 (a_aload 27 4) := snd_aload (by decide +kernel : decode (mBc 98) 25 = .ok (.aload 4, 2)) rfl
theorem s98_27 : mSnd 98 27 (a_invV 30 0 0 0 [(1, 67, 0, 0), (2, 67, 0, 0), (4, 67, 0, 0), (6, 67, 0, 0), (8, 67, 0, 0)]) := snd_invV v98_181 rfl rfl (by decide +kernel : decode (mBc 98) 27 = .ok (.invokevirtual 181, 3)) rfl
theorem s98_30 : mSnd 98 30 (a_iload 31 2) := snd_iload_n (by decide +kernel : decode (mBc 98) 30 = .ok (.iload_n 2, 1)) rfl rfl
theorem s98_31 : mSnd 98 31 (a_invS 34 132 2 0 0 0 0) := snd_invS k98_132 rfl rfl q668 q669 q1 (by decide +kernel) (by decide +kernel : decode (mBc 98) 31 = .ok (.invokestatic 192, 3)) rfl
theorem s98_34 : mSnd 98 34 (a_i2l 35) := snd_i2l (by decide +kernel : decode (mBc 98) 34 = .ok (.i2l, 1)) rfl
theorem s98_35 : mSnd 98 35 (a_push 38 (.long (lZ 6))) := snd_ldc2 q672 (by decide +kernel : decode (mBc 98) 35 = .ok (.ldc2_w 196, 3)) rfl
theorem s98_38 : mSnd 98 38 (a_iload 39 3) := snd_iload_n (by decide +kernel : decode (mBc 98) 38 = .ok (.iload_n 3, 1)) rfl rfl
theorem s98_39 : mSnd 98 39 (a_invS 42 134 3 0 0 0 0) := snd_invS k98_134 rfl rfl q549 q550 q1 (by decide +kernel) (by decide +kernel : decode (mBc 98) 39 = .ok (.invokestatic 159, 3)) rfl
theorem s98_42 : mSnd 98 42 (a_lret 0 0) := snd_lret rfl rfl rfl (by decide +kernel : decode (mBc 98) 42 = .ok (.lreturn, 1))
theorem ok98 : mOkl2 98 ct98 := ⟨⟨s98_0, s98_1, s98_2, s98_5, s98_7, s98_9, s98_12, s98_14, s98_15, s98_18, s98_21, s98_24, trivial⟩, ⟨s98_25, s98_27, s98_30, s98_31, s98_34, s98_35, s98_38, s98_39, s98_42, trivial⟩, trivial⟩
theorem s99_0 : mSnd 99 0 (a_aload 1 0) := snd_aload_n (by decide +kernel : decode (mBc 99) 0 = .ok (.aload_n 0, 1)) rfl rfl
theorem s99_1 : mSnd 99 1 (a_iload 2 1) := snd_iload_n (by decide +kernel : decode (mBc 99) 1 = .ok (.iload_n 1, 1)) rfl rfl
theorem s99_2 : mSnd 99 2 (a_invV 5 1 0 0 [(9, 114, 0, 0)]) := snd_invV v99_57 rfl rfl (by decide +kernel : decode (mBc 99) 2 = .ok (.invokevirtual 57, 3)) rfl
theorem s99_5 : mSnd 99 5 (a_astore 6 2) := snd_astore_n (by decide +kernel : decode (mBc 99) 5 = .ok (.astore_n 2, 1)) rfl (by decide) rfl
theorem s99_6 : mSnd 99 6 (a_aload 7 2) := snd_aload_n (by decide +kernel : decode (mBc 99) 6 = .ok (.aload_n 2, 1)) rfl rfl
theorem s99_7 : mSnd 99 7 (a_ifnull 15 10) := snd_ifnonnull (by decide +kernel : decode (mBc 99) 7 = .ok (.ifnonnull 8, 3)) rfl rfl
theorem s99_10 : mSnd 99 10 (a_push 12 (.int (iZ (-2)))) := snd_bipush (by decide +kernel : decode (mBc 99) 10 = .ok (.bipush (-2), 2)) (by decide +kernel) rfl
theorem s99_12 : mSnd 99 12 (a_goto 19) := snd_goto (by decide +kernel : decode (mBc 99) 12 = .ok (.goto 7, 3)) rfl
theorem s99_15 : mSnd 99 15 (a_aload 16 2) := snd_aload_n (by decide +kernel : decode (mBc 99) 15 = .ok (.aload_n 2, 1)) rfl rfl
theorem s99_16 : mSnd 99 16 (a_invV 19 0 0 0 [(1, 55, 0, 0), (2, 55, 0, 0), (4, 55, 0, 0), (6, 55, 0, 0), (8, 55, 0, 0)]) := snd_invV v99_136 rfl rfl (by decide +kernel : decode (mBc 99) 16 = .ok (.invokevirtual 136, 3)) rfl
theorem s99_19 : mSnd 99 19 (a_iret 0 0) := snd_iret rfl rfl rfl (by decide +kernel : decode (mBc 99) 19 = .ok (.ireturn, 1))
theorem ok99 : mOkl2 99 ct99 := ⟨⟨s99_0, s99_1, s99_2, s99_5, s99_6, s99_7, s99_10, s99_12, s99_15, s99_16, s99_19, trivial⟩, trivial⟩
theorem s100_0 : mSnd 100 0 (a_aload 1 0) := snd_aload_n (by decide +kernel : decode (mBc 100) 0 = .ok (.aload_n 0, 1)) rfl rfl
theorem s100_1 : mSnd 100 1 (a_iload 2 1) := snd_iload_n (by decide +kernel : decode (mBc 100) 1 = .ok (.iload_n 1, 1)) rfl rfl
theorem s100_2 : mSnd 100 2 (a_invV 5 1 0 0 [(9, 114, 0, 0)]) := snd_invV v100_57 rfl rfl (by decide +kernel : decode (mBc 100) 2 = .ok (.invokevirtual 57, 3)) rfl
theorem s100_5 : mSnd 100 5 (a_astore 7 4) := snd_astore (by decide +kernel : decode (mBc 100) 5 = .ok (.astore 4, 2)) (by decide) rfl
theorem s100_7 : mSnd 100 7 (a_aload 9 4) := snd_aload (by decide +kernel : decode (mBc 100) 7 = .ok (.aload 4, 2)) rfl
theorem s100_9 : mSnd 100 9 (a_ifnull 12 35) := snd_ifnull (by decide +kernel : decode (mBc 100) 9 = .ok (.ifnull 26, 3)) rfl rfl
theorem s100_12 : mSnd 100 12 (a_aload 14 4) := snd_aload (by decide +kernel : decode (mBc 100) 12 = .ok (.aload 4, 2)) rfl
theorem s100_14 : mSnd 100 14 (a_iload 15 2) := snd_iload_n (by decide +kernel : decode (mBc 100) 14 = .ok (.iload_n 2, 1)) rfl rfl
theorem s100_15 : mSnd 100 15 (a_invV 18 1 0 0 [(1, 43, 0, 0), (2, 43, 0, 0), (4, 43, 0, 0), (6, 43, 0, 0), (8, 43, 0, 0)]) := snd_invV v100_113 rfl rfl (by decide +kernel : decode (mBc 100) 15 = .ok (.invokevirtual 113, 3)) rfl
theorem s100_18 : mSnd 100 18 (a_if 21 35 (fun x => decide (x = 0))) := snd_if_eq (by decide +kernel : decode (mBc 100) 18 = .ok (.ifCond .eq 17, 3)) rfl rfl
theorem s100_21 : mSnd 100 21 (a_aload 23 4) := snd_aload (by decide +kernel : decode (mBc 100) 21 = .ok (.aload 4, 2)) rfl
theorem s100_23 : mSnd 100 23 (a_iload 24 3) := snd_iload_n (by decide +kernel : decode (mBc 100) 23 = .ok (.iload_n 3, 1)) rfl rfl
theorem s100_24 : mSnd 100 24 (a_invV 27 1 0 0 [(1, 43, 0, 0), (2, 43, 0, 0), (4, 43, 0, 0), (6, 43, 0, 0), (8, 43, 0, 0)]) := snd_invV v100_113 rfl rfl (by decide +kernel : decode (mBc 100) 24 = .ok (.invokevirtual 113, 3)) rfl
theorem s100_27 : mSnd 100 27 (a_if 30 35 (fun x => decide (x = 0))) := snd_if_eq (by decide +kernel : decode (mBc 100) 27 = .ok (.ifCond .eq 8, 3)) rfl rfl
theorem s100_30 : mSnd 100 30 (a_iload 31 2) := snd_iload_n (by decide +kernel : decode (mBc 100) 30 = .ok (.iload_n 2, 1)) rfl rfl
theorem s100_31 : mSnd 100 31 (a_iload 32 3) := snd_iload_n (by decide +kernel : decode (mBc 100) 31 = .ok (.iload_n 3, 1)) rfl rfl
theorem s100_32 : mSnd 100 32 (a_icmp 35 38 (fun x y => decide (¬ x = y))) := snd_icmp_ne (by decide +kernel : decode (mBc 100) 32 = .ok (.if_icmp .ne 6, 3)) rfl rfl
theorem s100_35 : mSnd 100 35 (a_push 37 (.int (iZ (-2)))) := snd_bipush (by decide +kernel : decode (mBc 100) 35 = .ok (.bipush (-2), 2)) (by decide +kernel) rfl
theorem s100_37 : mSnd 100 37 (a_iret 0 0) := snd_iret rfl rfl rfl (by decide +kernel : decode (mBc 100) 37 = .ok (.ireturn, 1))
theorem s100_38 : mSnd 100 38 (a_aload 40 4) := snd_aload (by decide +kernel : decode (mBc 100) 38 = .ok (.aload 4, 2)) rfl
theorem s100_40 : mSnd 100 40 (a_iload 41 2) := snd_iload_n (by decide +kernel : decode (mBc 100) 40 = .ok (.iload_n 2, 1)) rfl rfl
theorem s100_41 : mSnd 100 41 (a_iload 42 3) := snd_iload_n (by decide +kernel : decode (mBc 100) 41 = .ok (.iload_n 3, 1)) rfl rfl
theorem s100_42 : mSnd 100 42 (a_invV 45 2 0 0 [(1, 53, 0, 0), (2, 53, 0, 0), (4, 53, 0, 0), (6, 53, 0, 0), (8, 53, 0, 0)]) := snd_invV v100_198 rfl rfl (by decide +kernel : decode (mBc 100) 42 = .ok (.invokevirtual 198, 3)) rfl
theorem s100_45 : mSnd 100 45 (a_if 48 52 (fun x => decide (x = 0))) := snd_if_eq (by decide +kernel : decode (mBc 100) 45 = .ok (.ifCond .eq 7, 3)) rfl rfl
theorem s100_48 : mSnd 100 48 (a_push 49 (.int (iZ 1))) := snd_iconst (by decide +kernel : decode (mBc 100) 48 = .ok (.iconst 1, 1)) rfl rfl
theorem s100_49 : mSnd 100 49 (a_goto 53) := snd_goto (by decide +kernel : decode (mBc 100) 49 = .ok (.goto 4, 3)) rfl
theorem s100_52 : mSnd 100 52 (a_push 53 (.int (iZ 0))) := snd_iconst (by decide +kernel : decode (mBc 100) 52 = .ok (.iconst 0, 1)) rfl rfl
theorem s100_53 : mSnd 100 53 (a_iret 0 0) := snd_iret rfl rfl rfl (by decide +kernel : decode (mBc 100) 53 = .ok (.ireturn, 1))
theorem ok100 : mOkl2 100 ct100 := ⟨⟨s100_0, s100_1, s100_2, s100_5, s100_7, s100_9, s100_12, s100_14, s100_15, s100_18, s100_21, s100_23, trivial⟩, ⟨s100_24, s100_27, s100_30, s100_31, s100_32, s100_35, s100_37, s100_38, s100_40, s100_41, s100_42, s100_45, trivial⟩, ⟨s100_48, s100_49, s100_52, s100_53, trivial⟩, trivial⟩
theorem s101_0 : mSnd 101 0 (a_aload 1 0) := snd_aload_n (by decide +kernel : decode (mBc 101) 0 = .ok (.aload_n 0, 1)) rfl rfl
theorem s101_1 : mSnd 101 1 (a_iload 2 1) := snd_iload_n (by decide +kernel : decode (mBc 101) 1 = .ok (.iload_n 1, 1)) rfl rfl
theorem s101_2 : mSnd 101 2 (a_invV 5 1 0 0 [(9, 114, 0, 0)]) := snd_invV v101_57 rfl rfl (by decide +kernel : decode (mBc 101) 2 = .ok (.invokevirtual 57, 3)) rfl
theorem s101_5 : mSnd 101 5 (a_astore 7 4) := snd_astore (by decide +kernel : decode (mBc 101) 5 = .ok (.astore 4, 2)) (by decide) rfl
theorem s101_7 : mSnd 101 7 (a_aload 9 4) := snd_aload (by decide +kernel : decode (mBc 101) 7 = .ok (.aload 4, 2)) rfl
theorem s101_9 : mSnd 101 9 (a_ifnull 12 28) := snd_ifnull (by decide +kernel : decode (mBc 101) 9 = .ok (.ifnull 19, 3)) rfl rfl
theorem s101_12 : mSnd 101 12 (a_aload 14 4) := snd_aload (by decide +kernel : decode (mBc 101) 12 = .ok (.aload 4, 2)) rfl
theorem s101_14 : mSnd 101 14 (a_iload 15 2) := snd_iload_n (by decide +kernel : decode (mBc 101) 14 = .ok (.iload_n 2, 1)) rfl rfl
theorem s101_15 : mSnd 101 15 (a_invV 18 1 0 0 [(1, 43, 0, 0), (2, 43, 0, 0), (4, 43, 0, 0), (6, 43, 0, 0), (8, 43, 0, 0)]) := snd_invV v101_113 rfl rfl (by decide +kernel : decode (mBc 101) 15 = .ok (.invokevirtual 113, 3)) rfl
theorem s101_18 : mSnd 101 18 (a_if 21 28 (fun x => decide (x = 0))) := snd_if_eq (by decide +kernel : decode (mBc 101) 18 = .ok (.ifCond .eq 10, 3)) rfl rfl
theorem s101_21 : mSnd 101 21 (a_iload 22 3) := snd_iload_n (by decide +kernel : decode (mBc 101) 21 = .ok (.iload_n 3, 1)) rfl rfl
theorem s101_22 : mSnd 101 22 (a_invS 25 122 1 0 0 0 0) := snd_invS k101_122 rfl rfl q511 q512 q1 (by decide +kernel) (by decide +kernel : decode (mBc 101) 22 = .ok (.invokestatic 150, 3)) rfl
theorem s101_25 : mSnd 101 25 (a_if 28 31 (fun x => decide (¬ x = 0))) := snd_if_ne (by decide +kernel : decode (mBc 101) 25 = .ok (.ifCond .ne 6, 3)) rfl rfl
theorem s101_28 : mSnd 101 28 (a_push 30 (.int (iZ (-2)))) := snd_bipush (by decide +kernel : decode (mBc 101) 28 = .ok (.bipush (-2), 2)) (by decide +kernel) rfl
theorem s101_30 : mSnd 101 30 (a_iret 0 0) := snd_iret rfl rfl rfl (by decide +kernel : decode (mBc 101) 30 = .ok (.ireturn, 1))
theorem s101_31 : mSnd 101 31 (a_aload 33 4) := snd_aload (by decide +kernel : decode (mBc 101) 31 = .ok (.aload 4, 2)) rfl
theorem s101_33 : mSnd 101 33 (a_invV 36 0 0 0 [(1, 15, 0, 0), (2, 18, 0, 0), (4, 31, 0, 0), (6, 38, 0, 0), (8, 75, 0, 0)]) := snd_invV v101_68 rfl rfl (by decide +kernel : decode (mBc 101) 33 = .ok (.invokevirtual 68, 3)) rfl
theorem s101_36 : mSnd 101 36 (a_push 37 (.int (iZ 1))) := snd_iconst (by decide +kernel : decode (mBc 101) 36 = .ok (.iconst 1, 1)) rfl rfl
theorem s101_37 : mSnd 101 37 (a_icmp 40 45 (fun x y => decide (x = y))) := snd_icmp_eq (by decide +kernel : decode (mBc 101) 37 = .ok (.if_icmp .eq 8, 3)) rfl rfl
theorem s101_40 : mSnd 101 40 (a_push 42 (.int (iZ (-3)))) := snd_bipush (by decide +kernel : decode (mBc 101) 40 = .ok (.bipush (-3), 2)) (by decide +kernel) rfl
theorem s101_42 : mSnd 101 42 (a_goto 61) := snd_goto (by decide +kernel : decode (mBc 101) 42 = .ok (.goto 19, 3)) rfl
theorem s101_45 : mSnd 101 45 (a_aload 47 4) := snd_aload (by decide +kernel : decode (mBc 101) 45 = .ok (.aload 4, 2)) rfl
theorem s101_47 : mSnd 101 47 (a_iload 48 2) := snd_iload_n (by decide +kernel : decode (mBc 101) 47 = .ok (.iload_n 2, 1)) rfl rfl
theorem s101_48 : mSnd 101 48 (a_iload 49 3) := snd_iload_n (by decide +kernel : decode (mBc 101) 48 = .ok (.iload_n 3, 1)) rfl rfl
theorem s101_49 : mSnd 101 49 (a_push 50 (.int (iZ 1))) := snd_iconst (by decide +kernel : decode (mBc 101) 49 = .ok (.iconst 1, 1)) rfl rfl
theorem s101_50 : mSnd 101 50 (a_icmp 53 57 (fun x y => decide (¬ x = y))) := snd_icmp_ne (by decide +kernel : decode (mBc 101) 50 = .ok (.if_icmp .ne 7, 3)) rfl rfl
theorem s101_53 : mSnd 101 53 (a_push 54 (.int (iZ 1))) := snd_iconst (by decide +kernel : decode (mBc 101) 53 = .ok (.iconst 1, 1)) rfl rfl
theorem s101_54 : mSnd 101 54 (a_goto 58) := snd_goto (by decide +kernel : decode (mBc 101) 54 = .ok (.goto 4, 3)) rfl
theorem s101_57 : mSnd 101 57 (a_push 58 (.int (iZ 0))) := snd_iconst (by decide +kernel : decode (mBc 101) 57 = .ok (.iconst 0, 1)) rfl rfl
theorem s101_58 : mSnd 101 58 (a_invV 61 2 0 0 [(1, 58, 0, 0), (2, 58, 0, 0), (4, 58, 0, 0), (6, 58, 0, 0), (8, 58, 0, 0)]) := snd_invV v101_202 rfl rfl (by decide +kernel : decode (mBc 101) 58 = .ok (.invokevirtual 202, 3)) rfl
theorem s101_61 : mSnd 101 61 (a_iret 0 0) := snd_iret rfl rfl rfl (by decide +kernel : decode (mBc 101) 61 = .ok (.ireturn, 1))
theorem ok101 : mOkl2 101 ct101 := ⟨⟨s101_0, s101_1, s101_2, s101_5, s101_7, s101_9, s101_12, s101_14, s101_15, s101_18, s101_21, s101_22, trivial⟩, ⟨s101_25, s101_28, s101_30, s101_31, s101_33, s101_36, s101_37, s101_40, s101_42, s101_45, s101_47, s101_48, trivial⟩, ⟨s101_49, s101_50, s101_53, s101_54, s101_57, s101_58, s101_61, trivial⟩, trivial⟩
theorem s102_0 : mSnd 102 0 (a_aload 1 0) := snd_aload_n (by decide +kernel : decode (mBc 102) 0 = .ok (.aload_n 0, 1)) rfl rfl
theorem s102_1 : mSnd 102 1 (a_iload 2 1) := snd_iload_n (by decide +kernel : decode (mBc 102) 1 = .ok (.iload_n 1, 1)) rfl rfl
theorem s102_2 : mSnd 102 2 (a_invV 5 1 0 0 [(9, 114, 0, 0)]) := snd_invV v102_57 rfl rfl (by decide +kernel : decode (mBc 102) 2 = .ok (.invokevirtual 57, 3)) rfl
theorem s102_5 : mSnd 102 5 (a_astore 6 2) := snd_astore_n (by decide +kernel : decode (mBc 102) 5 = .ok (.astore_n 2, 1)) rfl (by decide) rfl
theorem s102_6 : mSnd 102 6 (a_aload 7 2) := snd_aload_n (by decide +kernel : decode (mBc 102) 6 = .ok (.aload_n 2, 1)) rfl rfl
theorem s102_7 : mSnd 102 7 (a_ifnull 13 10) := snd_ifnonnull (by decide +kernel : decode (mBc 102) 7 = .ok (.ifnonnull 6, 3)) rfl rfl
theorem s102_10 : mSnd 102 10 (a_push 12 (.int (iZ (-2)))) := snd_bipush (by decide +kernel : decode (mBc 102) 10 = .ok (.bipush (-2), 2)) (by decide +kernel) rfl
theorem s102_12 : mSnd 102 12 (a_iret 0 0) := snd_iret rfl rfl rfl (by decide +kernel : decode (mBc 102) 12 = .ok (.ireturn, 1))
theorem s102_13 : mSnd 102 13 (a_aload 14 0) := snd_aload_n (by decide +kernel : decode (mBc 102) 13 = .ok (.aload_n 0, 1)) rfl rfl
theorem s102_14 : mSnd 102 14 (a_getf 17 2 [9]) := snd_getf f23 q59 (Or.inl rfl) (by decide +kernel : decode (mBc 102) 14 = .ok (.getfield 22, 3)) rfl
theorem s102_17 : mSnd 102 17 (a_aload 18 2) := snd_aload_n (by decide +kernel : decode (mBc 102) 17 = .ok (.aload_n 2, 1)) rfl rfl
theorem s102_18 : mSnd 102 18 (a_invV 21 1 0 0 [(3, 22, 0, 0)]) := snd_invV v102_205 rfl rfl (by decide +kernel : decode (mBc 102) 18 = .ok (.invokevirtual 205, 3)) rfl
theorem s102_21 : mSnd 102 21 (a_aload 22 0) := snd_aload_n (by decide +kernel : decode (mBc 102) 21 = .ok (.aload_n 0, 1)) rfl rfl
theorem s102_22 : mSnd 102 22 (a_getf 25 2 [9]) := snd_getf f23 q59 (Or.inl rfl) (by decide +kernel : decode (mBc 102) 22 = .ok (.getfield 22, 3)) rfl
theorem s102_25 : mSnd 102 25 (a_getf 28 0 [3]) := snd_getf f8 q32 (Or.inl rfl) (by decide +kernel : decode (mBc 102) 25 = .ok (.getfield 209, 3)) rfl
theorem s102_28 : mSnd 102 28 (a_iret 0 0) := snd_iret rfl rfl rfl (by decide +kernel : decode (mBc 102) 28 = .ok (.ireturn, 1))
theorem ok102 : mOkl2 102 ct102 := ⟨⟨s102_0, s102_1, s102_2, s102_5, s102_6, s102_7, s102_10, s102_12, s102_13, s102_14, s102_17, s102_18, trivial⟩, ⟨s102_21, s102_22, s102_25, s102_28, trivial⟩, trivial⟩
theorem s103_0 : mSnd 103 0 (a_aload 1 0) := snd_aload_n (by decide +kernel : decode (mBc 103) 0 = .ok (.aload_n 0, 1)) rfl rfl
theorem s103_1 : mSnd 103 1 (a_getf 4 2 [9]) := snd_getf f23 q59 (Or.inl rfl) (by decide +kernel : decode (mBc 103) 1 = .ok (.getfield 22, 3)) rfl
theorem s103_4 : mSnd 103 4 (a_iload 5 1) := snd_iload_n (by decide +kernel : decode (mBc 103) 4 = .ok (.iload_n 1, 1)) rfl rfl
theorem s103_5 : mSnd 103 5 (a_invV 8 1 0 0 [(3, 25, 0, 0)]) := snd_invV v103_212 rfl rfl (by decide +kernel : decode (mBc 103) 5 = .ok (.invokevirtual 212, 3)) rfl
theorem s103_8 : mSnd 103 8 (a_if 11 22 (fun x => decide (x = 0))) := snd_if_eq (by decide +kernel : decode (mBc 103) 8 = .ok (.ifCond .eq 14, 3)) rfl rfl
theorem s103_11 : mSnd 103 11 (a_aload 12 0) := snd_aload_n (by decide +kernel : decode (mBc 103) 11 = .ok (.aload_n 0, 1)) rfl rfl
theorem s103_12 : mSnd 103 12 (a_getf 15 2 [9]) := snd_getf f23 q59 (Or.inl rfl) (by decide +kernel : decode (mBc 103) 12 = .ok (.getfield 22, 3)) rfl
theorem s103_15 : mSnd 103 15 (a_iload 16 1) := snd_iload_n (by decide +kernel : decode (mBc 103) 15 = .ok (.iload_n 1, 1)) rfl rfl
theorem s103_16 : mSnd 103 16 (a_invV 19 1 0 0 [(3, 26, 0, 0)]) := snd_invV v103_215 rfl rfl (by decide +kernel : decode (mBc 103) 16 = .ok (.invokevirtual 215, 3)) rfl
theorem s103_19 : mSnd 103 19 (a_goto 25) := snd_goto (by decide +kernel : decode (mBc 103) 19 = .ok (.goto 6, 3)) rfl
theorem s103_22 : mSnd 103 22 (a_push 25 (.long (lZ (-4611686018427387904)))) := snd_ldc2 q501 (by decide +kernel : decode (mBc 103) 22 = .ok (.ldc2_w 145, 3)) rfl
theorem s103_25 : mSnd 103 25 (a_lret 0 0) := snd_lret rfl rfl rfl (by decide +kernel : decode (mBc 103) 25 = .ok (.lreturn, 1))
theorem ok103 : mOkl2 103 ct103 := ⟨⟨s103_0, s103_1, s103_4, s103_5, s103_8, s103_11, s103_12, s103_15, s103_16, s103_19, s103_22, s103_25, trivial⟩, trivial⟩
theorem s104_0 : mSnd 104 0 (a_aload 1 0) := snd_aload_n (by decide +kernel : decode (mBc 104) 0 = .ok (.aload_n 0, 1)) rfl rfl
theorem s104_1 : mSnd 104 1 (a_getf 4 2 [9]) := snd_getf f23 q59 (Or.inl rfl) (by decide +kernel : decode (mBc 104) 1 = .ok (.getfield 22, 3)) rfl
theorem s104_4 : mSnd 104 4 (a_iload 5 1) := snd_iload_n (by decide +kernel : decode (mBc 104) 4 = .ok (.iload_n 1, 1)) rfl rfl
theorem s104_5 : mSnd 104 5 (a_invV 8 1 0 0 [(3, 25, 0, 0)]) := snd_invV v104_212 rfl rfl (by decide +kernel : decode (mBc 104) 5 = .ok (.invokevirtual 212, 3)) rfl
theorem s104_8 : mSnd 104 8 (a_if 11 14 (fun x => decide (¬ x = 0))) := snd_if_ne (by decide +kernel : decode (mBc 104) 8 = .ok (.ifCond .ne 6, 3)) rfl rfl
theorem s104_11 : mSnd 104 11 (a_push 13 (.int (iZ (-2)))) := snd_bipush (by decide +kernel : decode (mBc 104) 11 = .ok (.bipush (-2), 2)) (by decide +kernel) rfl
theorem s104_13 : mSnd 104 13 (a_iret 0 0) := snd_iret rfl rfl rfl (by decide +kernel : decode (mBc 104) 13 = .ok (.ireturn, 1))
theorem s104_14 : mSnd 104 14 (a_aload 15 0) := snd_aload_n (by decide +kernel : decode (mBc 104) 14 = .ok (.aload_n 0, 1)) rfl rfl
theorem s104_15 : mSnd 104 15 (a_getf 18 2 [9]) := snd_getf f23 q59 (Or.inl rfl) (by decide +kernel : decode (mBc 104) 15 = .ok (.getfield 22, 3)) rfl
theorem s104_18 : mSnd 104 18 (a_iload 19 1) := snd_iload_n (by decide +kernel : decode (mBc 104) 18 = .ok (.iload_n 1, 1)) rfl rfl
theorem s104_19 : mSnd 104 19 (a_lload 20 2) := snd_lload_n (by decide +kernel : decode (mBc 104) 19 = .ok (.lload_n 2, 1)) rfl rfl
theorem s104_20 : mSnd 104 20 (a_invV 23 2 0 0 [(3, 27, 0, 0)]) := snd_invV v104_219 rfl rfl (by decide +kernel : decode (mBc 104) 20 = .ok (.invokevirtual 219, 3)) rfl
theorem s104_23 : mSnd 104 23 (a_push 24 (.int (iZ 1))) := snd_iconst (by decide +kernel : decode (mBc 104) 23 = .ok (.iconst 1, 1)) rfl rfl
theorem s104_24 : mSnd 104 24 (a_iret 0 0) := snd_iret rfl rfl rfl (by decide +kernel : decode (mBc 104) 24 = .ok (.ireturn, 1))
theorem ok104 : mOkl2 104 ct104 := ⟨⟨s104_0, s104_1, s104_4, s104_5, s104_8, s104_11, s104_13, s104_14, s104_15, s104_18, s104_19, s104_20, trivial⟩, ⟨s104_23, s104_24, trivial⟩, trivial⟩
theorem s105_0 : mSnd 105 0 (a_aload 1 0) := snd_aload_n (by decide +kernel : decode (mBc 105) 0 = .ok (.aload_n 0, 1)) rfl rfl
theorem s105_1 : mSnd 105 1 (a_iload 2 1) := snd_iload_n (by decide +kernel : decode (mBc 105) 1 = .ok (.iload_n 1, 1)) rfl rfl
theorem s105_2 : mSnd 105 2 (a_invV 5 1 0 0 [(9, 114, 0, 0)]) := snd_invV v105_57 rfl rfl (by decide +kernel : decode (mBc 105) 2 = .ok (.invokevirtual 57, 3)) rfl
theorem s105_5 : mSnd 105 5 (a_astore 6 2) := snd_astore_n (by decide +kernel : decode (mBc 105) 5 = .ok (.astore_n 2, 1)) rfl (by decide) rfl
theorem s105_6 : mSnd 105 6 (a_aload 7 2) := snd_aload_n (by decide +kernel : decode (mBc 105) 6 = .ok (.aload_n 2, 1)) rfl rfl
theorem s105_7 : mSnd 105 7 (a_ifnull 13 10) := snd_ifnonnull (by decide +kernel : decode (mBc 105) 7 = .ok (.ifnonnull 6, 3)) rfl rfl
theorem s105_10 : mSnd 105 10 (a_push 12 (.int (iZ (-2)))) := snd_bipush (by decide +kernel : decode (mBc 105) 10 = .ok (.bipush (-2), 2)) (by decide +kernel) rfl
theorem s105_12 : mSnd 105 12 (a_iret 0 0) := snd_iret rfl rfl rfl (by decide +kernel : decode (mBc 105) 12 = .ok (.ireturn, 1))
theorem s105_13 : mSnd 105 13 (a_aload 14 0) := snd_aload_n (by decide +kernel : decode (mBc 105) 13 = .ok (.aload_n 0, 1)) rfl rfl
theorem s105_14 : mSnd 105 14 (a_getf 17 3 [9]) := snd_getf f24 q60 (Or.inl rfl) (by decide +kernel : decode (mBc 105) 14 = .ok (.getfield 26, 3)) rfl
theorem s105_17 : mSnd 105 17 (a_aload 18 2) := snd_aload_n (by decide +kernel : decode (mBc 105) 17 = .ok (.aload_n 2, 1)) rfl rfl
theorem s105_18 : mSnd 105 18 (a_invV 21 1 0 0 [(3, 22, 0, 0)]) := snd_invV v105_205 rfl rfl (by decide +kernel : decode (mBc 105) 18 = .ok (.invokevirtual 205, 3)) rfl
theorem s105_21 : mSnd 105 21 (a_aload 22 0) := snd_aload_n (by decide +kernel : decode (mBc 105) 21 = .ok (.aload_n 0, 1)) rfl rfl
theorem s105_22 : mSnd 105 22 (a_getf 25 2 [9]) := snd_getf f23 q59 (Or.inl rfl) (by decide +kernel : decode (mBc 105) 22 = .ok (.getfield 22, 3)) rfl
theorem s105_25 : mSnd 105 25 (a_aload 26 0) := snd_aload_n (by decide +kernel : decode (mBc 105) 25 = .ok (.aload_n 0, 1)) rfl rfl
theorem s105_26 : mSnd 105 26 (a_getf 29 3 [9]) := snd_getf f24 q60 (Or.inl rfl) (by decide +kernel : decode (mBc 105) 26 = .ok (.getfield 26, 3)) rfl
theorem s105_29 : mSnd 105 29 (a_invV 32 1 0 0 [(3, 28, 0, 0)]) := snd_invV v105_223 rfl rfl (by decide +kernel : decode (mBc 105) 29 = .ok (.invokevirtual 223, 3)) rfl
theorem s105_32 : mSnd 105 32 (a_iret 0 0) := snd_iret rfl rfl rfl (by decide +kernel : decode (mBc 105) 32 = .ok (.ireturn, 1))
theorem ok105 : mOkl2 105 ct105 := ⟨⟨s105_0, s105_1, s105_2, s105_5, s105_6, s105_7, s105_10, s105_12, s105_13, s105_14, s105_17, s105_18, trivial⟩, ⟨s105_21, s105_22, s105_25, s105_26, s105_29, s105_32, trivial⟩, trivial⟩
theorem s106_0 : mSnd 106 0 (a_aload 1 0) := snd_aload_n (by decide +kernel : decode (mBc 106) 0 = .ok (.aload_n 0, 1)) rfl rfl
theorem s106_1 : mSnd 106 1 (a_getf 4 4 [9]) := snd_getf f25 q61 (Or.inl rfl) (by decide +kernel : decode (mBc 106) 1 = .ok (.getfield 32, 3)) rfl
theorem s106_4 : mSnd 106 4 (a_invV 7 0 0 0 [(7, 70, 0, 0)]) := snd_invV v106_227 rfl rfl (by decide +kernel : decode (mBc 106) 4 = .ok (.invokevirtual 227, 3)) rfl
theorem s106_7 : mSnd 106 7 (a_aload 8 0) := snd_aload_n (by decide +kernel : decode (mBc 106) 7 = .ok (.aload_n 0, 1)) rfl rfl
theorem s106_8 : mSnd 106 8 (a_iload 9 1) := snd_iload_n (by decide +kernel : decode (mBc 106) 8 = .ok (.iload_n 1, 1)) rfl rfl
theorem s106_9 : mSnd 106 9 (a_invV 12 1 0 0 [(9, 114, 0, 0)]) := snd_invV v106_57 rfl rfl (by decide +kernel : decode (mBc 106) 9 = .ok (.invokevirtual 57, 3)) rfl
theorem s106_12 : mSnd 106 12 (a_astore 14 4) := snd_astore (by decide +kernel : decode (mBc 106) 12 = .ok (.astore 4, 2)) (by decide) rfl
theorem s106_14 : mSnd 106 14 (a_aload 16 4) := snd_aload (by decide +kernel : decode (mBc 106) 14 = .ok (.aload 4, 2)) rfl
theorem s106_16 : mSnd 106 16 (a_ifnull 21 19) := snd_ifnonnull (by decide +kernel : decode (mBc 106) 16 = .ok (.ifnonnull 5, 3)) rfl rfl
theorem s106_19 : mSnd 106 19 (a_push 20 (.int (iZ 0))) := snd_iconst (by decide +kernel : decode (mBc 106) 19 = .ok (.iconst 0, 1)) rfl rfl
theorem s106_20 : mSnd 106 20 (a_iret 0 0) := snd_iret rfl rfl rfl (by decide +kernel : decode (mBc 106) 20 = .ok (.ireturn, 1))
theorem s106_21 : mSnd 106 21 (a_iload 22 2) := snd_iload_n (by decide +kernel : decode (mBc 106) 21 = .ok (.iload_n 2, 1)) rfl rfl
theorem s106_22 : mSnd 106 22 (a_tsw 81 0 2 [48, 59, 70]) := snd_tsw (by decide +kernel : decode (mBc 106) 22 = .ok (.tableswitch 59 0 2 #[26, 37, 48], 26)) rfl (by decide +kernel)
theorem s106_48 : mSnd 106 48 (a_aload 50 4) := snd_aload (by decide +kernel : decode (mBc 106) 48 = .ok (.aload 4, 2)) rfl
theorem s106_50 : mSnd 106 50 (a_iload 51 3) := snd_iload_n (by decide +kernel : decode (mBc 106) 50 = .ok (.iload_n 3, 1)) rfl rfl
theorem s106_51 : mSnd 106 51 (a_aload 52 0) := snd_aload_n (by decide +kernel : decode (mBc 106) 51 = .ok (.aload_n 0, 1)) rfl rfl
theorem s106_52 : mSnd 106 52 (a_getf 55 4 [9]) := snd_getf f25 q61 (Or.inl rfl) (by decide +kernel : decode (mBc 106) 52 = .ok (.getfield 32, 3)) rfl
theorem s106_55 : mSnd 106 55 (a_invV 58 2 0 0 [(1, 39, 0, 0), (2, 19, 0, 0), (4, 39, 0, 0), (6, 39, 0, 0), (8, 76, 0, 0)]) := snd_invV v106_230 rfl rfl (by decide +kernel : decode (mBc 106) 55 = .ok (.invokevirtual 230, 3)) rfl
theorem s106_58 : mSnd 106 58 (a_iret 0 0) := snd_iret rfl rfl rfl (by decide +kernel : decode (mBc 106) 58 = .ok (.ireturn, 1))
theorem s106_59 : mSnd 106 59 (a_aload 61 4) := snd_aload (by decide +kernel : decode (mBc 106) 59 = .ok (.aload 4, 2)) rfl
theorem s106_61 : mSnd 106 61 (a_iload 62 3) := snd_iload_n (by decide +kernel : decode (mBc 106) 61 = .ok (.iload_n 3, 1)) rfl rfl
theorem s106_62 : mSnd 106 62 (a_aload 63 0) := snd_aload_n (by decide +kernel : decode (mBc 106) 62 = .ok (.aload_n 0, 1)) rfl rfl
theorem s106_63 : mSnd 106 63 (a_getf 66 4 [9]) := snd_getf f25 q61 (Or.inl rfl) (by decide +kernel : decode (mBc 106) 63 = .ok (.getfield 32, 3)) rfl
theorem s106_66 : mSnd 106 66 (a_invV 69 2 0 0 [(1, 40, 0, 0), (2, 20, 0, 0), (4, 32, 0, 0), (6, 40, 0, 0), (8, 40, 0, 0)]) := snd_invV v106_234 rfl rfl (by decide +kernel : decode (mBc 106) 66 = .ok (.invokevirtual 234, 3)) rfl
theorem s106_69 : mSnd 106 69 (a_iret 0 0) := snd_iret rfl rfl rfl (by decide +kernel : decode (mBc 106) 69 = .ok (.ireturn, 1))
theorem s106_70 : mSnd 106 70 (a_aload 72 4) := snd_aload (by decide +kernel : decode (mBc 106) 70 = .ok (.aload 4, 2)) rfl
theorem s106_72 : mSnd 106 72 (a_iload 73 3) := snd_iload_n (by decide +kernel : decode (mBc 106) 72 = .ok (.iload_n 3, 1)) rfl rfl
theorem s106_73 : mSnd 106 73 (a_aload 74 0) := snd_aload_n (by decide +kernel : decode (mBc 106) 73 = .ok (.aload_n 0, 1)) rfl rfl
theorem s106_74 : mSnd 106 74 (a_getf 77 4 [9]) := snd_getf f25 q61 (Or.inl rfl) (by decide +kernel : decode (mBc 106) 74 = .ok (.getfield 32, 3)) rfl
theorem s106_77 : mSnd 106 77 (a_invV 80 2 0 0 [(1, 16, 0, 0), (2, 41, 0, 0), (4, 41, 0, 0), (6, 41, 0, 0), (8, 77, 0, 0)]) := snd_invV v106_237 rfl rfl (by decide +kernel : decode (mBc 106) 77 = .ok (.invokevirtual 237, 3)) rfl
theorem s106_80 : mSnd 106 80 (a_iret 0 0) := snd_iret rfl rfl rfl (by decide +kernel : decode (mBc 106) 80 = .ok (.ireturn, 1))
theorem s106_81 : mSnd 106 81 (a_push 82 (.int (iZ 0))) := snd_iconst (by decide +kernel : decode (mBc 106) 81 = .ok (.iconst 0, 1)) rfl rfl
theorem s106_82 : mSnd 106 82 (a_iret 0 0) := snd_iret rfl rfl rfl (by decide +kernel : decode (mBc 106) 82 = .ok (.ireturn, 1))
theorem ok106 : mOkl2 106 ct106 := ⟨⟨s106_0, s106_1, s106_4, s106_7, s106_8, s106_9, s106_12, s106_14, s106_16, s106_19, s106_20, s106_21, trivial⟩, ⟨s106_22, s106_48, s106_50, s106_51, s106_52, s106_55, s106_58, s106_59, s106_61, s106_62, s106_63, s106_66, trivial⟩, ⟨s106_69, s106_70, s106_72, s106_73, s106_74, s106_77, s106_80, s106_81, s106_82, trivial⟩, trivial⟩
theorem s107_0 : mSnd 107 0 (a_aload 1 0) := snd_aload_n (by decide +kernel : decode (mBc 107) 0 = .ok (.aload_n 0, 1)) rfl rfl
theorem s107_1 : mSnd 107 1 (a_getf 4 4 [9]) := snd_getf f25 q61 (Or.inl rfl) (by decide +kernel : decode (mBc 107) 1 = .ok (.getfield 32, 3)) rfl
theorem s107_4 : mSnd 107 4 (a_iload 5 1) := snd_iload_n (by decide +kernel : decode (mBc 107) 4 = .ok (.iload_n 1, 1)) rfl rfl
theorem s107_5 : mSnd 107 5 (a_invV 8 1 0 0 [(7, 72, 0, 0)]) := snd_invV v107_240 rfl rfl (by decide +kernel : decode (mBc 107) 5 = .ok (.invokevirtual 240, 3)) rfl
theorem s107_8 : mSnd 107 8 (a_iret 0 0) := snd_iret rfl rfl rfl (by decide +kernel : decode (mBc 107) 8 = .ok (.ireturn, 1))
theorem ok107 : mOkl2 107 ct107 := ⟨⟨s107_0, s107_1, s107_4, s107_5, s107_8, trivial⟩, trivial⟩
theorem s108_0 : mSnd 108 0 (a_iload 1 1) := snd_iload_n (by decide +kernel : decode (mBc 108) 0 = .ok (.iload_n 1, 1)) rfl rfl
theorem s108_1 : mSnd 108 1 (a_tsw 49 0 2 [28, 33, 41]) := snd_tsw (by decide +kernel : decode (mBc 108) 1 = .ok (.tableswitch 48 0 2 #[27, 32, 40], 27)) rfl (by decide +kernel)
theorem s108_28 : mSnd 108 28 (a_aload 29 0) := snd_aload_n (by decide +kernel : decode (mBc 108) 28 = .ok (.aload_n 0, 1)) rfl rfl
theorem s108_29 : mSnd 108 29 (a_getf 32 1 [9]) := snd_getf f22 q58 (Or.inl rfl) (by decide +kernel : decode (mBc 108) 29 = .ok (.getfield 15, 3)) rfl
theorem s108_32 : mSnd 108 32 (a_iret 0 0) := snd_iret rfl rfl rfl (by decide +kernel : decode (mBc 108) 32 = .ok (.ireturn, 1))
theorem s108_33 : mSnd 108 33 (a_aload 34 0) := snd_aload_n (by decide +kernel : decode (mBc 108) 33 = .ok (.aload_n 0, 1)) rfl rfl
theorem s108_34 : mSnd 108 34 (a_getf 37 2 [9]) := snd_getf f23 q59 (Or.inl rfl) (by decide +kernel : decode (mBc 108) 34 = .ok (.getfield 22, 3)) rfl
theorem s108_37 : mSnd 108 37 (a_getf 40 0 [3]) := snd_getf f8 q32 (Or.inl rfl) (by decide +kernel : decode (mBc 108) 37 = .ok (.getfield 209, 3)) rfl
theorem s108_40 : mSnd 108 40 (a_iret 0 0) := snd_iret rfl rfl rfl (by decide +kernel : decode (mBc 108) 40 = .ok (.ireturn, 1))
theorem s108_41 : mSnd 108 41 (a_aload 42 0) := snd_aload_n (by decide +kernel : decode (mBc 108) 41 = .ok (.aload_n 0, 1)) rfl rfl
theorem s108_42 : mSnd 108 42 (a_getf 45 4 [9]) := snd_getf f25 q61 (Or.inl rfl) (by decide +kernel : decode (mBc 108) 42 = .ok (.getfield 32, 3)) rfl
theorem s108_45 : mSnd 108 45 (a_getf 48 0 [7]) := snd_getf f19 q47 (Or.inl rfl) (by decide +kernel : decode (mBc 108) 45 = .ok (.getfield 243, 3)) rfl
theorem s108_48 : mSnd 108 48 (a_iret 0 0) := snd_iret rfl rfl rfl (by decide +kernel : decode (mBc 108) 48 = .ok (.ireturn, 1))
theorem s108_49 : mSnd 108 49 (a_push 51 (.int (iZ (-2)))) := snd_bipush (by decide +kernel : decode (mBc 108) 49 = .ok (.bipush (-2), 2)) (by decide +kernel) rfl
theorem s108_51 : mSnd 108 51 (a_iret 0 0) := snd_iret rfl rfl rfl (by decide +kernel : decode (mBc 108) 51 = .ok (.ireturn, 1))
theorem ok108 : mOkl2 108 ct108 := ⟨⟨s108_0, s108_1, s108_28, s108_29, s108_32, s108_33, s108_34, s108_37, s108_40, s108_41, s108_42, s108_45, trivial⟩, ⟨s108_48, s108_49, s108_51, trivial⟩, trivial⟩
theorem s109_0 : mSnd 109 0 (a_aload 1 0) := snd_aload_n (by decide +kernel : decode (mBc 109) 0 = .ok (.aload_n 0, 1)) rfl rfl
theorem s109_1 : mSnd 109 1 (a_iload 2 1) := snd_iload_n (by decide +kernel : decode (mBc 109) 1 = .ok (.iload_n 1, 1)) rfl rfl
theorem s109_2 : mSnd 109 2 (a_invV 5 1 2 42 [(9, 123, 0, 0)]) := snd_invV v109_246 rfl rfl (by decide +kernel : decode (mBc 109) 2 = .ok (.invokevirtual 246, 3)) rfl
theorem s109_5 : mSnd 109 5 (a_if 8 20 (fun x => decide (x = 0))) := snd_if_eq (by decide +kernel : decode (mBc 109) 5 = .ok (.ifCond .eq 15, 3)) rfl rfl
theorem s109_8 : mSnd 109 8 (a_iload 9 2) := snd_iload_n (by decide +kernel : decode (mBc 109) 8 = .ok (.iload_n 2, 1)) rfl rfl
theorem s109_9 : mSnd 109 9 (a_push 10 (.int (iZ (-1)))) := snd_iconst (by decide +kernel : decode (mBc 109) 9 = .ok (.iconst (-1), 1)) rfl rfl
theorem s109_10 : mSnd 109 10 (a_icmp 13 23 (fun x y => decide (x = y))) := snd_icmp_eq (by decide +kernel : decode (mBc 109) 10 = .ok (.if_icmp .eq 13, 3)) rfl rfl
theorem s109_13 : mSnd 109 13 (a_iload 14 2) := snd_iload_n (by decide +kernel : decode (mBc 109) 13 = .ok (.iload_n 2, 1)) rfl rfl
theorem s109_14 : mSnd 109 14 (a_invS 17 124 1 2 42 0 0) := snd_invS k109_124 rfl rfl q845 q846 q1 (by decide +kernel) (by decide +kernel : decode (mBc 109) 14 = .ok (.invokestatic 249, 3)) rfl
theorem s109_17 : mSnd 109 17 (a_if 20 23 (fun x => decide (¬ x = 0))) := snd_if_ne (by decide +kernel : decode (mBc 109) 17 = .ok (.ifCond .ne 6, 3)) rfl rfl
theorem s109_20 : mSnd 109 20 (a_push 22 (.int (iZ (-2)))) := snd_bipush (by decide +kernel : decode (mBc 109) 20 = .ok (.bipush (-2), 2)) (by decide +kernel) rfl
theorem s109_22 : mSnd 109 22 (a_iret 2 42) := snd_iret rfl rfl rfl (by decide +kernel : decode (mBc 109) 22 = .ok (.ireturn, 1))
theorem s109_23 : mSnd 109 23 (a_iload 24 2) := snd_iload_n (by decide +kernel : decode (mBc 109) 23 = .ok (.iload_n 2, 1)) rfl rfl
theorem s109_24 : mSnd 109 24 (a_push 25 (.int (iZ (-1)))) := snd_iconst (by decide +kernel : decode (mBc 109) 24 = .ok (.iconst (-1), 1)) rfl rfl
theorem s109_25 : mSnd 109 25 (a_icmp 28 37 (fun x y => decide (¬ x = y))) := snd_icmp_ne (by decide +kernel : decode (mBc 109) 25 = .ok (.if_icmp .ne 12, 3)) rfl rfl
theorem s109_28 : mSnd 109 28 (a_aload 29 0) := snd_aload_n (by decide +kernel : decode (mBc 109) 28 = .ok (.aload_n 0, 1)) rfl rfl
theorem s109_29 : mSnd 109 29 (a_getf 32 5 [9]) := snd_getf f26 q62 (Or.inl rfl) (by decide +kernel : decode (mBc 109) 29 = .ok (.getfield 38, 3)) rfl
theorem s109_32 : mSnd 109 32 (a_iload 33 1) := snd_iload_n (by decide +kernel : decode (mBc 109) 32 = .ok (.iload_n 1, 1)) rfl rfl
theorem s109_33 : mSnd 109 33 (a_push 34 .null) := snd_null (by decide +kernel : decode (mBc 109) 33 = .ok (.aconst_null, 1)) rfl
theorem s109_34 : mSnd 109 34 (a_aast 35) := snd_aast (by decide +kernel : decode (mBc 109) 34 = .ok (.aastore, 1)) rfl
theorem s109_35 : mSnd 109 35 (a_push 36 (.int (iZ 1))) := snd_iconst (by decide +kernel : decode (mBc 109) 35 = .ok (.iconst 1, 1)) rfl rfl
theorem s109_36 : mSnd 109 36 (a_iret 2 42) := snd_iret rfl rfl rfl (by decide +kernel : decode (mBc 109) 36 = .ok (.ireturn, 1))
theorem s109_37 : mSnd 109 37 (a_iload 38 3) := snd_iload_n (by decide +kernel : decode (mBc 109) 37 = .ok (.iload_n 3, 1)) rfl rfl
theorem s109_38 : mSnd 109 38 (a_push 40 (.int (iZ 40))) := snd_bipush (by decide +kernel : decode (mBc 109) 38 = .ok (.bipush 40, 2)) (by decide +kernel) rfl
theorem s109_40 : mSnd 109 40 (a_icmp 43 46 (fun x y => decide (x ≤ y))) := snd_icmp_le (by decide +kernel : decode (mBc 109) 40 = .ok (.if_icmp .le 6, 3)) rfl rfl
theorem s109_43 : mSnd 109 43 (a_push 45 (.int (iZ (-2)))) := snd_bipush (by decide +kernel : decode (mBc 109) 43 = .ok (.bipush (-2), 2)) (by decide +kernel) rfl
theorem s109_45 : mSnd 109 45 (a_iret 2 42) := snd_iret rfl rfl rfl (by decide +kernel : decode (mBc 109) 45 = .ok (.ireturn, 1))
theorem s109_46 : mSnd 109 46 (a_iload 47 3) := snd_iload_n (by decide +kernel : decode (mBc 109) 46 = .ok (.iload_n 3, 1)) rfl rfl
theorem s109_47 : mSnd 109 47 (a_if 50 53 (fun x => decide (0 ≤ x))) := snd_if_ge (by decide +kernel : decode (mBc 109) 47 = .ok (.ifCond .ge 6, 3)) rfl rfl
theorem s109_50 : mSnd 109 50 (a_push 52 (.int (iZ (-14)))) := snd_bipush (by decide +kernel : decode (mBc 109) 50 = .ok (.bipush (-14), 2)) (by decide +kernel) rfl
theorem s109_52 : mSnd 109 52 (a_iret 2 42) := snd_iret rfl rfl rfl (by decide +kernel : decode (mBc 109) 52 = .ok (.ireturn, 1))
theorem s109_53 : mSnd 109 53 (a_aload 54 0) := snd_aload_n (by decide +kernel : decode (mBc 109) 53 = .ok (.aload_n 0, 1)) rfl rfl
theorem s109_54 : mSnd 109 54 (a_getf 57 5 [9]) := snd_getf f26 q62 (Or.inl rfl) (by decide +kernel : decode (mBc 109) 54 = .ok (.getfield 38, 3)) rfl
theorem s109_57 : mSnd 109 57 (a_iload 58 1) := snd_iload_n (by decide +kernel : decode (mBc 109) 57 = .ok (.iload_n 1, 1)) rfl rfl
theorem s109_58 : mSnd 109 58 (a_new 61 5 2 2 42 [.int 0, .null]) := snd_new (q := (RX5, TX5, 2)) rfl rfl rfl rfl (by decide +kernel) (by intro v hv a e; subst e; simp at hv) q55 q848 q14 (by decide +kernel : decode (mBc 109) 58 = .ok (.new 36, 3)) rfl
theorem s109_61 : mSnd 109 61 (a_dup 62) := snd_dup (by decide +kernel : decode (mBc 109) 61 = .ok (.dup, 1)) rfl
theorem s109_62 : mSnd 109 62 (a_iload 63 2) := snd_iload_n (by decide +kernel : decode (mBc 109) 62 = .ok (.iload_n 2, 1)) rfl rfl
theorem s109_63 : mSnd 109 63 (a_iload 64 3) := snd_iload_n (by decide +kernel : decode (mBc 109) 63 = .ok (.iload_n 3, 1)) rfl rfl
theorem s109_64 : mSnd 109 64 (a_invI 67 33 2 2 42 1 40) := snd_invI k109_33 rfl rfl rfl rfl q849 q850 q14 (by decide +kernel) (by decide +kernel : decode (mBc 109) 64 = .ok (.invokespecial 252, 3)) rfl
theorem s109_67 : mSnd 109 67 (a_aast 68) := snd_aast (by decide +kernel : decode (mBc 109) 67 = .ok (.aastore, 1)) rfl
theorem s109_68 : mSnd 109 68 (a_push 69 (.int (iZ 1))) := snd_iconst (by decide +kernel : decode (mBc 109) 68 = .ok (.iconst 1, 1)) rfl rfl
theorem s109_69 : mSnd 109 69 (a_iret 2 42) := snd_iret rfl rfl rfl (by decide +kernel : decode (mBc 109) 69 = .ok (.ireturn, 1))
theorem ok109 : mOkl2 109 ct109 := ⟨⟨s109_0, s109_1, s109_2, s109_5, s109_8, s109_9, s109_10, s109_13, s109_14, s109_17, s109_20, s109_22, trivial⟩, ⟨s109_23, s109_24, s109_25, s109_28, s109_29, s109_32, s109_33, s109_34, s109_35, s109_36, s109_37, s109_38, trivial⟩, ⟨s109_40, s109_43, s109_45, s109_46, s109_47, s109_50, s109_52, s109_53, s109_54, s109_57, s109_58, s109_61, trivial⟩, ⟨s109_62, s109_63, s109_64, s109_67, s109_68, s109_69, trivial⟩, trivial⟩
