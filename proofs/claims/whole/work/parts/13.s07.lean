theorem s154_0 : mSnd 154 0 (a_aload 1 0) := snd_aload_n (by decide +kernel : decode (mBc 154) 0 = .ok (.aload_n 0, 1)) rfl rfl
theorem s154_1 : mSnd 154 1 (a_iload 2 1) := snd_iload_n (by decide +kernel : decode (mBc 154) 1 = .ok (.iload_n 1, 1)) rfl rfl
theorem s154_2 : mSnd 154 2 (a_invV 5 1 0 0 [(10, 138, 0, 0)]) := snd_invV v154_92 rfl rfl (by decide +kernel : decode (mBc 154) 2 = .ok (.invokevirtual 92, 3)) rfl
theorem s154_5 : mSnd 154 5 (a_if 8 39 (fun x => decide (x = 0))) := snd_if_eq (by decide +kernel : decode (mBc 154) 5 = .ok (.ifCond .eq 34, 3)) rfl rfl
theorem s154_8 : mSnd 154 8 (a_aload 9 0) := snd_aload_n (by decide +kernel : decode (mBc 154) 8 = .ok (.aload_n 0, 1)) rfl rfl
theorem s154_9 : mSnd 154 9 (a_iload 10 2) := snd_iload_n (by decide +kernel : decode (mBc 154) 9 = .ok (.iload_n 2, 1)) rfl rfl
theorem s154_10 : mSnd 154 10 (a_invV 13 1 0 0 [(10, 138, 0, 0)]) := snd_invV v154_92 rfl rfl (by decide +kernel : decode (mBc 154) 10 = .ok (.invokevirtual 92, 3)) rfl
theorem s154_13 : mSnd 154 13 (a_if 16 39 (fun x => decide (x = 0))) := snd_if_eq (by decide +kernel : decode (mBc 154) 13 = .ok (.ifCond .eq 26, 3)) rfl rfl
theorem s154_16 : mSnd 154 16 (a_aload 17 0) := snd_aload_n (by decide +kernel : decode (mBc 154) 16 = .ok (.aload_n 0, 1)) rfl rfl
theorem s154_17 : mSnd 154 17 (a_iload 18 3) := snd_iload_n (by decide +kernel : decode (mBc 154) 17 = .ok (.iload_n 3, 1)) rfl rfl
theorem s154_18 : mSnd 154 18 (a_push 20 (.int (iZ (-3)))) := snd_bipush (by decide +kernel : decode (mBc 154) 18 = .ok (.bipush (-3), 2)) (by decide +kernel) rfl
theorem s154_20 : mSnd 154 20 (a_push 21 (.int (iZ 3))) := snd_iconst (by decide +kernel : decode (mBc 154) 20 = .ok (.iconst 3, 1)) rfl rfl
theorem s154_21 : mSnd 154 21 (a_invV 24 3 0 0 [(10, 137, 0, 0)]) := snd_invV v154_76 rfl rfl (by decide +kernel : decode (mBc 154) 21 = .ok (.invokevirtual 76, 3)) rfl
theorem s154_24 : mSnd 154 24 (a_if 27 39 (fun x => decide (x = 0))) := snd_if_eq (by decide +kernel : decode (mBc 154) 24 = .ok (.ifCond .eq 15, 3)) rfl rfl
theorem s154_27 : mSnd 154 27 (a_aload 28 0) := snd_aload_n (by decide +kernel : decode (mBc 154) 27 = .ok (.aload_n 0, 1)) rfl rfl
theorem s154_28 : mSnd 154 28 (a_iload 30 4) := snd_iload (by decide +kernel : decode (mBc 154) 28 = .ok (.iload 4, 2)) rfl
theorem s154_30 : mSnd 154 30 (a_push 32 (.int (iZ (-3)))) := snd_bipush (by decide +kernel : decode (mBc 154) 30 = .ok (.bipush (-3), 2)) (by decide +kernel) rfl
theorem s154_32 : mSnd 154 32 (a_push 33 (.int (iZ 3))) := snd_iconst (by decide +kernel : decode (mBc 154) 32 = .ok (.iconst 3, 1)) rfl rfl
theorem s154_33 : mSnd 154 33 (a_invV 36 3 0 0 [(10, 137, 0, 0)]) := snd_invV v154_76 rfl rfl (by decide +kernel : decode (mBc 154) 33 = .ok (.invokevirtual 76, 3)) rfl
theorem s154_36 : mSnd 154 36 (a_if 39 42 (fun x => decide (¬ x = 0))) := snd_if_ne (by decide +kernel : decode (mBc 154) 36 = .ok (.ifCond .ne 6, 3)) rfl rfl
theorem s154_39 : mSnd 154 39 (a_push 41 (.int (iZ (-2)))) := snd_bipush (by decide +kernel : decode (mBc 154) 39 = .ok (.bipush (-2), 2)) (by decide +kernel) rfl
theorem s154_41 : mSnd 154 41 (a_iret 0 0) := snd_iret rfl rfl rfl (by decide +kernel : decode (mBc 154) 41 = .ok (.ireturn, 1))
theorem s154_42 : mSnd 154 42 (a_aload 43 0) := snd_aload_n (by decide +kernel : decode (mBc 154) 42 = .ok (.aload_n 0, 1)) rfl rfl
theorem s154_43 : mSnd 154 43 (a_getf 46 2 [10]) := snd_getf f29 q904 (Or.inl rfl) (by decide +kernel : decode (mBc 154) 43 = .ok (.getfield 17, 3)) rfl
theorem s154_46 : mSnd 154 46 (a_iload 47 1) := snd_iload_n (by decide +kernel : decode (mBc 154) 46 = .ok (.iload_n 1, 1)) rfl rfl
theorem s154_47 : mSnd 154 47 (a_iald 48) := snd_iald (by decide +kernel : decode (mBc 154) 47 = .ok (.iaload, 1)) rfl
theorem s154_48 : mSnd 154 48 (a_aload 49 0) := snd_aload_n (by decide +kernel : decode (mBc 154) 48 = .ok (.aload_n 0, 1)) rfl rfl
theorem s154_49 : mSnd 154 49 (a_getf 52 2 [10]) := snd_getf f29 q904 (Or.inl rfl) (by decide +kernel : decode (mBc 154) 49 = .ok (.getfield 17, 3)) rfl
theorem s154_52 : mSnd 154 52 (a_iload 53 2) := snd_iload_n (by decide +kernel : decode (mBc 154) 52 = .ok (.iload_n 2, 1)) rfl rfl
theorem s154_53 : mSnd 154 53 (a_iald 54) := snd_iald (by decide +kernel : decode (mBc 154) 53 = .ok (.iaload, 1)) rfl
theorem s154_54 : mSnd 154 54 (a_icmp 57 60 (fun x y => decide (x = y))) := snd_icmp_eq (by decide +kernel : decode (mBc 154) 54 = .ok (.if_icmp .eq 6, 3)) rfl rfl
theorem s154_57 : mSnd 154 57 (a_push 59 (.int (iZ (-3)))) := snd_bipush (by decide +kernel : decode (mBc 154) 57 = .ok (.bipush (-3), 2)) (by decide +kernel) rfl
theorem s154_59 : mSnd 154 59 (a_iret 0 0) := snd_iret rfl rfl rfl (by decide +kernel : decode (mBc 154) 59 = .ok (.ireturn, 1))
theorem s154_60 : mSnd 154 60 (a_aload 61 0) := snd_aload_n (by decide +kernel : decode (mBc 154) 60 = .ok (.aload_n 0, 1)) rfl rfl
theorem s154_61 : mSnd 154 61 (a_push 62 (.int (iZ 4))) := snd_iconst (by decide +kernel : decode (mBc 154) 61 = .ok (.iconst 4, 1)) rfl rfl
theorem s154_62 : mSnd 154 62 (a_aload 63 0) := snd_aload_n (by decide +kernel : decode (mBc 154) 62 = .ok (.aload_n 0, 1)) rfl rfl
theorem s154_63 : mSnd 154 63 (a_getf 66 2 [10]) := snd_getf f29 q904 (Or.inl rfl) (by decide +kernel : decode (mBc 154) 63 = .ok (.getfield 17, 3)) rfl
theorem s154_66 : mSnd 154 66 (a_iload 67 1) := snd_iload_n (by decide +kernel : decode (mBc 154) 66 = .ok (.iload_n 1, 1)) rfl rfl
theorem s154_67 : mSnd 154 67 (a_iald 68) := snd_iald (by decide +kernel : decode (mBc 154) 67 = .ok (.iaload, 1)) rfl
theorem s154_68 : mSnd 154 68 (a_invV 71 2 0 0 [(10, 145, 0, 0)]) := snd_invV v154_84 rfl rfl (by decide +kernel : decode (mBc 154) 68 = .ok (.invokevirtual 84, 3)) rfl
theorem s154_71 : mSnd 154 71 (a_istore 73 5) := snd_istore (by decide +kernel : decode (mBc 154) 71 = .ok (.istore 5, 2)) (by decide) rfl
theorem s154_73 : mSnd 154 73 (a_aload 74 0) := snd_aload_n (by decide +kernel : decode (mBc 154) 73 = .ok (.aload_n 0, 1)) rfl rfl
theorem s154_74 : mSnd 154 74 (a_getf 77 0 [10]) := snd_getf f27 q902 (Or.inl rfl) (by decide +kernel : decode (mBc 154) 74 = .ok (.getfield 7, 3)) rfl
theorem s154_77 : mSnd 154 77 (a_push 79 (.int (iZ 10))) := snd_bipush (by decide +kernel : decode (mBc 154) 77 = .ok (.bipush 10, 2)) (by decide +kernel) rfl
theorem s154_79 : mSnd 154 79 (a_icmp 82 86 (fun x y => decide (y ≤ x))) := snd_icmp_ge (by decide +kernel : decode (mBc 154) 79 = .ok (.if_icmp .ge 7, 3)) rfl rfl
theorem s154_82 : mSnd 154 82 (a_push 83 (.int (iZ 1))) := snd_iconst (by decide +kernel : decode (mBc 154) 82 = .ok (.iconst 1, 1)) rfl rfl
theorem s154_83 : mSnd 154 83 (a_goto 87) := snd_goto (by decide +kernel : decode (mBc 154) 83 = .ok (.goto 4, 3)) rfl
theorem s154_86 : mSnd 154 86 (a_push 87 (.int (iZ 0))) := snd_iconst (by decide +kernel : decode (mBc 154) 86 = .ok (.iconst 0, 1)) rfl rfl
theorem s154_87 : mSnd 154 87 (a_istore 89 6) := snd_istore (by decide +kernel : decode (mBc 154) 87 = .ok (.istore 6, 2)) (by decide) rfl
theorem s154_89 : mSnd 154 89 (a_push 90 (.int (iZ 1))) := snd_iconst (by decide +kernel : decode (mBc 154) 89 = .ok (.iconst 1, 1)) rfl rfl
theorem s154_90 : mSnd 154 90 (a_istore 92 7) := snd_istore (by decide +kernel : decode (mBc 154) 90 = .ok (.istore 7, 2)) (by decide) rfl
theorem s154_92 : mSnd 154 92 (a_iload 94 7) := snd_iload (by decide +kernel : decode (mBc 154) 92 = .ok (.iload 7, 2)) rfl
theorem s154_94 : mSnd 154 94 (a_aload 95 0) := snd_aload_n (by decide +kernel : decode (mBc 154) 94 = .ok (.aload_n 0, 1)) rfl rfl
theorem s154_95 : mSnd 154 95 (a_iload 97 5) := snd_iload (by decide +kernel : decode (mBc 154) 95 = .ok (.iload 5, 2)) rfl
theorem s154_97 : mSnd 154 97 (a_invV 100 1 0 0 [(10, 139, 0, 0)]) := snd_invV v154_80 rfl rfl (by decide +kernel : decode (mBc 154) 97 = .ok (.invokevirtual 80, 3)) rfl
theorem s154_100 : mSnd 154 100 (a_icmp 103 178 (fun x y => decide (y < x))) := snd_icmp_gt (by decide +kernel : decode (mBc 154) 100 = .ok (.if_icmp .gt 78, 3)) rfl rfl
theorem s154_103 : mSnd 154 103 (a_iload 104 3) := snd_iload_n (by decide +kernel : decode (mBc 154) 103 = .ok (.iload_n 3, 1)) rfl rfl
theorem s154_104 : mSnd 154 104 (a_i2l 105) := snd_i2l (by decide +kernel : decode (mBc 154) 104 = .ok (.i2l, 1)) rfl
theorem s154_105 : mSnd 154 105 (a_aload 106 0) := snd_aload_n (by decide +kernel : decode (mBc 154) 105 = .ok (.aload_n 0, 1)) rfl rfl
theorem s154_106 : mSnd 154 106 (a_iload 107 1) := snd_iload_n (by decide +kernel : decode (mBc 154) 106 = .ok (.iload_n 1, 1)) rfl rfl
theorem s154_107 : mSnd 154 107 (a_iload 109 7) := snd_iload (by decide +kernel : decode (mBc 154) 107 = .ok (.iload 7, 2)) rfl
theorem s154_109 : mSnd 154 109 (a_invV 112 2 0 0 [(10, 144, 0, 0)]) := snd_invV v154_106 rfl rfl (by decide +kernel : decode (mBc 154) 109 = .ok (.invokevirtual 106, 3)) rfl
theorem s154_112 : mSnd 154 112 (a_ll 113 (fun x y => x * y)) := snd_lmul (by decide +kernel : decode (mBc 154) 112 = .ok (.lmul, 1)) rfl
theorem s154_113 : mSnd 154 113 (a_iload 115 4) := snd_iload (by decide +kernel : decode (mBc 154) 113 = .ok (.iload 4, 2)) rfl
theorem s154_115 : mSnd 154 115 (a_i2l 116) := snd_i2l (by decide +kernel : decode (mBc 154) 115 = .ok (.i2l, 1)) rfl
theorem s154_116 : mSnd 154 116 (a_aload 117 0) := snd_aload_n (by decide +kernel : decode (mBc 154) 116 = .ok (.aload_n 0, 1)) rfl rfl
theorem s154_117 : mSnd 154 117 (a_iload 118 2) := snd_iload_n (by decide +kernel : decode (mBc 154) 117 = .ok (.iload_n 2, 1)) rfl rfl
theorem s154_118 : mSnd 154 118 (a_iload 120 7) := snd_iload (by decide +kernel : decode (mBc 154) 118 = .ok (.iload 7, 2)) rfl
theorem s154_120 : mSnd 154 120 (a_invV 123 2 0 0 [(10, 144, 0, 0)]) := snd_invV v154_106 rfl rfl (by decide +kernel : decode (mBc 154) 120 = .ok (.invokevirtual 106, 3)) rfl
theorem s154_123 : mSnd 154 123 (a_ll 124 (fun x y => x * y)) := snd_lmul (by decide +kernel : decode (mBc 154) 123 = .ok (.lmul, 1)) rfl
theorem s154_124 : mSnd 154 124 (a_ll 125 (fun x y => x + y)) := snd_ladd (by decide +kernel : decode (mBc 154) 124 = .ok (.ladd, 1)) rfl
theorem s154_125 : mSnd 154 125 (a_lstore 127 8) := snd_lstore (by decide +kernel : decode (mBc 154) 125 = .ok (.lstore 8, 2)) (by decide) rfl
theorem s154_127 : mSnd 154 127 (a_iload 129 6) := snd_iload (by decide +kernel : decode (mBc 154) 127 = .ok (.iload 6, 2)) rfl
theorem s154_129 : mSnd 154 129 (a_if 132 154 (fun x => decide (x = 0))) := snd_if_eq (by decide +kernel : decode (mBc 154) 129 = .ok (.ifCond .eq 25, 3)) rfl rfl
theorem s154_132 : mSnd 154 132 (a_lload 134 8) := snd_lload (by decide +kernel : decode (mBc 154) 132 = .ok (.lload 8, 2)) rfl
theorem s154_134 : mSnd 154 134 (a_push 137 (.long (lZ (-1000)))) := snd_ldc2 q1026 (by decide +kernel : decode (mBc 154) 134 = .ok (.ldc2_w 110, 3)) rfl
theorem s154_137 : mSnd 154 137 (a_lcmp 138) := snd_lcmp (by decide +kernel : decode (mBc 154) 137 = .ok (.lcmp, 1)) rfl
theorem s154_138 : mSnd 154 138 (a_if 141 154 (fun x => decide (x < 0))) := snd_if_lt (by decide +kernel : decode (mBc 154) 138 = .ok (.ifCond .lt 16, 3)) rfl rfl
theorem s154_141 : mSnd 154 141 (a_lload 143 8) := snd_lload (by decide +kernel : decode (mBc 154) 141 = .ok (.lload 8, 2)) rfl
theorem s154_143 : mSnd 154 143 (a_push 146 (.long (lZ 1000))) := snd_ldc2 q1027 (by decide +kernel : decode (mBc 154) 143 = .ok (.ldc2_w 112, 3)) rfl
theorem s154_146 : mSnd 154 146 (a_lcmp 147) := snd_lcmp (by decide +kernel : decode (mBc 154) 146 = .ok (.lcmp, 1)) rfl
theorem s154_147 : mSnd 154 147 (a_if 150 154 (fun x => decide (0 < x))) := snd_if_gt (by decide +kernel : decode (mBc 154) 147 = .ok (.ifCond .gt 7, 3)) rfl rfl
theorem s154_150 : mSnd 154 150 (a_push 151 (.int (iZ 1))) := snd_iconst (by decide +kernel : decode (mBc 154) 150 = .ok (.iconst 1, 1)) rfl rfl
theorem s154_151 : mSnd 154 151 (a_goto 155) := snd_goto (by decide +kernel : decode (mBc 154) 151 = .ok (.goto 4, 3)) rfl
theorem s154_154 : mSnd 154 154 (a_push 155 (.int (iZ 0))) := snd_iconst (by decide +kernel : decode (mBc 154) 154 = .ok (.iconst 0, 1)) rfl rfl
theorem s154_155 : mSnd 154 155 (a_istore 157 6) := snd_istore (by decide +kernel : decode (mBc 154) 155 = .ok (.istore 6, 2)) (by decide) rfl
theorem s154_157 : mSnd 154 157 (a_aload 158 0) := snd_aload_n (by decide +kernel : decode (mBc 154) 157 = .ok (.aload_n 0, 1)) rfl rfl
theorem s154_158 : mSnd 154 158 (a_getf 161 3 [10]) := snd_getf f30 q905 (Or.inl rfl) (by decide +kernel : decode (mBc 154) 158 = .ok (.getfield 20, 3)) rfl
theorem s154_161 : mSnd 154 161 (a_push 163 (.int (iZ 16))) := snd_bipush (by decide +kernel : decode (mBc 154) 161 = .ok (.bipush 16, 2)) (by decide +kernel) rfl
theorem s154_163 : mSnd 154 163 (a_iload 165 5) := snd_iload (by decide +kernel : decode (mBc 154) 163 = .ok (.iload 5, 2)) rfl
theorem s154_165 : mSnd 154 165 (a_ii 166 (fun x y => x * y)) := snd_imul (by decide +kernel : decode (mBc 154) 165 = .ok (.imul, 1)) rfl
theorem s154_166 : mSnd 154 166 (a_iload 168 7) := snd_iload (by decide +kernel : decode (mBc 154) 166 = .ok (.iload 7, 2)) rfl
theorem s154_168 : mSnd 154 168 (a_ii 169 (fun x y => x + y)) := snd_iadd (by decide +kernel : decode (mBc 154) 168 = .ok (.iadd, 1)) rfl
theorem s154_169 : mSnd 154 169 (a_lload 171 8) := snd_lload (by decide +kernel : decode (mBc 154) 169 = .ok (.lload 8, 2)) rfl
theorem s154_171 : mSnd 154 171 (a_last 172) := snd_last (by decide +kernel : decode (mBc 154) 171 = .ok (.lastore, 1)) rfl
theorem s154_172 : mSnd 154 172 (a_iinc 175 7 (iZ 1)) := snd_iinc (by decide +kernel : decode (mBc 154) 172 = .ok (.iinc 7 1, 3)) rfl (by decide) rfl
theorem s154_175 : mSnd 154 175 (a_goto 92) := snd_goto (by decide +kernel : decode (mBc 154) 175 = .ok (.goto (-83), 3)) rfl
theorem s154_178 : mSnd 154 178 (a_iload 180 6) := snd_iload (by decide +kernel : decode (mBc 154) 178 = .ok (.iload 6, 2)) rfl
theorem s154_180 : mSnd 154 180 (a_if 183 190 (fun x => decide (x = 0))) := snd_if_eq (by decide +kernel : decode (mBc 154) 180 = .ok (.ifCond .eq 10, 3)) rfl rfl
theorem s154_183 : mSnd 154 183 (a_aload 184 0) := snd_aload_n (by decide +kernel : decode (mBc 154) 183 = .ok (.aload_n 0, 1)) rfl rfl
theorem s154_184 : mSnd 154 184 (a_invV 187 0 0 0 [(10, 146, 0, 0)]) := snd_invV v154_88 rfl rfl (by decide +kernel : decode (mBc 154) 184 = .ok (.invokevirtual 88, 3)) rfl
theorem s154_187 : mSnd 154 187 (a_goto 192) := snd_goto (by decide +kernel : decode (mBc 154) 187 = .ok (.goto 5, 3)) rfl
theorem s154_190 : mSnd 154 190 (a_push 192 (.int (iZ (-4)))) := snd_bipush (by decide +kernel : decode (mBc 154) 190 = .ok (.bipush (-4), 2)) (by decide +kernel) rfl
theorem s154_192 : mSnd 154 192 (a_iret 0 0) := snd_iret rfl rfl rfl (by decide +kernel : decode (mBc 154) 192 = .ok (.ireturn, 1))
theorem ok154 : mOkl2 154 ct154 := ⟨⟨s154_0, s154_1, s154_2, s154_5, s154_8, s154_9, s154_10, s154_13, s154_16, s154_17, s154_18, s154_20, trivial⟩, ⟨s154_21, s154_24, s154_27, s154_28, s154_30, s154_32, s154_33, s154_36, s154_39, s154_41, s154_42, s154_43, trivial⟩, ⟨s154_46, s154_47, s154_48, s154_49, s154_52, s154_53, s154_54, s154_57, s154_59, s154_60, s154_61, s154_62, trivial⟩, ⟨s154_63, s154_66, s154_67, s154_68, s154_71, s154_73, s154_74, s154_77, s154_79, s154_82, s154_83, s154_86, trivial⟩, ⟨s154_87, s154_89, s154_90, s154_92, s154_94, s154_95, s154_97, s154_100, s154_103, s154_104, s154_105, s154_106, trivial⟩, ⟨s154_107, s154_109, s154_112, s154_113, s154_115, s154_116, s154_117, s154_118, s154_120, s154_123, s154_124, s154_125, trivial⟩, ⟨s154_127, s154_129, s154_132, s154_134, s154_137, s154_138, s154_141, s154_143, s154_146, s154_147, s154_150, s154_151, trivial⟩, ⟨s154_154, s154_155, s154_157, s154_158, s154_161, s154_163, s154_165, s154_166, s154_168, s154_169, s154_171, s154_172, trivial⟩, ⟨s154_175, s154_178, s154_180, s154_183, s154_184, s154_187, s154_190, s154_192, trivial⟩, trivial⟩
theorem s155_0 : mSnd 155 0 (a_iload 1 1) := snd_iload_n (by decide +kernel : decode (mBc 155) 0 = .ok (.iload_n 1, 1)) rfl rfl
theorem s155_1 : mSnd 155 1 (a_push 2 (.int (iZ 1))) := snd_iconst (by decide +kernel : decode (mBc 155) 1 = .ok (.iconst 1, 1)) rfl rfl
theorem s155_2 : mSnd 155 2 (a_iload 3 2) := snd_iload_n (by decide +kernel : decode (mBc 155) 2 = .ok (.iload_n 2, 1)) rfl rfl
theorem s155_3 : mSnd 155 3 (a_ii 4 (fun x y => x <<< (y &&& 31))) := snd_ishl (by decide +kernel : decode (mBc 155) 3 = .ok (.ishl, 1)) rfl
theorem s155_4 : mSnd 155 4 (a_push 5 (.int (iZ 1))) := snd_iconst (by decide +kernel : decode (mBc 155) 4 = .ok (.iconst 1, 1)) rfl rfl
theorem s155_5 : mSnd 155 5 (a_ii 6 (fun x y => x - y)) := snd_isub (by decide +kernel : decode (mBc 155) 5 = .ok (.isub, 1)) rfl
theorem s155_6 : mSnd 155 6 (a_ii 7 (fun x y => x &&& y)) := snd_iand (by decide +kernel : decode (mBc 155) 6 = .ok (.iand, 1)) rfl
theorem s155_7 : mSnd 155 7 (a_iload 8 1) := snd_iload_n (by decide +kernel : decode (mBc 155) 7 = .ok (.iload_n 1, 1)) rfl rfl
theorem s155_8 : mSnd 155 8 (a_push 9 (.int (iZ 1))) := snd_iconst (by decide +kernel : decode (mBc 155) 8 = .ok (.iconst 1, 1)) rfl rfl
theorem s155_9 : mSnd 155 9 (a_iload 10 2) := snd_iload_n (by decide +kernel : decode (mBc 155) 9 = .ok (.iload_n 2, 1)) rfl rfl
theorem s155_10 : mSnd 155 10 (a_ii 11 (fun x y => x <<< (y &&& 31))) := snd_ishl (by decide +kernel : decode (mBc 155) 10 = .ok (.ishl, 1)) rfl
theorem s155_11 : mSnd 155 11 (a_push 12 (.int (iZ 1))) := snd_iconst (by decide +kernel : decode (mBc 155) 11 = .ok (.iconst 1, 1)) rfl rfl
theorem s155_12 : mSnd 155 12 (a_ii 13 (fun x y => x - y)) := snd_isub (by decide +kernel : decode (mBc 155) 12 = .ok (.isub, 1)) rfl
theorem s155_13 : mSnd 155 13 (a_push 14 (.int (iZ (-1)))) := snd_iconst (by decide +kernel : decode (mBc 155) 13 = .ok (.iconst (-1), 1)) rfl rfl
theorem s155_14 : mSnd 155 14 (a_ii 15 (fun x y => x ^^^ y)) := snd_ixor (by decide +kernel : decode (mBc 155) 14 = .ok (.ixor, 1)) rfl
theorem s155_15 : mSnd 155 15 (a_ii 16 (fun x y => x &&& y)) := snd_iand (by decide +kernel : decode (mBc 155) 15 = .ok (.iand, 1)) rfl
theorem s155_16 : mSnd 155 16 (a_push 17 (.int (iZ 1))) := snd_iconst (by decide +kernel : decode (mBc 155) 16 = .ok (.iconst 1, 1)) rfl rfl
theorem s155_17 : mSnd 155 17 (a_ii 18 (fun x y => x <<< (y &&& 31))) := snd_ishl (by decide +kernel : decode (mBc 155) 17 = .ok (.ishl, 1)) rfl
theorem s155_18 : mSnd 155 18 (a_ii 19 (fun x y => x ||| y)) := snd_ior (by decide +kernel : decode (mBc 155) 18 = .ok (.ior, 1)) rfl
theorem s155_19 : mSnd 155 19 (a_iret 0 0) := snd_iret rfl rfl rfl (by decide +kernel : decode (mBc 155) 19 = .ok (.ireturn, 1))
theorem ok155 : mOkl2 155 ct155 := ⟨⟨s155_0, s155_1, s155_2, s155_3, s155_4, s155_5, s155_6, s155_7, s155_8, s155_9, s155_10, s155_11, trivial⟩, ⟨s155_12, s155_13, s155_14, s155_15, s155_16, s155_17, s155_18, s155_19, trivial⟩, trivial⟩
theorem s156_0 : mSnd 156 0 (a_aload 1 0) := snd_aload_n (by decide +kernel : decode (mBc 156) 0 = .ok (.aload_n 0, 1)) rfl rfl
theorem s156_1 : mSnd 156 1 (a_iload 2 1) := snd_iload_n (by decide +kernel : decode (mBc 156) 1 = .ok (.iload_n 1, 1)) rfl rfl
theorem s156_2 : mSnd 156 2 (a_invV 5 1 0 0 [(10, 138, 0, 0)]) := snd_invV v156_92 rfl rfl (by decide +kernel : decode (mBc 156) 2 = .ok (.invokevirtual 92, 3)) rfl
theorem s156_5 : mSnd 156 5 (a_if 8 17 (fun x => decide (x = 0))) := snd_if_eq (by decide +kernel : decode (mBc 156) 5 = .ok (.ifCond .eq 12, 3)) rfl rfl
theorem s156_8 : mSnd 156 8 (a_aload 9 0) := snd_aload_n (by decide +kernel : decode (mBc 156) 8 = .ok (.aload_n 0, 1)) rfl rfl
theorem s156_9 : mSnd 156 9 (a_iload 10 1) := snd_iload_n (by decide +kernel : decode (mBc 156) 9 = .ok (.iload_n 1, 1)) rfl rfl
theorem s156_10 : mSnd 156 10 (a_iload 11 2) := snd_iload_n (by decide +kernel : decode (mBc 156) 10 = .ok (.iload_n 2, 1)) rfl rfl
theorem s156_11 : mSnd 156 11 (a_invV 14 2 0 0 [(10, 143, 0, 0)]) := snd_invV v156_114 rfl rfl (by decide +kernel : decode (mBc 156) 11 = .ok (.invokevirtual 114, 3)) rfl
theorem s156_14 : mSnd 156 14 (a_if 17 20 (fun x => decide (¬ x = 0))) := snd_if_ne (by decide +kernel : decode (mBc 156) 14 = .ok (.ifCond .ne 6, 3)) rfl rfl
theorem s156_17 : mSnd 156 17 (a_push 19 (.int (iZ (-2)))) := snd_bipush (by decide +kernel : decode (mBc 156) 17 = .ok (.bipush (-2), 2)) (by decide +kernel) rfl
theorem s156_19 : mSnd 156 19 (a_iret 0 0) := snd_iret rfl rfl rfl (by decide +kernel : decode (mBc 156) 19 = .ok (.ireturn, 1))
theorem s156_20 : mSnd 156 20 (a_aload 21 0) := snd_aload_n (by decide +kernel : decode (mBc 156) 20 = .ok (.aload_n 0, 1)) rfl rfl
theorem s156_21 : mSnd 156 21 (a_getf 24 2 [10]) := snd_getf f29 q904 (Or.inl rfl) (by decide +kernel : decode (mBc 156) 21 = .ok (.getfield 17, 3)) rfl
theorem s156_24 : mSnd 156 24 (a_iload 25 1) := snd_iload_n (by decide +kernel : decode (mBc 156) 24 = .ok (.iload_n 1, 1)) rfl rfl
theorem s156_25 : mSnd 156 25 (a_iald 26) := snd_iald (by decide +kernel : decode (mBc 156) 25 = .ok (.iaload, 1)) rfl
theorem s156_26 : mSnd 156 26 (a_push 27 (.int (iZ 1))) := snd_iconst (by decide +kernel : decode (mBc 156) 26 = .ok (.iconst 1, 1)) rfl rfl
theorem s156_27 : mSnd 156 27 (a_icmp 30 33 (fun x y => decide (¬ x = y))) := snd_icmp_ne (by decide +kernel : decode (mBc 156) 27 = .ok (.if_icmp .ne 6, 3)) rfl rfl
theorem s156_30 : mSnd 156 30 (a_push 32 (.int (iZ (-3)))) := snd_bipush (by decide +kernel : decode (mBc 156) 30 = .ok (.bipush (-3), 2)) (by decide +kernel) rfl
theorem s156_32 : mSnd 156 32 (a_iret 0 0) := snd_iret rfl rfl rfl (by decide +kernel : decode (mBc 156) 32 = .ok (.ireturn, 1))
theorem s156_33 : mSnd 156 33 (a_aload 34 0) := snd_aload_n (by decide +kernel : decode (mBc 156) 33 = .ok (.aload_n 0, 1)) rfl rfl
theorem s156_34 : mSnd 156 34 (a_getf 37 0 [10]) := snd_getf f27 q902 (Or.inl rfl) (by decide +kernel : decode (mBc 156) 34 = .ok (.getfield 7, 3)) rfl
theorem s156_37 : mSnd 156 37 (a_push 39 (.int (iZ 10))) := snd_bipush (by decide +kernel : decode (mBc 156) 37 = .ok (.bipush 10, 2)) (by decide +kernel) rfl
theorem s156_39 : mSnd 156 39 (a_icmp 42 45 (fun x y => decide (¬ x = y))) := snd_icmp_ne (by decide +kernel : decode (mBc 156) 39 = .ok (.if_icmp .ne 6, 3)) rfl rfl
theorem s156_42 : mSnd 156 42 (a_push 44 (.int (iZ (-4)))) := snd_bipush (by decide +kernel : decode (mBc 156) 42 = .ok (.bipush (-4), 2)) (by decide +kernel) rfl
theorem s156_44 : mSnd 156 44 (a_iret 0 0) := snd_iret rfl rfl rfl (by decide +kernel : decode (mBc 156) 44 = .ok (.ireturn, 1))
theorem s156_45 : mSnd 156 45 (a_aload 46 0) := snd_aload_n (by decide +kernel : decode (mBc 156) 45 = .ok (.aload_n 0, 1)) rfl rfl
theorem s156_46 : mSnd 156 46 (a_push 47 (.int (iZ 4))) := snd_iconst (by decide +kernel : decode (mBc 156) 46 = .ok (.iconst 4, 1)) rfl rfl
theorem s156_47 : mSnd 156 47 (a_aload 48 0) := snd_aload_n (by decide +kernel : decode (mBc 156) 47 = .ok (.aload_n 0, 1)) rfl rfl
theorem s156_48 : mSnd 156 48 (a_getf 51 2 [10]) := snd_getf f29 q904 (Or.inl rfl) (by decide +kernel : decode (mBc 156) 48 = .ok (.getfield 17, 3)) rfl
theorem s156_51 : mSnd 156 51 (a_iload 52 1) := snd_iload_n (by decide +kernel : decode (mBc 156) 51 = .ok (.iload_n 1, 1)) rfl rfl
theorem s156_52 : mSnd 156 52 (a_iald 53) := snd_iald (by decide +kernel : decode (mBc 156) 52 = .ok (.iaload, 1)) rfl
theorem s156_53 : mSnd 156 53 (a_push 54 (.int (iZ 1))) := snd_iconst (by decide +kernel : decode (mBc 156) 53 = .ok (.iconst 1, 1)) rfl rfl
theorem s156_54 : mSnd 156 54 (a_ii 55 (fun x y => x - y)) := snd_isub (by decide +kernel : decode (mBc 156) 54 = .ok (.isub, 1)) rfl
theorem s156_55 : mSnd 156 55 (a_invV 58 2 0 0 [(10, 145, 0, 0)]) := snd_invV v156_84 rfl rfl (by decide +kernel : decode (mBc 156) 55 = .ok (.invokevirtual 84, 3)) rfl
theorem s156_58 : mSnd 156 58 (a_istore 59 3) := snd_istore_n (by decide +kernel : decode (mBc 156) 58 = .ok (.istore_n 3, 1)) rfl (by decide) rfl
theorem s156_59 : mSnd 156 59 (a_push 60 (.int (iZ 1))) := snd_iconst (by decide +kernel : decode (mBc 156) 59 = .ok (.iconst 1, 1)) rfl rfl
theorem s156_60 : mSnd 156 60 (a_istore 62 4) := snd_istore (by decide +kernel : decode (mBc 156) 60 = .ok (.istore 4, 2)) (by decide) rfl
theorem s156_62 : mSnd 156 62 (a_iload 64 4) := snd_iload (by decide +kernel : decode (mBc 156) 62 = .ok (.iload 4, 2)) rfl
theorem s156_64 : mSnd 156 64 (a_aload 65 0) := snd_aload_n (by decide +kernel : decode (mBc 156) 64 = .ok (.aload_n 0, 1)) rfl rfl
theorem s156_65 : mSnd 156 65 (a_iload 66 3) := snd_iload_n (by decide +kernel : decode (mBc 156) 65 = .ok (.iload_n 3, 1)) rfl rfl
theorem s156_66 : mSnd 156 66 (a_invV 69 1 0 0 [(10, 139, 0, 0)]) := snd_invV v156_80 rfl rfl (by decide +kernel : decode (mBc 156) 66 = .ok (.invokevirtual 80, 3)) rfl
theorem s156_69 : mSnd 156 69 (a_icmp 72 102 (fun x y => decide (y < x))) := snd_icmp_gt (by decide +kernel : decode (mBc 156) 69 = .ok (.if_icmp .gt 33, 3)) rfl rfl
theorem s156_72 : mSnd 156 72 (a_aload 73 0) := snd_aload_n (by decide +kernel : decode (mBc 156) 72 = .ok (.aload_n 0, 1)) rfl rfl
theorem s156_73 : mSnd 156 73 (a_getf 76 3 [10]) := snd_getf f30 q905 (Or.inl rfl) (by decide +kernel : decode (mBc 156) 73 = .ok (.getfield 20, 3)) rfl
theorem s156_76 : mSnd 156 76 (a_push 78 (.int (iZ 16))) := snd_bipush (by decide +kernel : decode (mBc 156) 76 = .ok (.bipush 16, 2)) (by decide +kernel) rfl
theorem s156_78 : mSnd 156 78 (a_iload 79 3) := snd_iload_n (by decide +kernel : decode (mBc 156) 78 = .ok (.iload_n 3, 1)) rfl rfl
theorem s156_79 : mSnd 156 79 (a_ii 80 (fun x y => x * y)) := snd_imul (by decide +kernel : decode (mBc 156) 79 = .ok (.imul, 1)) rfl
theorem s156_80 : mSnd 156 80 (a_iload 82 4) := snd_iload (by decide +kernel : decode (mBc 156) 80 = .ok (.iload 4, 2)) rfl
theorem s156_82 : mSnd 156 82 (a_ii 83 (fun x y => x + y)) := snd_iadd (by decide +kernel : decode (mBc 156) 82 = .ok (.iadd, 1)) rfl
theorem s156_83 : mSnd 156 83 (a_aload 84 0) := snd_aload_n (by decide +kernel : decode (mBc 156) 83 = .ok (.aload_n 0, 1)) rfl rfl
theorem s156_84 : mSnd 156 84 (a_iload 85 1) := snd_iload_n (by decide +kernel : decode (mBc 156) 84 = .ok (.iload_n 1, 1)) rfl rfl
theorem s156_85 : mSnd 156 85 (a_aload 86 0) := snd_aload_n (by decide +kernel : decode (mBc 156) 85 = .ok (.aload_n 0, 1)) rfl rfl
theorem s156_86 : mSnd 156 86 (a_iload 88 4) := snd_iload (by decide +kernel : decode (mBc 156) 86 = .ok (.iload 4, 2)) rfl
theorem s156_88 : mSnd 156 88 (a_iload 89 2) := snd_iload_n (by decide +kernel : decode (mBc 156) 88 = .ok (.iload_n 2, 1)) rfl rfl
theorem s156_89 : mSnd 156 89 (a_invV 92 2 0 0 [(10, 155, 0, 0)]) := snd_invV v156_118 rfl rfl (by decide +kernel : decode (mBc 156) 89 = .ok (.invokevirtual 118, 3)) rfl
theorem s156_92 : mSnd 156 92 (a_invV 95 2 0 0 [(10, 144, 0, 0)]) := snd_invV v156_106 rfl rfl (by decide +kernel : decode (mBc 156) 92 = .ok (.invokevirtual 106, 3)) rfl
theorem s156_95 : mSnd 156 95 (a_last 96) := snd_last (by decide +kernel : decode (mBc 156) 95 = .ok (.lastore, 1)) rfl
theorem s156_96 : mSnd 156 96 (a_iinc 99 4 (iZ 1)) := snd_iinc (by decide +kernel : decode (mBc 156) 96 = .ok (.iinc 4 1, 3)) rfl (by decide) rfl
theorem s156_99 : mSnd 156 99 (a_goto 62) := snd_goto (by decide +kernel : decode (mBc 156) 99 = .ok (.goto (-37), 3)) rfl
theorem s156_102 : mSnd 156 102 (a_aload 103 0) := snd_aload_n (by decide +kernel : decode (mBc 156) 102 = .ok (.aload_n 0, 1)) rfl rfl
theorem s156_103 : mSnd 156 103 (a_invV 106 0 0 0 [(10, 146, 0, 0)]) := snd_invV v156_88 rfl rfl (by decide +kernel : decode (mBc 156) 103 = .ok (.invokevirtual 88, 3)) rfl
theorem s156_106 : mSnd 156 106 (a_iret 0 0) := snd_iret rfl rfl rfl (by decide +kernel : decode (mBc 156) 106 = .ok (.ireturn, 1))
theorem ok156 : mOkl2 156 ct156 := ⟨⟨s156_0, s156_1, s156_2, s156_5, s156_8, s156_9, s156_10, s156_11, s156_14, s156_17, s156_19, s156_20, trivial⟩, ⟨s156_21, s156_24, s156_25, s156_26, s156_27, s156_30, s156_32, s156_33, s156_34, s156_37, s156_39, s156_42, trivial⟩, ⟨s156_44, s156_45, s156_46, s156_47, s156_48, s156_51, s156_52, s156_53, s156_54, s156_55, s156_58, s156_59, trivial⟩, ⟨s156_60, s156_62, s156_64, s156_65, s156_66, s156_69, s156_72, s156_73, s156_76, s156_78, s156_79, s156_80, trivial⟩, ⟨s156_82, s156_83, s156_84, s156_85, s156_86, s156_88, s156_89, s156_92, s156_95, s156_96, s156_99, s156_102, trivial⟩, ⟨s156_103, s156_106, trivial⟩, trivial⟩
theorem s157_0 : mSnd 157 0 (a_aload 1 0) := snd_aload_n (by decide +kernel : decode (mBc 157) 0 = .ok (.aload_n 0, 1)) rfl rfl
theorem s157_1 : mSnd 157 1 (a_iload 2 1) := snd_iload_n (by decide +kernel : decode (mBc 157) 1 = .ok (.iload_n 1, 1)) rfl rfl
theorem s157_2 : mSnd 157 2 (a_invV 5 1 0 0 [(10, 138, 0, 0)]) := snd_invV v157_92 rfl rfl (by decide +kernel : decode (mBc 157) 2 = .ok (.invokevirtual 92, 3)) rfl
theorem s157_5 : mSnd 157 5 (a_if 8 31 (fun x => decide (x = 0))) := snd_if_eq (by decide +kernel : decode (mBc 157) 5 = .ok (.ifCond .eq 26, 3)) rfl rfl
theorem s157_8 : mSnd 157 8 (a_aload 9 0) := snd_aload_n (by decide +kernel : decode (mBc 157) 8 = .ok (.aload_n 0, 1)) rfl rfl
theorem s157_9 : mSnd 157 9 (a_iload 10 1) := snd_iload_n (by decide +kernel : decode (mBc 157) 9 = .ok (.iload_n 1, 1)) rfl rfl
theorem s157_10 : mSnd 157 10 (a_iload 11 2) := snd_iload_n (by decide +kernel : decode (mBc 157) 10 = .ok (.iload_n 2, 1)) rfl rfl
theorem s157_11 : mSnd 157 11 (a_invV 14 2 0 0 [(10, 143, 0, 0)]) := snd_invV v157_114 rfl rfl (by decide +kernel : decode (mBc 157) 11 = .ok (.invokevirtual 114, 3)) rfl
theorem s157_14 : mSnd 157 14 (a_if 17 31 (fun x => decide (x = 0))) := snd_if_eq (by decide +kernel : decode (mBc 157) 14 = .ok (.ifCond .eq 17, 3)) rfl rfl
theorem s157_17 : mSnd 157 17 (a_aload 18 0) := snd_aload_n (by decide +kernel : decode (mBc 157) 17 = .ok (.aload_n 0, 1)) rfl rfl
theorem s157_18 : mSnd 157 18 (a_iload 19 1) := snd_iload_n (by decide +kernel : decode (mBc 157) 18 = .ok (.iload_n 1, 1)) rfl rfl
theorem s157_19 : mSnd 157 19 (a_iload 20 3) := snd_iload_n (by decide +kernel : decode (mBc 157) 19 = .ok (.iload_n 3, 1)) rfl rfl
theorem s157_20 : mSnd 157 20 (a_invV 23 2 0 0 [(10, 143, 0, 0)]) := snd_invV v157_114 rfl rfl (by decide +kernel : decode (mBc 157) 20 = .ok (.invokevirtual 114, 3)) rfl
theorem s157_23 : mSnd 157 23 (a_if 26 31 (fun x => decide (x = 0))) := snd_if_eq (by decide +kernel : decode (mBc 157) 23 = .ok (.ifCond .eq 8, 3)) rfl rfl
theorem s157_26 : mSnd 157 26 (a_iload 27 2) := snd_iload_n (by decide +kernel : decode (mBc 157) 26 = .ok (.iload_n 2, 1)) rfl rfl
theorem s157_27 : mSnd 157 27 (a_iload 28 3) := snd_iload_n (by decide +kernel : decode (mBc 157) 27 = .ok (.iload_n 3, 1)) rfl rfl
theorem s157_28 : mSnd 157 28 (a_icmp 31 34 (fun x y => decide (x < y))) := snd_icmp_lt (by decide +kernel : decode (mBc 157) 28 = .ok (.if_icmp .lt 6, 3)) rfl rfl
theorem s157_31 : mSnd 157 31 (a_push 33 (.int (iZ (-2)))) := snd_bipush (by decide +kernel : decode (mBc 157) 31 = .ok (.bipush (-2), 2)) (by decide +kernel) rfl
theorem s157_33 : mSnd 157 33 (a_iret 0 0) := snd_iret rfl rfl rfl (by decide +kernel : decode (mBc 157) 33 = .ok (.ireturn, 1))
theorem s157_34 : mSnd 157 34 (a_aload 35 0) := snd_aload_n (by decide +kernel : decode (mBc 157) 34 = .ok (.aload_n 0, 1)) rfl rfl
theorem s157_35 : mSnd 157 35 (a_getf 38 0 [10]) := snd_getf f27 q902 (Or.inl rfl) (by decide +kernel : decode (mBc 157) 35 = .ok (.getfield 7, 3)) rfl
theorem s157_38 : mSnd 157 38 (a_push 40 (.int (iZ 10))) := snd_bipush (by decide +kernel : decode (mBc 157) 38 = .ok (.bipush 10, 2)) (by decide +kernel) rfl
theorem s157_40 : mSnd 157 40 (a_icmp 43 46 (fun x y => decide (¬ x = y))) := snd_icmp_ne (by decide +kernel : decode (mBc 157) 40 = .ok (.if_icmp .ne 6, 3)) rfl rfl
theorem s157_43 : mSnd 157 43 (a_push 45 (.int (iZ (-4)))) := snd_bipush (by decide +kernel : decode (mBc 157) 43 = .ok (.bipush (-4), 2)) (by decide +kernel) rfl
theorem s157_45 : mSnd 157 45 (a_iret 0 0) := snd_iret rfl rfl rfl (by decide +kernel : decode (mBc 157) 45 = .ok (.ireturn, 1))
theorem s157_46 : mSnd 157 46 (a_aload 47 0) := snd_aload_n (by decide +kernel : decode (mBc 157) 46 = .ok (.aload_n 0, 1)) rfl rfl
theorem s157_47 : mSnd 157 47 (a_push 48 (.int (iZ 4))) := snd_iconst (by decide +kernel : decode (mBc 157) 47 = .ok (.iconst 4, 1)) rfl rfl
theorem s157_48 : mSnd 157 48 (a_aload 49 0) := snd_aload_n (by decide +kernel : decode (mBc 157) 48 = .ok (.aload_n 0, 1)) rfl rfl
theorem s157_49 : mSnd 157 49 (a_getf 52 2 [10]) := snd_getf f29 q904 (Or.inl rfl) (by decide +kernel : decode (mBc 157) 49 = .ok (.getfield 17, 3)) rfl
theorem s157_52 : mSnd 157 52 (a_iload 53 1) := snd_iload_n (by decide +kernel : decode (mBc 157) 52 = .ok (.iload_n 1, 1)) rfl rfl
theorem s157_53 : mSnd 157 53 (a_iald 54) := snd_iald (by decide +kernel : decode (mBc 157) 53 = .ok (.iaload, 1)) rfl
theorem s157_54 : mSnd 157 54 (a_push 55 (.int (iZ 1))) := snd_iconst (by decide +kernel : decode (mBc 157) 54 = .ok (.iconst 1, 1)) rfl rfl
theorem s157_55 : mSnd 157 55 (a_ii 56 (fun x y => x - y)) := snd_isub (by decide +kernel : decode (mBc 157) 55 = .ok (.isub, 1)) rfl
theorem s157_56 : mSnd 157 56 (a_invV 59 2 0 0 [(10, 145, 0, 0)]) := snd_invV v157_84 rfl rfl (by decide +kernel : decode (mBc 157) 56 = .ok (.invokevirtual 84, 3)) rfl
theorem s157_59 : mSnd 157 59 (a_istore 61 4) := snd_istore (by decide +kernel : decode (mBc 157) 59 = .ok (.istore 4, 2)) (by decide) rfl
theorem s157_61 : mSnd 157 61 (a_push 62 (.int (iZ 1))) := snd_iconst (by decide +kernel : decode (mBc 157) 61 = .ok (.iconst 1, 1)) rfl rfl
theorem s157_62 : mSnd 157 62 (a_istore 64 5) := snd_istore (by decide +kernel : decode (mBc 157) 62 = .ok (.istore 5, 2)) (by decide) rfl
theorem s157_64 : mSnd 157 64 (a_iload 66 5) := snd_iload (by decide +kernel : decode (mBc 157) 64 = .ok (.iload 5, 2)) rfl
theorem s157_66 : mSnd 157 66 (a_aload 67 0) := snd_aload_n (by decide +kernel : decode (mBc 157) 66 = .ok (.aload_n 0, 1)) rfl rfl
theorem s157_67 : mSnd 157 67 (a_iload 69 4) := snd_iload (by decide +kernel : decode (mBc 157) 67 = .ok (.iload 4, 2)) rfl
theorem s157_69 : mSnd 157 69 (a_invV 72 1 0 0 [(10, 139, 0, 0)]) := snd_invV v157_80 rfl rfl (by decide +kernel : decode (mBc 157) 69 = .ok (.invokevirtual 80, 3)) rfl
theorem s157_72 : mSnd 157 72 (a_icmp 75 115 (fun x y => decide (y < x))) := snd_icmp_gt (by decide +kernel : decode (mBc 157) 72 = .ok (.if_icmp .gt 43, 3)) rfl rfl
theorem s157_75 : mSnd 157 75 (a_aload 76 0) := snd_aload_n (by decide +kernel : decode (mBc 157) 75 = .ok (.aload_n 0, 1)) rfl rfl
theorem s157_76 : mSnd 157 76 (a_getf 79 3 [10]) := snd_getf f30 q905 (Or.inl rfl) (by decide +kernel : decode (mBc 157) 76 = .ok (.getfield 20, 3)) rfl
theorem s157_79 : mSnd 157 79 (a_push 81 (.int (iZ 16))) := snd_bipush (by decide +kernel : decode (mBc 157) 79 = .ok (.bipush 16, 2)) (by decide +kernel) rfl
theorem s157_81 : mSnd 157 81 (a_iload 83 4) := snd_iload (by decide +kernel : decode (mBc 157) 81 = .ok (.iload 4, 2)) rfl
theorem s157_83 : mSnd 157 83 (a_ii 84 (fun x y => x * y)) := snd_imul (by decide +kernel : decode (mBc 157) 83 = .ok (.imul, 1)) rfl
theorem s157_84 : mSnd 157 84 (a_iload 86 5) := snd_iload (by decide +kernel : decode (mBc 157) 84 = .ok (.iload 5, 2)) rfl
theorem s157_86 : mSnd 157 86 (a_ii 87 (fun x y => x + y)) := snd_iadd (by decide +kernel : decode (mBc 157) 86 = .ok (.iadd, 1)) rfl
theorem s157_87 : mSnd 157 87 (a_aload 88 0) := snd_aload_n (by decide +kernel : decode (mBc 157) 87 = .ok (.aload_n 0, 1)) rfl rfl
theorem s157_88 : mSnd 157 88 (a_iload 89 1) := snd_iload_n (by decide +kernel : decode (mBc 157) 88 = .ok (.iload_n 1, 1)) rfl rfl
theorem s157_89 : mSnd 157 89 (a_aload 90 0) := snd_aload_n (by decide +kernel : decode (mBc 157) 89 = .ok (.aload_n 0, 1)) rfl rfl
theorem s157_90 : mSnd 157 90 (a_iload 92 5) := snd_iload (by decide +kernel : decode (mBc 157) 90 = .ok (.iload 5, 2)) rfl
theorem s157_92 : mSnd 157 92 (a_iload 93 3) := snd_iload_n (by decide +kernel : decode (mBc 157) 92 = .ok (.iload_n 3, 1)) rfl rfl
theorem s157_93 : mSnd 157 93 (a_invV 96 2 0 0 [(10, 155, 0, 0)]) := snd_invV v157_118 rfl rfl (by decide +kernel : decode (mBc 157) 93 = .ok (.invokevirtual 118, 3)) rfl
theorem s157_96 : mSnd 157 96 (a_iload 98 5) := snd_iload (by decide +kernel : decode (mBc 157) 96 = .ok (.iload 5, 2)) rfl
theorem s157_98 : mSnd 157 98 (a_iload 99 2) := snd_iload_n (by decide +kernel : decode (mBc 157) 98 = .ok (.iload_n 2, 1)) rfl rfl
theorem s157_99 : mSnd 157 99 (a_ii 100 (fun x y => x >>> (y &&& 31))) := snd_ishr (by decide +kernel : decode (mBc 157) 99 = .ok (.ishr, 1)) rfl
theorem s157_100 : mSnd 157 100 (a_push 101 (.int (iZ 1))) := snd_iconst (by decide +kernel : decode (mBc 157) 100 = .ok (.iconst 1, 1)) rfl rfl
theorem s157_101 : mSnd 157 101 (a_ii 102 (fun x y => x &&& y)) := snd_iand (by decide +kernel : decode (mBc 157) 101 = .ok (.iand, 1)) rfl
theorem s157_102 : mSnd 157 102 (a_iload 103 3) := snd_iload_n (by decide +kernel : decode (mBc 157) 102 = .ok (.iload_n 3, 1)) rfl rfl
theorem s157_103 : mSnd 157 103 (a_ii 104 (fun x y => x <<< (y &&& 31))) := snd_ishl (by decide +kernel : decode (mBc 157) 103 = .ok (.ishl, 1)) rfl
theorem s157_104 : mSnd 157 104 (a_ii 105 (fun x y => x ||| y)) := snd_ior (by decide +kernel : decode (mBc 157) 104 = .ok (.ior, 1)) rfl
theorem s157_105 : mSnd 157 105 (a_invV 108 2 0 0 [(10, 144, 0, 0)]) := snd_invV v157_106 rfl rfl (by decide +kernel : decode (mBc 157) 105 = .ok (.invokevirtual 106, 3)) rfl
theorem s157_108 : mSnd 157 108 (a_last 109) := snd_last (by decide +kernel : decode (mBc 157) 108 = .ok (.lastore, 1)) rfl
theorem s157_109 : mSnd 157 109 (a_iinc 112 5 (iZ 1)) := snd_iinc (by decide +kernel : decode (mBc 157) 109 = .ok (.iinc 5 1, 3)) rfl (by decide) rfl
theorem s157_112 : mSnd 157 112 (a_goto 64) := snd_goto (by decide +kernel : decode (mBc 157) 112 = .ok (.goto (-48), 3)) rfl
theorem s157_115 : mSnd 157 115 (a_aload 116 0) := snd_aload_n (by decide +kernel : decode (mBc 157) 115 = .ok (.aload_n 0, 1)) rfl rfl
theorem s157_116 : mSnd 157 116 (a_invV 119 0 0 0 [(10, 146, 0, 0)]) := snd_invV v157_88 rfl rfl (by decide +kernel : decode (mBc 157) 116 = .ok (.invokevirtual 88, 3)) rfl
theorem s157_119 : mSnd 157 119 (a_iret 0 0) := snd_iret rfl rfl rfl (by decide +kernel : decode (mBc 157) 119 = .ok (.ireturn, 1))
theorem ok157 : mOkl2 157 ct157 := ⟨⟨s157_0, s157_1, s157_2, s157_5, s157_8, s157_9, s157_10, s157_11, s157_14, s157_17, s157_18, s157_19, trivial⟩, ⟨s157_20, s157_23, s157_26, s157_27, s157_28, s157_31, s157_33, s157_34, s157_35, s157_38, s157_40, s157_43, trivial⟩, ⟨s157_45, s157_46, s157_47, s157_48, s157_49, s157_52, s157_53, s157_54, s157_55, s157_56, s157_59, s157_61, trivial⟩, ⟨s157_62, s157_64, s157_66, s157_67, s157_69, s157_72, s157_75, s157_76, s157_79, s157_81, s157_83, s157_84, trivial⟩, ⟨s157_86, s157_87, s157_88, s157_89, s157_90, s157_92, s157_93, s157_96, s157_98, s157_99, s157_100, s157_101, trivial⟩, ⟨s157_102, s157_103, s157_104, s157_105, s157_108, s157_109, s157_112, s157_115, s157_116, s157_119, trivial⟩, trivial⟩
theorem s158_0 : mSnd 158 0 (a_aload 1 0) := snd_aload_n (by decide +kernel : decode (mBc 158) 0 = .ok (.aload_n 0, 1)) rfl rfl
theorem s158_1 : mSnd 158 1 (a_iload 2 1) := snd_iload_n (by decide +kernel : decode (mBc 158) 1 = .ok (.iload_n 1, 1)) rfl rfl
theorem s158_2 : mSnd 158 2 (a_invV 5 1 0 0 [(10, 138, 0, 0)]) := snd_invV v158_92 rfl rfl (by decide +kernel : decode (mBc 158) 2 = .ok (.invokevirtual 92, 3)) rfl
theorem s158_5 : mSnd 158 5 (a_if 8 11 (fun x => decide (¬ x = 0))) := snd_if_ne (by decide +kernel : decode (mBc 158) 5 = .ok (.ifCond .ne 6, 3)) rfl rfl
theorem s158_8 : mSnd 158 8 (a_push 10 (.int (iZ (-2)))) := snd_bipush (by decide +kernel : decode (mBc 158) 8 = .ok (.bipush (-2), 2)) (by decide +kernel) rfl
theorem s158_10 : mSnd 158 10 (a_iret 0 0) := snd_iret rfl rfl rfl (by decide +kernel : decode (mBc 158) 10 = .ok (.ireturn, 1))
theorem s158_11 : mSnd 158 11 (a_aload 12 0) := snd_aload_n (by decide +kernel : decode (mBc 158) 11 = .ok (.aload_n 0, 1)) rfl rfl
theorem s158_12 : mSnd 158 12 (a_getf 15 0 [10]) := snd_getf f27 q902 (Or.inl rfl) (by decide +kernel : decode (mBc 158) 12 = .ok (.getfield 7, 3)) rfl
theorem s158_15 : mSnd 158 15 (a_push 17 (.int (iZ 10))) := snd_bipush (by decide +kernel : decode (mBc 158) 15 = .ok (.bipush 10, 2)) (by decide +kernel) rfl
theorem s158_17 : mSnd 158 17 (a_icmp 20 23 (fun x y => decide (¬ x = y))) := snd_icmp_ne (by decide +kernel : decode (mBc 158) 17 = .ok (.if_icmp .ne 6, 3)) rfl rfl
theorem s158_20 : mSnd 158 20 (a_push 22 (.int (iZ (-4)))) := snd_bipush (by decide +kernel : decode (mBc 158) 20 = .ok (.bipush (-4), 2)) (by decide +kernel) rfl
theorem s158_22 : mSnd 158 22 (a_iret 0 0) := snd_iret rfl rfl rfl (by decide +kernel : decode (mBc 158) 22 = .ok (.ireturn, 1))
theorem s158_23 : mSnd 158 23 (a_aload 24 0) := snd_aload_n (by decide +kernel : decode (mBc 158) 23 = .ok (.aload_n 0, 1)) rfl rfl
theorem s158_24 : mSnd 158 24 (a_push 25 (.int (iZ 4))) := snd_iconst (by decide +kernel : decode (mBc 158) 24 = .ok (.iconst 4, 1)) rfl rfl
theorem s158_25 : mSnd 158 25 (a_aload 26 0) := snd_aload_n (by decide +kernel : decode (mBc 158) 25 = .ok (.aload_n 0, 1)) rfl rfl
theorem s158_26 : mSnd 158 26 (a_getf 29 2 [10]) := snd_getf f29 q904 (Or.inl rfl) (by decide +kernel : decode (mBc 158) 26 = .ok (.getfield 17, 3)) rfl
theorem s158_29 : mSnd 158 29 (a_iload 30 1) := snd_iload_n (by decide +kernel : decode (mBc 158) 29 = .ok (.iload_n 1, 1)) rfl rfl
theorem s158_30 : mSnd 158 30 (a_iald 31) := snd_iald (by decide +kernel : decode (mBc 158) 30 = .ok (.iaload, 1)) rfl
theorem s158_31 : mSnd 158 31 (a_invV 34 2 0 0 [(10, 145, 0, 0)]) := snd_invV v158_84 rfl rfl (by decide +kernel : decode (mBc 158) 31 = .ok (.invokevirtual 84, 3)) rfl
theorem s158_34 : mSnd 158 34 (a_istore 35 2) := snd_istore_n (by decide +kernel : decode (mBc 158) 34 = .ok (.istore_n 2, 1)) rfl (by decide) rfl
theorem s158_35 : mSnd 158 35 (a_push 36 (.int (iZ 1))) := snd_iconst (by decide +kernel : decode (mBc 158) 35 = .ok (.iconst 1, 1)) rfl rfl
theorem s158_36 : mSnd 158 36 (a_istore 37 3) := snd_istore_n (by decide +kernel : decode (mBc 158) 36 = .ok (.istore_n 3, 1)) rfl (by decide) rfl
theorem s158_37 : mSnd 158 37 (a_iload 38 3) := snd_iload_n (by decide +kernel : decode (mBc 158) 37 = .ok (.iload_n 3, 1)) rfl rfl
theorem s158_38 : mSnd 158 38 (a_aload 39 0) := snd_aload_n (by decide +kernel : decode (mBc 158) 38 = .ok (.aload_n 0, 1)) rfl rfl
theorem s158_39 : mSnd 158 39 (a_iload 40 2) := snd_iload_n (by decide +kernel : decode (mBc 158) 39 = .ok (.iload_n 2, 1)) rfl rfl
theorem s158_40 : mSnd 158 40 (a_invV 43 1 0 0 [(10, 139, 0, 0)]) := snd_invV v158_80 rfl rfl (by decide +kernel : decode (mBc 158) 40 = .ok (.invokevirtual 80, 3)) rfl
theorem s158_43 : mSnd 158 43 (a_icmp 46 88 (fun x y => decide (y < x))) := snd_icmp_gt (by decide +kernel : decode (mBc 158) 43 = .ok (.if_icmp .gt 45, 3)) rfl rfl
theorem s158_46 : mSnd 158 46 (a_aload 47 0) := snd_aload_n (by decide +kernel : decode (mBc 158) 46 = .ok (.aload_n 0, 1)) rfl rfl
theorem s158_47 : mSnd 158 47 (a_getf 50 3 [10]) := snd_getf f30 q905 (Or.inl rfl) (by decide +kernel : decode (mBc 158) 47 = .ok (.getfield 20, 3)) rfl
theorem s158_50 : mSnd 158 50 (a_push 52 (.int (iZ 16))) := snd_bipush (by decide +kernel : decode (mBc 158) 50 = .ok (.bipush 16, 2)) (by decide +kernel) rfl
theorem s158_52 : mSnd 158 52 (a_iload 53 2) := snd_iload_n (by decide +kernel : decode (mBc 158) 52 = .ok (.iload_n 2, 1)) rfl rfl
theorem s158_53 : mSnd 158 53 (a_ii 54 (fun x y => x * y)) := snd_imul (by decide +kernel : decode (mBc 158) 53 = .ok (.imul, 1)) rfl
theorem s158_54 : mSnd 158 54 (a_iload 55 3) := snd_iload_n (by decide +kernel : decode (mBc 158) 54 = .ok (.iload_n 3, 1)) rfl rfl
theorem s158_55 : mSnd 158 55 (a_ii 56 (fun x y => x + y)) := snd_iadd (by decide +kernel : decode (mBc 158) 55 = .ok (.iadd, 1)) rfl
theorem s158_56 : mSnd 158 56 (a_aload 57 0) := snd_aload_n (by decide +kernel : decode (mBc 158) 56 = .ok (.aload_n 0, 1)) rfl rfl
theorem s158_57 : mSnd 158 57 (a_iload 58 1) := snd_iload_n (by decide +kernel : decode (mBc 158) 57 = .ok (.iload_n 1, 1)) rfl rfl
theorem s158_58 : mSnd 158 58 (a_aload 59 0) := snd_aload_n (by decide +kernel : decode (mBc 158) 58 = .ok (.aload_n 0, 1)) rfl rfl
theorem s158_59 : mSnd 158 59 (a_iload 60 1) := snd_iload_n (by decide +kernel : decode (mBc 158) 59 = .ok (.iload_n 1, 1)) rfl rfl
theorem s158_60 : mSnd 158 60 (a_invV 63 1 0 0 [(10, 139, 0, 0)]) := snd_invV v158_80 rfl rfl (by decide +kernel : decode (mBc 158) 60 = .ok (.invokevirtual 80, 3)) rfl
theorem s158_63 : mSnd 158 63 (a_invV 66 2 0 0 [(10, 144, 0, 0)]) := snd_invV v158_106 rfl rfl (by decide +kernel : decode (mBc 158) 63 = .ok (.invokevirtual 106, 3)) rfl
theorem s158_66 : mSnd 158 66 (a_aload 67 0) := snd_aload_n (by decide +kernel : decode (mBc 158) 66 = .ok (.aload_n 0, 1)) rfl rfl
theorem s158_67 : mSnd 158 67 (a_iload 68 1) := snd_iload_n (by decide +kernel : decode (mBc 158) 67 = .ok (.iload_n 1, 1)) rfl rfl
theorem s158_68 : mSnd 158 68 (a_aload 69 0) := snd_aload_n (by decide +kernel : decode (mBc 158) 68 = .ok (.aload_n 0, 1)) rfl rfl
theorem s158_69 : mSnd 158 69 (a_iload 70 1) := snd_iload_n (by decide +kernel : decode (mBc 158) 69 = .ok (.iload_n 1, 1)) rfl rfl
theorem s158_70 : mSnd 158 70 (a_invV 73 1 0 0 [(10, 139, 0, 0)]) := snd_invV v158_80 rfl rfl (by decide +kernel : decode (mBc 158) 70 = .ok (.invokevirtual 80, 3)) rfl
theorem s158_73 : mSnd 158 73 (a_iload 74 3) := snd_iload_n (by decide +kernel : decode (mBc 158) 73 = .ok (.iload_n 3, 1)) rfl rfl
theorem s158_74 : mSnd 158 74 (a_push 75 (.int (iZ (-1)))) := snd_iconst (by decide +kernel : decode (mBc 158) 74 = .ok (.iconst (-1), 1)) rfl rfl
theorem s158_75 : mSnd 158 75 (a_ii 76 (fun x y => x ^^^ y)) := snd_ixor (by decide +kernel : decode (mBc 158) 75 = .ok (.ixor, 1)) rfl
theorem s158_76 : mSnd 158 76 (a_ii 77 (fun x y => x &&& y)) := snd_iand (by decide +kernel : decode (mBc 158) 76 = .ok (.iand, 1)) rfl
theorem s158_77 : mSnd 158 77 (a_invV 80 2 0 0 [(10, 144, 0, 0)]) := snd_invV v158_106 rfl rfl (by decide +kernel : decode (mBc 158) 77 = .ok (.invokevirtual 106, 3)) rfl
theorem s158_80 : mSnd 158 80 (a_ll 81 (fun x y => x - y)) := snd_lsub (by decide +kernel : decode (mBc 158) 80 = .ok (.lsub, 1)) rfl
theorem s158_81 : mSnd 158 81 (a_last 82) := snd_last (by decide +kernel : decode (mBc 158) 81 = .ok (.lastore, 1)) rfl
theorem s158_82 : mSnd 158 82 (a_iinc 85 3 (iZ 1)) := snd_iinc (by decide +kernel : decode (mBc 158) 82 = .ok (.iinc 3 1, 3)) rfl (by decide) rfl
theorem s158_85 : mSnd 158 85 (a_goto 37) := snd_goto (by decide +kernel : decode (mBc 158) 85 = .ok (.goto (-48), 3)) rfl
theorem s158_88 : mSnd 158 88 (a_aload 89 0) := snd_aload_n (by decide +kernel : decode (mBc 158) 88 = .ok (.aload_n 0, 1)) rfl rfl
theorem s158_89 : mSnd 158 89 (a_invV 92 0 0 0 [(10, 146, 0, 0)]) := snd_invV v158_88 rfl rfl (by decide +kernel : decode (mBc 158) 89 = .ok (.invokevirtual 88, 3)) rfl
theorem s158_92 : mSnd 158 92 (a_iret 0 0) := snd_iret rfl rfl rfl (by decide +kernel : decode (mBc 158) 92 = .ok (.ireturn, 1))
theorem ok158 : mOkl2 158 ct158 := ⟨⟨s158_0, s158_1, s158_2, s158_5, s158_8, s158_10, s158_11, s158_12, s158_15, s158_17, s158_20, s158_22, trivial⟩, ⟨s158_23, s158_24, s158_25, s158_26, s158_29, s158_30, s158_31, s158_34, s158_35, s158_36, s158_37, s158_38, trivial⟩, ⟨s158_39, s158_40, s158_43, s158_46, s158_47, s158_50, s158_52, s158_53, s158_54, s158_55, s158_56, s158_57, trivial⟩, ⟨s158_58, s158_59, s158_60, s158_63, s158_66, s158_67, s158_68, s158_69, s158_70, s158_73, s158_74, s158_75, trivial⟩, ⟨s158_76, s158_77, s158_80, s158_81, s158_82, s158_85, s158_88, s158_89, s158_92, trivial⟩, trivial⟩
theorem s159_0 : mSnd 159 0 (a_aload 1 0) := snd_aload_n (by decide +kernel : decode (mBc 159) 0 = .ok (.aload_n 0, 1)) rfl rfl
theorem s159_1 : mSnd 159 1 (a_getf 4 0 [10]) := snd_getf f27 q902 (Or.inl rfl) (by decide +kernel : decode (mBc 159) 1 = .ok (.getfield 7, 3)) rfl
theorem s159_4 : mSnd 159 4 (a_if 7 10 (fun x => decide (¬ x = 0))) := snd_if_ne (by decide +kernel : decode (mBc 159) 4 = .ok (.ifCond .ne 6, 3)) rfl rfl
theorem s159_7 : mSnd 159 7 (a_push 9 (.int (iZ (-3)))) := snd_bipush (by decide +kernel : decode (mBc 159) 7 = .ok (.bipush (-3), 2)) (by decide +kernel) rfl
theorem s159_9 : mSnd 159 9 (a_iret 0 0) := snd_iret rfl rfl rfl (by decide +kernel : decode (mBc 159) 9 = .ok (.ireturn, 1))
theorem s159_10 : mSnd 159 10 (a_aload 11 0) := snd_aload_n (by decide +kernel : decode (mBc 159) 10 = .ok (.aload_n 0, 1)) rfl rfl
theorem s159_11 : mSnd 159 11 (a_dup 12) := snd_dup (by decide +kernel : decode (mBc 159) 11 = .ok (.dup, 1)) rfl
theorem s159_12 : mSnd 159 12 (a_getf 15 0 [10]) := snd_getf f27 q902 (Or.inl rfl) (by decide +kernel : decode (mBc 159) 12 = .ok (.getfield 7, 3)) rfl
theorem s159_15 : mSnd 159 15 (a_push 16 (.int (iZ 1))) := snd_iconst (by decide +kernel : decode (mBc 159) 15 = .ok (.iconst 1, 1)) rfl rfl
theorem s159_16 : mSnd 159 16 (a_ii 17 (fun x y => x - y)) := snd_isub (by decide +kernel : decode (mBc 159) 16 = .ok (.isub, 1)) rfl
theorem s159_17 : mSnd 159 17 (a_putf 20 0 0 [10]) := snd_putf f27 (by decide +kernel) q902 (Or.inl rfl) (Or.inl rfl) (by decide +kernel : decode (mBc 159) 17 = .ok (.putfield 7, 3)) rfl
theorem s159_20 : mSnd 159 20 (a_aload 21 0) := snd_aload_n (by decide +kernel : decode (mBc 159) 20 = .ok (.aload_n 0, 1)) rfl rfl
theorem s159_21 : mSnd 159 21 (a_getf 24 0 [10]) := snd_getf f27 q902 (Or.inl rfl) (by decide +kernel : decode (mBc 159) 21 = .ok (.getfield 7, 3)) rfl
theorem s159_24 : mSnd 159 24 (a_iret 0 0) := snd_iret rfl rfl rfl (by decide +kernel : decode (mBc 159) 24 = .ok (.ireturn, 1))
theorem ok159 : mOkl2 159 ct159 := ⟨⟨s159_0, s159_1, s159_4, s159_7, s159_9, s159_10, s159_11, s159_12, s159_15, s159_16, s159_17, s159_20, trivial⟩, ⟨s159_21, s159_24, trivial⟩, trivial⟩
theorem s160_0 : mSnd 160 0 (a_lload 1 1) := snd_lload_n (by decide +kernel : decode (mBc 160) 0 = .ok (.lload_n 1, 1)) rfl rfl
theorem s160_1 : mSnd 160 1 (a_push 2 (.long (lZ 0))) := snd_lconst (by decide +kernel : decode (mBc 160) 1 = .ok (.lconst 0, 1)) (by decide +kernel) rfl
theorem s160_2 : mSnd 160 2 (a_lcmp 3) := snd_lcmp (by decide +kernel : decode (mBc 160) 2 = .ok (.lcmp, 1)) rfl
theorem s160_3 : mSnd 160 3 (a_if 6 11 (fun x => decide (0 ≤ x))) := snd_if_ge (by decide +kernel : decode (mBc 160) 3 = .ok (.ifCond .ge 8, 3)) rfl rfl
theorem s160_6 : mSnd 160 6 (a_lload 7 1) := snd_lload_n (by decide +kernel : decode (mBc 160) 6 = .ok (.lload_n 1, 1)) rfl rfl
theorem s160_7 : mSnd 160 7 (a_l 8 (fun x => -x)) := snd_lneg (by decide +kernel : decode (mBc 160) 7 = .ok (.lneg, 1)) rfl
theorem s160_8 : mSnd 160 8 (a_goto 12) := snd_goto (by decide +kernel : decode (mBc 160) 8 = .ok (.goto 4, 3)) rfl
theorem s160_11 : mSnd 160 11 (a_lload 12 1) := snd_lload_n (by decide +kernel : decode (mBc 160) 11 = .ok (.lload_n 1, 1)) rfl rfl
theorem s160_12 : mSnd 160 12 (a_lstore 14 5) := snd_lstore (by decide +kernel : decode (mBc 160) 12 = .ok (.lstore 5, 2)) (by decide) rfl
theorem s160_14 : mSnd 160 14 (a_lload 15 3) := snd_lload_n (by decide +kernel : decode (mBc 160) 14 = .ok (.lload_n 3, 1)) rfl rfl
theorem s160_15 : mSnd 160 15 (a_push 16 (.long (lZ 0))) := snd_lconst (by decide +kernel : decode (mBc 160) 15 = .ok (.lconst 0, 1)) (by decide +kernel) rfl
theorem s160_16 : mSnd 160 16 (a_lcmp 17) := snd_lcmp (by decide +kernel : decode (mBc 160) 16 = .ok (.lcmp, 1)) rfl
theorem s160_17 : mSnd 160 17 (a_if 20 25 (fun x => decide (0 ≤ x))) := snd_if_ge (by decide +kernel : decode (mBc 160) 17 = .ok (.ifCond .ge 8, 3)) rfl rfl
theorem s160_20 : mSnd 160 20 (a_lload 21 3) := snd_lload_n (by decide +kernel : decode (mBc 160) 20 = .ok (.lload_n 3, 1)) rfl rfl
theorem s160_21 : mSnd 160 21 (a_l 22 (fun x => -x)) := snd_lneg (by decide +kernel : decode (mBc 160) 21 = .ok (.lneg, 1)) rfl
theorem s160_22 : mSnd 160 22 (a_goto 26) := snd_goto (by decide +kernel : decode (mBc 160) 22 = .ok (.goto 4, 3)) rfl
theorem s160_25 : mSnd 160 25 (a_lload 26 3) := snd_lload_n (by decide +kernel : decode (mBc 160) 25 = .ok (.lload_n 3, 1)) rfl rfl
theorem s160_26 : mSnd 160 26 (a_lstore 28 7) := snd_lstore (by decide +kernel : decode (mBc 160) 26 = .ok (.lstore 7, 2)) (by decide) rfl
theorem s160_28 : mSnd 160 28 (a_lload 30 7) := snd_lload (by decide +kernel : decode (mBc 160) 28 = .ok (.lload 7, 2)) rfl
theorem s160_30 : mSnd 160 30 (a_push 31 (.long (lZ 0))) := snd_lconst (by decide +kernel : decode (mBc 160) 30 = .ok (.lconst 0, 1)) (by decide +kernel) rfl
theorem s160_31 : mSnd 160 31 (a_lcmp 32) := snd_lcmp (by decide +kernel : decode (mBc 160) 31 = .ok (.lcmp, 1)) rfl
theorem s160_32 : mSnd 160 32 (a_if 35 53 (fun x => decide (x = 0))) := snd_if_eq (by decide +kernel : decode (mBc 160) 32 = .ok (.ifCond .eq 21, 3)) rfl rfl
theorem s160_35 : mSnd 160 35 (a_lload 37 5) := snd_lload (by decide +kernel : decode (mBc 160) 35 = .ok (.lload 5, 2)) rfl
theorem s160_37 : mSnd 160 37 (a_lload 39 7) := snd_lload (by decide +kernel : decode (mBc 160) 37 = .ok (.lload 7, 2)) rfl
theorem s160_39 : mSnd 160 39 (a_lld 40 (fun x y => x - x / y * y)) := snd_lrem (by decide +kernel : decode (mBc 160) 39 = .ok (.lrem, 1)) rfl
theorem s160_40 : mSnd 160 40 (a_lstore 42 9) := snd_lstore (by decide +kernel : decode (mBc 160) 40 = .ok (.lstore 9, 2)) (by decide) rfl
theorem s160_42 : mSnd 160 42 (a_lload 44 7) := snd_lload (by decide +kernel : decode (mBc 160) 42 = .ok (.lload 7, 2)) rfl
theorem s160_44 : mSnd 160 44 (a_lstore 46 5) := snd_lstore (by decide +kernel : decode (mBc 160) 44 = .ok (.lstore 5, 2)) (by decide) rfl
theorem s160_46 : mSnd 160 46 (a_lload 48 9) := snd_lload (by decide +kernel : decode (mBc 160) 46 = .ok (.lload 9, 2)) rfl
theorem s160_48 : mSnd 160 48 (a_lstore 50 7) := snd_lstore (by decide +kernel : decode (mBc 160) 48 = .ok (.lstore 7, 2)) (by decide) rfl
theorem s160_50 : mSnd 160 50 (a_goto 28) := snd_goto (by decide +kernel : decode (mBc 160) 50 = .ok (.goto (-22), 3)) rfl
theorem s160_53 : mSnd 160 53 (a_lload 55 5) := snd_lload (by decide +kernel : decode (mBc 160) 53 = .ok (.lload 5, 2)) rfl
theorem s160_55 : mSnd 160 55 (a_lret 0 0) := snd_lret rfl rfl rfl (by decide +kernel : decode (mBc 160) 55 = .ok (.lreturn, 1))
theorem ok160 : mOkl2 160 ct160 := ⟨⟨s160_0, s160_1, s160_2, s160_3, s160_6, s160_7, s160_8, s160_11, s160_12, s160_14, s160_15, s160_16, trivial⟩, ⟨s160_17, s160_20, s160_21, s160_22, s160_25, s160_26, s160_28, s160_30, s160_31, s160_32, s160_35, s160_37, trivial⟩, ⟨s160_39, s160_40, s160_42, s160_44, s160_46, s160_48, s160_50, s160_53, s160_55, trivial⟩, trivial⟩
theorem s161_0 : mSnd 161 0 (a_lload 1 1) := snd_lload_n (by decide +kernel : decode (mBc 161) 0 = .ok (.lload_n 1, 1)) rfl rfl
theorem s161_1 : mSnd 161 1 (a_push 2 (.long (lZ 0))) := snd_lconst (by decide +kernel : decode (mBc 161) 1 = .ok (.lconst 0, 1)) (by decide +kernel) rfl
theorem s161_2 : mSnd 161 2 (a_lcmp 3) := snd_lcmp (by decide +kernel : decode (mBc 161) 2 = .ok (.lcmp, 1)) rfl
theorem s161_3 : mSnd 161 3 (a_if 6 17 (fun x => decide (¬ x = 0))) := snd_if_ne (by decide +kernel : decode (mBc 161) 3 = .ok (.ifCond .ne 14, 3)) rfl rfl
theorem s161_6 : mSnd 161 6 (a_iload 8 5) := snd_iload (by decide +kernel : decode (mBc 161) 6 = .ok (.iload 5, 2)) rfl
theorem s161_8 : mSnd 161 8 (a_if 11 15 (fun x => decide (¬ x = 0))) := snd_if_ne (by decide +kernel : decode (mBc 161) 8 = .ok (.ifCond .ne 7, 3)) rfl rfl
theorem s161_11 : mSnd 161 11 (a_push 12 (.long (lZ 0))) := snd_lconst (by decide +kernel : decode (mBc 161) 11 = .ok (.lconst 0, 1)) (by decide +kernel) rfl
theorem s161_12 : mSnd 161 12 (a_goto 16) := snd_goto (by decide +kernel : decode (mBc 161) 12 = .ok (.goto 4, 3)) rfl
theorem s161_15 : mSnd 161 15 (a_push 16 (.long (lZ 1))) := snd_lconst (by decide +kernel : decode (mBc 161) 15 = .ok (.lconst 1, 1)) (by decide +kernel) rfl
theorem s161_16 : mSnd 161 16 (a_lret 0 0) := snd_lret rfl rfl rfl (by decide +kernel : decode (mBc 161) 16 = .ok (.lreturn, 1))
theorem s161_17 : mSnd 161 17 (a_lload 18 3) := snd_lload_n (by decide +kernel : decode (mBc 161) 17 = .ok (.lload_n 3, 1)) rfl rfl
theorem s161_18 : mSnd 161 18 (a_push 19 (.long (lZ 0))) := snd_lconst (by decide +kernel : decode (mBc 161) 18 = .ok (.lconst 0, 1)) (by decide +kernel) rfl
theorem s161_19 : mSnd 161 19 (a_lcmp 20) := snd_lcmp (by decide +kernel : decode (mBc 161) 19 = .ok (.lcmp, 1)) rfl
theorem s161_20 : mSnd 161 20 (a_if 23 33 (fun x => decide (0 ≤ x))) := snd_if_ge (by decide +kernel : decode (mBc 161) 20 = .ok (.ifCond .ge 13, 3)) rfl rfl
theorem s161_23 : mSnd 161 23 (a_aload 24 0) := snd_aload_n (by decide +kernel : decode (mBc 161) 23 = .ok (.aload_n 0, 1)) rfl rfl
theorem s161_24 : mSnd 161 24 (a_lload 25 1) := snd_lload_n (by decide +kernel : decode (mBc 161) 24 = .ok (.lload_n 1, 1)) rfl rfl
theorem s161_25 : mSnd 161 25 (a_lload 26 3) := snd_lload_n (by decide +kernel : decode (mBc 161) 25 = .ok (.lload_n 3, 1)) rfl rfl
theorem s161_26 : mSnd 161 26 (a_invV 29 2 0 0 [(10, 160, 0, 0)]) := snd_invV v161_121 rfl rfl (by decide +kernel : decode (mBc 161) 26 = .ok (.invokevirtual 121, 3)) rfl
theorem s161_29 : mSnd 161 29 (a_l 30 (fun x => -x)) := snd_lneg (by decide +kernel : decode (mBc 161) 29 = .ok (.lneg, 1)) rfl
theorem s161_30 : mSnd 161 30 (a_goto 39) := snd_goto (by decide +kernel : decode (mBc 161) 30 = .ok (.goto 9, 3)) rfl
theorem s161_33 : mSnd 161 33 (a_aload 34 0) := snd_aload_n (by decide +kernel : decode (mBc 161) 33 = .ok (.aload_n 0, 1)) rfl rfl
theorem s161_34 : mSnd 161 34 (a_lload 35 1) := snd_lload_n (by decide +kernel : decode (mBc 161) 34 = .ok (.lload_n 1, 1)) rfl rfl
theorem s161_35 : mSnd 161 35 (a_lload 36 3) := snd_lload_n (by decide +kernel : decode (mBc 161) 35 = .ok (.lload_n 3, 1)) rfl rfl
theorem s161_36 : mSnd 161 36 (a_invV 39 2 0 0 [(10, 160, 0, 0)]) := snd_invV v161_121 rfl rfl (by decide +kernel : decode (mBc 161) 36 = .ok (.invokevirtual 121, 3)) rfl
theorem s161_39 : mSnd 161 39 (a_lstore 41 6) := snd_lstore (by decide +kernel : decode (mBc 161) 39 = .ok (.lstore 6, 2)) (by decide) rfl
theorem s161_41 : mSnd 161 41 (a_iload 43 5) := snd_iload (by decide +kernel : decode (mBc 161) 41 = .ok (.iload 5, 2)) rfl
theorem s161_43 : mSnd 161 43 (a_if 46 53 (fun x => decide (¬ x = 0))) := snd_if_ne (by decide +kernel : decode (mBc 161) 43 = .ok (.ifCond .ne 10, 3)) rfl rfl
theorem s161_46 : mSnd 161 46 (a_lload 47 1) := snd_lload_n (by decide +kernel : decode (mBc 161) 46 = .ok (.lload_n 1, 1)) rfl rfl
theorem s161_47 : mSnd 161 47 (a_lload 49 6) := snd_lload (by decide +kernel : decode (mBc 161) 47 = .ok (.lload 6, 2)) rfl
theorem s161_49 : mSnd 161 49 (a_lld 50 (fun x y => x / y)) := snd_ldiv (by decide +kernel : decode (mBc 161) 49 = .ok (.ldiv, 1)) rfl
theorem s161_50 : mSnd 161 50 (a_goto 57) := snd_goto (by decide +kernel : decode (mBc 161) 50 = .ok (.goto 7, 3)) rfl
theorem s161_53 : mSnd 161 53 (a_lload 54 3) := snd_lload_n (by decide +kernel : decode (mBc 161) 53 = .ok (.lload_n 3, 1)) rfl rfl
theorem s161_54 : mSnd 161 54 (a_lload 56 6) := snd_lload (by decide +kernel : decode (mBc 161) 54 = .ok (.lload 6, 2)) rfl
theorem s161_56 : mSnd 161 56 (a_lld 57 (fun x y => x / y)) := snd_ldiv (by decide +kernel : decode (mBc 161) 56 = .ok (.ldiv, 1)) rfl
theorem s161_57 : mSnd 161 57 (a_lret 0 0) := snd_lret rfl rfl rfl (by decide +kernel : decode (mBc 161) 57 = .ok (.lreturn, 1))
theorem ok161 : mOkl2 161 ct161 := ⟨⟨s161_0, s161_1, s161_2, s161_3, s161_6, s161_8, s161_11, s161_12, s161_15, s161_16, s161_17, s161_18, trivial⟩, ⟨s161_19, s161_20, s161_23, s161_24, s161_25, s161_26, s161_29, s161_30, s161_33, s161_34, s161_35, s161_36, trivial⟩, ⟨s161_39, s161_41, s161_43, s161_46, s161_47, s161_49, s161_50, s161_53, s161_54, s161_56, s161_57, trivial⟩, trivial⟩
theorem s162_0 : mSnd 162 0 (a_aload 1 0) := snd_aload_n (by decide +kernel : decode (mBc 162) 0 = .ok (.aload_n 0, 1)) rfl rfl
theorem s162_1 : mSnd 162 1 (a_iload 2 1) := snd_iload_n (by decide +kernel : decode (mBc 162) 1 = .ok (.iload_n 1, 1)) rfl rfl
theorem s162_2 : mSnd 162 2 (a_iload 3 3) := snd_iload_n (by decide +kernel : decode (mBc 162) 2 = .ok (.iload_n 3, 1)) rfl rfl
theorem s162_3 : mSnd 162 3 (a_push 4 (.int (iZ 1))) := snd_iconst (by decide +kernel : decode (mBc 162) 3 = .ok (.iconst 1, 1)) rfl rfl
theorem s162_4 : mSnd 162 4 (a_iload 5 2) := snd_iload_n (by decide +kernel : decode (mBc 162) 4 = .ok (.iload_n 2, 1)) rfl rfl
theorem s162_5 : mSnd 162 5 (a_ii 6 (fun x y => x <<< (y &&& 31))) := snd_ishl (by decide +kernel : decode (mBc 162) 5 = .ok (.ishl, 1)) rfl
theorem s162_6 : mSnd 162 6 (a_ii 7 (fun x y => x ||| y)) := snd_ior (by decide +kernel : decode (mBc 162) 6 = .ok (.ior, 1)) rfl
theorem s162_7 : mSnd 162 7 (a_invV 10 2 0 0 [(10, 144, 0, 0)]) := snd_invV v162_106 rfl rfl (by decide +kernel : decode (mBc 162) 7 = .ok (.invokevirtual 106, 3)) rfl
theorem s162_10 : mSnd 162 10 (a_aload 11 0) := snd_aload_n (by decide +kernel : decode (mBc 162) 10 = .ok (.aload_n 0, 1)) rfl rfl
theorem s162_11 : mSnd 162 11 (a_iload 12 1) := snd_iload_n (by decide +kernel : decode (mBc 162) 11 = .ok (.iload_n 1, 1)) rfl rfl
theorem s162_12 : mSnd 162 12 (a_iload 13 3) := snd_iload_n (by decide +kernel : decode (mBc 162) 12 = .ok (.iload_n 3, 1)) rfl rfl
theorem s162_13 : mSnd 162 13 (a_invV 16 2 0 0 [(10, 144, 0, 0)]) := snd_invV v162_106 rfl rfl (by decide +kernel : decode (mBc 162) 13 = .ok (.invokevirtual 106, 3)) rfl
theorem s162_16 : mSnd 162 16 (a_ll 17 (fun x y => x - y)) := snd_lsub (by decide +kernel : decode (mBc 162) 16 = .ok (.lsub, 1)) rfl
theorem s162_17 : mSnd 162 17 (a_lret 0 0) := snd_lret rfl rfl rfl (by decide +kernel : decode (mBc 162) 17 = .ok (.lreturn, 1))
theorem ok162 : mOkl2 162 ct162 := ⟨⟨s162_0, s162_1, s162_2, s162_3, s162_4, s162_5, s162_6, s162_7, s162_10, s162_11, s162_12, s162_13, trivial⟩, ⟨s162_16, s162_17, trivial⟩, trivial⟩
theorem s163_0 : mSnd 163 0 (a_aload 1 0) := snd_aload_n (by decide +kernel : decode (mBc 163) 0 = .ok (.aload_n 0, 1)) rfl rfl
theorem s163_1 : mSnd 163 1 (a_iload 2 1) := snd_iload_n (by decide +kernel : decode (mBc 163) 1 = .ok (.iload_n 1, 1)) rfl rfl
theorem s163_2 : mSnd 163 2 (a_invV 5 1 0 0 [(10, 138, 0, 0)]) := snd_invV v163_92 rfl rfl (by decide +kernel : decode (mBc 163) 2 = .ok (.invokevirtual 92, 3)) rfl
theorem s163_5 : mSnd 163 5 (a_if 8 26 (fun x => decide (x = 0))) := snd_if_eq (by decide +kernel : decode (mBc 163) 5 = .ok (.ifCond .eq 21, 3)) rfl rfl
theorem s163_8 : mSnd 163 8 (a_aload 9 0) := snd_aload_n (by decide +kernel : decode (mBc 163) 8 = .ok (.aload_n 0, 1)) rfl rfl
theorem s163_9 : mSnd 163 9 (a_iload 10 1) := snd_iload_n (by decide +kernel : decode (mBc 163) 9 = .ok (.iload_n 1, 1)) rfl rfl
theorem s163_10 : mSnd 163 10 (a_iload 11 2) := snd_iload_n (by decide +kernel : decode (mBc 163) 10 = .ok (.iload_n 2, 1)) rfl rfl
theorem s163_11 : mSnd 163 11 (a_invV 14 2 0 0 [(10, 141, 0, 0)]) := snd_invV v163_125 rfl rfl (by decide +kernel : decode (mBc 163) 11 = .ok (.invokevirtual 125, 3)) rfl
theorem s163_14 : mSnd 163 14 (a_if 17 26 (fun x => decide (x = 0))) := snd_if_eq (by decide +kernel : decode (mBc 163) 14 = .ok (.ifCond .eq 12, 3)) rfl rfl
theorem s163_17 : mSnd 163 17 (a_aload 18 0) := snd_aload_n (by decide +kernel : decode (mBc 163) 17 = .ok (.aload_n 0, 1)) rfl rfl
theorem s163_18 : mSnd 163 18 (a_iload 19 1) := snd_iload_n (by decide +kernel : decode (mBc 163) 18 = .ok (.iload_n 1, 1)) rfl rfl
theorem s163_19 : mSnd 163 19 (a_iload 20 2) := snd_iload_n (by decide +kernel : decode (mBc 163) 19 = .ok (.iload_n 2, 1)) rfl rfl
theorem s163_20 : mSnd 163 20 (a_invV 23 2 0 0 [(10, 144, 0, 0)]) := snd_invV v163_106 rfl rfl (by decide +kernel : decode (mBc 163) 20 = .ok (.invokevirtual 106, 3)) rfl
theorem s163_23 : mSnd 163 23 (a_goto 29) := snd_goto (by decide +kernel : decode (mBc 163) 23 = .ok (.goto 6, 3)) rfl
theorem s163_26 : mSnd 163 26 (a_push 29 (.long (lZ (-4611686018427387904)))) := snd_ldc2 q1060 (by decide +kernel : decode (mBc 163) 26 = .ok (.ldc2_w 128, 3)) rfl
theorem s163_29 : mSnd 163 29 (a_lret 0 0) := snd_lret rfl rfl rfl (by decide +kernel : decode (mBc 163) 29 = .ok (.lreturn, 1))
theorem ok163 : mOkl2 163 ct163 := ⟨⟨s163_0, s163_1, s163_2, s163_5, s163_8, s163_9, s163_10, s163_11, s163_14, s163_17, s163_18, s163_19, trivial⟩, ⟨s163_20, s163_23, s163_26, s163_29, trivial⟩, trivial⟩
theorem s164_0 : mSnd 164 0 (a_aload 1 0) := snd_aload_n (by decide +kernel : decode (mBc 164) 0 = .ok (.aload_n 0, 1)) rfl rfl
theorem s164_1 : mSnd 164 1 (a_iload 2 1) := snd_iload_n (by decide +kernel : decode (mBc 164) 1 = .ok (.iload_n 1, 1)) rfl rfl
theorem s164_2 : mSnd 164 2 (a_invV 5 1 0 0 [(10, 138, 0, 0)]) := snd_invV v164_92 rfl rfl (by decide +kernel : decode (mBc 164) 2 = .ok (.invokevirtual 92, 3)) rfl
theorem s164_5 : mSnd 164 5 (a_if 8 44 (fun x => decide (x = 0))) := snd_if_eq (by decide +kernel : decode (mBc 164) 5 = .ok (.ifCond .eq 39, 3)) rfl rfl
theorem s164_8 : mSnd 164 8 (a_aload 9 0) := snd_aload_n (by decide +kernel : decode (mBc 164) 8 = .ok (.aload_n 0, 1)) rfl rfl
theorem s164_9 : mSnd 164 9 (a_iload 10 1) := snd_iload_n (by decide +kernel : decode (mBc 164) 9 = .ok (.iload_n 1, 1)) rfl rfl
theorem s164_10 : mSnd 164 10 (a_iload 11 2) := snd_iload_n (by decide +kernel : decode (mBc 164) 10 = .ok (.iload_n 2, 1)) rfl rfl
theorem s164_11 : mSnd 164 11 (a_invV 14 2 0 0 [(10, 143, 0, 0)]) := snd_invV v164_114 rfl rfl (by decide +kernel : decode (mBc 164) 11 = .ok (.invokevirtual 114, 3)) rfl
theorem s164_14 : mSnd 164 14 (a_if 17 44 (fun x => decide (x = 0))) := snd_if_eq (by decide +kernel : decode (mBc 164) 14 = .ok (.ifCond .eq 30, 3)) rfl rfl
theorem s164_17 : mSnd 164 17 (a_aload 18 0) := snd_aload_n (by decide +kernel : decode (mBc 164) 17 = .ok (.aload_n 0, 1)) rfl rfl
theorem s164_18 : mSnd 164 18 (a_iload 19 1) := snd_iload_n (by decide +kernel : decode (mBc 164) 18 = .ok (.iload_n 1, 1)) rfl rfl
theorem s164_19 : mSnd 164 19 (a_iload 20 3) := snd_iload_n (by decide +kernel : decode (mBc 164) 19 = .ok (.iload_n 3, 1)) rfl rfl
theorem s164_20 : mSnd 164 20 (a_invV 23 2 0 0 [(10, 141, 0, 0)]) := snd_invV v164_125 rfl rfl (by decide +kernel : decode (mBc 164) 20 = .ok (.invokevirtual 125, 3)) rfl
theorem s164_23 : mSnd 164 23 (a_if 26 44 (fun x => decide (x = 0))) := snd_if_eq (by decide +kernel : decode (mBc 164) 23 = .ok (.ifCond .eq 21, 3)) rfl rfl
theorem s164_26 : mSnd 164 26 (a_iload 27 3) := snd_iload_n (by decide +kernel : decode (mBc 164) 26 = .ok (.iload_n 3, 1)) rfl rfl
theorem s164_27 : mSnd 164 27 (a_iload 28 2) := snd_iload_n (by decide +kernel : decode (mBc 164) 27 = .ok (.iload_n 2, 1)) rfl rfl
theorem s164_28 : mSnd 164 28 (a_ii 29 (fun x y => x >>> (y &&& 31))) := snd_ishr (by decide +kernel : decode (mBc 164) 28 = .ok (.ishr, 1)) rfl
theorem s164_29 : mSnd 164 29 (a_push 30 (.int (iZ 1))) := snd_iconst (by decide +kernel : decode (mBc 164) 29 = .ok (.iconst 1, 1)) rfl rfl
theorem s164_30 : mSnd 164 30 (a_ii 31 (fun x y => x &&& y)) := snd_iand (by decide +kernel : decode (mBc 164) 30 = .ok (.iand, 1)) rfl
theorem s164_31 : mSnd 164 31 (a_if 34 44 (fun x => decide (¬ x = 0))) := snd_if_ne (by decide +kernel : decode (mBc 164) 31 = .ok (.ifCond .ne 13, 3)) rfl rfl
theorem s164_34 : mSnd 164 34 (a_aload 35 0) := snd_aload_n (by decide +kernel : decode (mBc 164) 34 = .ok (.aload_n 0, 1)) rfl rfl
theorem s164_35 : mSnd 164 35 (a_iload 36 1) := snd_iload_n (by decide +kernel : decode (mBc 164) 35 = .ok (.iload_n 1, 1)) rfl rfl
theorem s164_36 : mSnd 164 36 (a_iload 37 2) := snd_iload_n (by decide +kernel : decode (mBc 164) 36 = .ok (.iload_n 2, 1)) rfl rfl
theorem s164_37 : mSnd 164 37 (a_iload 38 3) := snd_iload_n (by decide +kernel : decode (mBc 164) 37 = .ok (.iload_n 3, 1)) rfl rfl
theorem s164_38 : mSnd 164 38 (a_invV 41 3 0 0 [(10, 162, 0, 0)]) := snd_invV v164_130 rfl rfl (by decide +kernel : decode (mBc 164) 38 = .ok (.invokevirtual 130, 3)) rfl
theorem s164_41 : mSnd 164 41 (a_goto 47) := snd_goto (by decide +kernel : decode (mBc 164) 41 = .ok (.goto 6, 3)) rfl
theorem s164_44 : mSnd 164 44 (a_push 47 (.long (lZ (-4611686018427387904)))) := snd_ldc2 q1060 (by decide +kernel : decode (mBc 164) 44 = .ok (.ldc2_w 128, 3)) rfl
theorem s164_47 : mSnd 164 47 (a_lret 0 0) := snd_lret rfl rfl rfl (by decide +kernel : decode (mBc 164) 47 = .ok (.lreturn, 1))
theorem ok164 : mOkl2 164 ct164 := ⟨⟨s164_0, s164_1, s164_2, s164_5, s164_8, s164_9, s164_10, s164_11, s164_14, s164_17, s164_18, s164_19, trivial⟩, ⟨s164_20, s164_23, s164_26, s164_27, s164_28, s164_29, s164_30, s164_31, s164_34, s164_35, s164_36, s164_37, trivial⟩, ⟨s164_38, s164_41, s164_44, s164_47, trivial⟩, trivial⟩
theorem s165_0 : mSnd 165 0 (a_push 1 (.long (lZ 1))) := snd_lconst (by decide +kernel : decode (mBc 165) 0 = .ok (.lconst 1, 1)) (by decide +kernel) rfl
theorem s165_1 : mSnd 165 1 (a_lstore 2 2) := snd_lstore_n (by decide +kernel : decode (mBc 165) 1 = .ok (.lstore_n 2, 1)) rfl (by decide) rfl
theorem s165_2 : mSnd 165 2 (a_push 3 (.int (iZ 2))) := snd_iconst (by decide +kernel : decode (mBc 165) 2 = .ok (.iconst 2, 1)) rfl rfl
theorem s165_3 : mSnd 165 3 (a_istore 5 4) := snd_istore (by decide +kernel : decode (mBc 165) 3 = .ok (.istore 4, 2)) (by decide) rfl
theorem s165_5 : mSnd 165 5 (a_iload 7 4) := snd_iload (by decide +kernel : decode (mBc 165) 5 = .ok (.iload 4, 2)) rfl
theorem s165_7 : mSnd 165 7 (a_iload 8 1) := snd_iload_n (by decide +kernel : decode (mBc 165) 7 = .ok (.iload_n 1, 1)) rfl rfl
theorem s165_8 : mSnd 165 8 (a_icmp 11 23 (fun x y => decide (y < x))) := snd_icmp_gt (by decide +kernel : decode (mBc 165) 8 = .ok (.if_icmp .gt 15, 3)) rfl rfl
theorem s165_11 : mSnd 165 11 (a_lload 12 2) := snd_lload_n (by decide +kernel : decode (mBc 165) 11 = .ok (.lload_n 2, 1)) rfl rfl
theorem s165_12 : mSnd 165 12 (a_iload 14 4) := snd_iload (by decide +kernel : decode (mBc 165) 12 = .ok (.iload 4, 2)) rfl
theorem s165_14 : mSnd 165 14 (a_i2l 15) := snd_i2l (by decide +kernel : decode (mBc 165) 14 = .ok (.i2l, 1)) rfl
theorem s165_15 : mSnd 165 15 (a_ll 16 (fun x y => x * y)) := snd_lmul (by decide +kernel : decode (mBc 165) 15 = .ok (.lmul, 1)) rfl
theorem s165_16 : mSnd 165 16 (a_lstore 17 2) := snd_lstore_n (by decide +kernel : decode (mBc 165) 16 = .ok (.lstore_n 2, 1)) rfl (by decide) rfl
theorem s165_17 : mSnd 165 17 (a_iinc 20 4 (iZ 1)) := snd_iinc (by decide +kernel : decode (mBc 165) 17 = .ok (.iinc 4 1, 3)) rfl (by decide) rfl
theorem s165_20 : mSnd 165 20 (a_goto 5) := snd_goto (by decide +kernel : decode (mBc 165) 20 = .ok (.goto (-15), 3)) rfl
theorem s165_23 : mSnd 165 23 (a_lload 24 2) := snd_lload_n (by decide +kernel : decode (mBc 165) 23 = .ok (.lload_n 2, 1)) rfl rfl
theorem s165_24 : mSnd 165 24 (a_lret 0 0) := snd_lret rfl rfl rfl (by decide +kernel : decode (mBc 165) 24 = .ok (.lreturn, 1))
theorem ok165 : mOkl2 165 ct165 := ⟨⟨s165_0, s165_1, s165_2, s165_3, s165_5, s165_7, s165_8, s165_11, s165_12, s165_14, s165_15, s165_16, trivial⟩, ⟨s165_17, s165_20, s165_23, s165_24, trivial⟩, trivial⟩
theorem s166_0 : mSnd 166 0 (a_push 1 (.long (lZ 0))) := snd_lconst (by decide +kernel : decode (mBc 166) 0 = .ok (.lconst 0, 1)) (by decide +kernel) rfl
theorem s166_1 : mSnd 166 1 (a_lstore 2 3) := snd_lstore_n (by decide +kernel : decode (mBc 166) 1 = .ok (.lstore_n 3, 1)) rfl (by decide) rfl
theorem s166_2 : mSnd 166 2 (a_push 3 (.int (iZ 0))) := snd_iconst (by decide +kernel : decode (mBc 166) 2 = .ok (.iconst 0, 1)) rfl rfl
theorem s166_3 : mSnd 166 3 (a_istore 5 5) := snd_istore (by decide +kernel : decode (mBc 166) 3 = .ok (.istore 5, 2)) (by decide) rfl
theorem s166_5 : mSnd 166 5 (a_iload 7 5) := snd_iload (by decide +kernel : decode (mBc 166) 5 = .ok (.iload 5, 2)) rfl
theorem s166_7 : mSnd 166 7 (a_aload 8 0) := snd_aload_n (by decide +kernel : decode (mBc 166) 7 = .ok (.aload_n 0, 1)) rfl rfl
theorem s166_8 : mSnd 166 8 (a_iload 9 1) := snd_iload_n (by decide +kernel : decode (mBc 166) 8 = .ok (.iload_n 1, 1)) rfl rfl
theorem s166_9 : mSnd 166 9 (a_invV 12 1 0 0 [(10, 139, 0, 0)]) := snd_invV v166_80 rfl rfl (by decide +kernel : decode (mBc 166) 9 = .ok (.invokevirtual 80, 3)) rfl
theorem s166_12 : mSnd 166 12 (a_icmp 15 72 (fun x y => decide (y < x))) := snd_icmp_gt (by decide +kernel : decode (mBc 166) 12 = .ok (.if_icmp .gt 60, 3)) rfl rfl
theorem s166_15 : mSnd 166 15 (a_iload 17 5) := snd_iload (by decide +kernel : decode (mBc 166) 15 = .ok (.iload 5, 2)) rfl
theorem s166_17 : mSnd 166 17 (a_iload 18 2) := snd_iload_n (by decide +kernel : decode (mBc 166) 17 = .ok (.iload_n 2, 1)) rfl rfl
theorem s166_18 : mSnd 166 18 (a_ii 19 (fun x y => x >>> (y &&& 31))) := snd_ishr (by decide +kernel : decode (mBc 166) 18 = .ok (.ishr, 1)) rfl
theorem s166_19 : mSnd 166 19 (a_push 20 (.int (iZ 1))) := snd_iconst (by decide +kernel : decode (mBc 166) 19 = .ok (.iconst 1, 1)) rfl rfl
theorem s166_20 : mSnd 166 20 (a_ii 21 (fun x y => x &&& y)) := snd_iand (by decide +kernel : decode (mBc 166) 20 = .ok (.iand, 1)) rfl
theorem s166_21 : mSnd 166 21 (a_if 24 66 (fun x => decide (¬ x = 0))) := snd_if_ne (by decide +kernel : decode (mBc 166) 21 = .ok (.ifCond .ne 45, 3)) rfl rfl
theorem s166_24 : mSnd 166 24 (a_lload 25 3) := snd_lload_n (by decide +kernel : decode (mBc 166) 24 = .ok (.lload_n 3, 1)) rfl rfl
theorem s166_25 : mSnd 166 25 (a_aload 26 0) := snd_aload_n (by decide +kernel : decode (mBc 166) 25 = .ok (.aload_n 0, 1)) rfl rfl
theorem s166_26 : mSnd 166 26 (a_aload 27 0) := snd_aload_n (by decide +kernel : decode (mBc 166) 26 = .ok (.aload_n 0, 1)) rfl rfl
theorem s166_27 : mSnd 166 27 (a_iload 29 5) := snd_iload (by decide +kernel : decode (mBc 166) 27 = .ok (.iload 5, 2)) rfl
theorem s166_29 : mSnd 166 29 (a_invV 32 1 0 0 [(10, 140, 0, 0)]) := snd_invV v166_103 rfl rfl (by decide +kernel : decode (mBc 166) 29 = .ok (.invokevirtual 103, 3)) rfl
theorem s166_32 : mSnd 166 32 (a_invV 35 1 0 0 [(10, 165, 0, 0)]) := snd_invV v166_134 rfl rfl (by decide +kernel : decode (mBc 166) 32 = .ok (.invokevirtual 134, 3)) rfl
theorem s166_35 : mSnd 166 35 (a_aload 36 0) := snd_aload_n (by decide +kernel : decode (mBc 166) 35 = .ok (.aload_n 0, 1)) rfl rfl
theorem s166_36 : mSnd 166 36 (a_aload 37 0) := snd_aload_n (by decide +kernel : decode (mBc 166) 36 = .ok (.aload_n 0, 1)) rfl rfl
theorem s166_37 : mSnd 166 37 (a_getf 40 2 [10]) := snd_getf f29 q904 (Or.inl rfl) (by decide +kernel : decode (mBc 166) 37 = .ok (.getfield 17, 3)) rfl
theorem s166_40 : mSnd 166 40 (a_iload 41 1) := snd_iload_n (by decide +kernel : decode (mBc 166) 40 = .ok (.iload_n 1, 1)) rfl rfl
theorem s166_41 : mSnd 166 41 (a_iald 42) := snd_iald (by decide +kernel : decode (mBc 166) 41 = .ok (.iaload, 1)) rfl
theorem s166_42 : mSnd 166 42 (a_aload 43 0) := snd_aload_n (by decide +kernel : decode (mBc 166) 42 = .ok (.aload_n 0, 1)) rfl rfl
theorem s166_43 : mSnd 166 43 (a_iload 45 5) := snd_iload (by decide +kernel : decode (mBc 166) 43 = .ok (.iload 5, 2)) rfl
theorem s166_45 : mSnd 166 45 (a_invV 48 1 0 0 [(10, 140, 0, 0)]) := snd_invV v166_103 rfl rfl (by decide +kernel : decode (mBc 166) 45 = .ok (.invokevirtual 103, 3)) rfl
theorem s166_48 : mSnd 166 48 (a_ii 49 (fun x y => x - y)) := snd_isub (by decide +kernel : decode (mBc 166) 48 = .ok (.isub, 1)) rfl
theorem s166_49 : mSnd 166 49 (a_push 50 (.int (iZ 1))) := snd_iconst (by decide +kernel : decode (mBc 166) 49 = .ok (.iconst 1, 1)) rfl rfl
theorem s166_50 : mSnd 166 50 (a_ii 51 (fun x y => x - y)) := snd_isub (by decide +kernel : decode (mBc 166) 50 = .ok (.isub, 1)) rfl
theorem s166_51 : mSnd 166 51 (a_invV 54 1 0 0 [(10, 165, 0, 0)]) := snd_invV v166_134 rfl rfl (by decide +kernel : decode (mBc 166) 51 = .ok (.invokevirtual 134, 3)) rfl
theorem s166_54 : mSnd 166 54 (a_ll 55 (fun x y => x * y)) := snd_lmul (by decide +kernel : decode (mBc 166) 54 = .ok (.lmul, 1)) rfl
theorem s166_55 : mSnd 166 55 (a_aload 56 0) := snd_aload_n (by decide +kernel : decode (mBc 166) 55 = .ok (.aload_n 0, 1)) rfl rfl
theorem s166_56 : mSnd 166 56 (a_iload 57 1) := snd_iload_n (by decide +kernel : decode (mBc 166) 56 = .ok (.iload_n 1, 1)) rfl rfl
theorem s166_57 : mSnd 166 57 (a_iload 58 2) := snd_iload_n (by decide +kernel : decode (mBc 166) 57 = .ok (.iload_n 2, 1)) rfl rfl
theorem s166_58 : mSnd 166 58 (a_iload 60 5) := snd_iload (by decide +kernel : decode (mBc 166) 58 = .ok (.iload 5, 2)) rfl
theorem s166_60 : mSnd 166 60 (a_invV 63 3 0 0 [(10, 162, 0, 0)]) := snd_invV v166_130 rfl rfl (by decide +kernel : decode (mBc 166) 60 = .ok (.invokevirtual 130, 3)) rfl
theorem s166_63 : mSnd 166 63 (a_ll 64 (fun x y => x * y)) := snd_lmul (by decide +kernel : decode (mBc 166) 63 = .ok (.lmul, 1)) rfl
theorem s166_64 : mSnd 166 64 (a_ll 65 (fun x y => x + y)) := snd_ladd (by decide +kernel : decode (mBc 166) 64 = .ok (.ladd, 1)) rfl
theorem s166_65 : mSnd 166 65 (a_lstore 66 3) := snd_lstore_n (by decide +kernel : decode (mBc 166) 65 = .ok (.lstore_n 3, 1)) rfl (by decide) rfl
theorem s166_66 : mSnd 166 66 (a_iinc 69 5 (iZ 1)) := snd_iinc (by decide +kernel : decode (mBc 166) 66 = .ok (.iinc 5 1, 3)) rfl (by decide) rfl
theorem s166_69 : mSnd 166 69 (a_goto 5) := snd_goto (by decide +kernel : decode (mBc 166) 69 = .ok (.goto (-64), 3)) rfl
theorem s166_72 : mSnd 166 72 (a_lload 73 3) := snd_lload_n (by decide +kernel : decode (mBc 166) 72 = .ok (.lload_n 3, 1)) rfl rfl
theorem s166_73 : mSnd 166 73 (a_lret 0 0) := snd_lret rfl rfl rfl (by decide +kernel : decode (mBc 166) 73 = .ok (.lreturn, 1))
theorem ok166 : mOkl2 166 ct166 := ⟨⟨s166_0, s166_1, s166_2, s166_3, s166_5, s166_7, s166_8, s166_9, s166_12, s166_15, s166_17, s166_18, trivial⟩, ⟨s166_19, s166_20, s166_21, s166_24, s166_25, s166_26, s166_27, s166_29, s166_32, s166_35, s166_36, s166_37, trivial⟩, ⟨s166_40, s166_41, s166_42, s166_43, s166_45, s166_48, s166_49, s166_50, s166_51, s166_54, s166_55, s166_56, trivial⟩, ⟨s166_57, s166_58, s166_60, s166_63, s166_64, s166_65, s166_66, s166_69, s166_72, s166_73, trivial⟩, trivial⟩
