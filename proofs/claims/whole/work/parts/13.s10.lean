theorem s185_0 : mSnd 185 0 (a_push 1 (.long (lZ 1))) := snd_lconst (by decide +kernel : decode (mBc 185) 0 = .ok (.lconst 1, 1)) (by decide +kernel) rfl
theorem s185_1 : mSnd 185 1 (a_lstore 3 4) := snd_lstore (by decide +kernel : decode (mBc 185) 1 = .ok (.lstore 4, 2)) (by decide) rfl
theorem s185_3 : mSnd 185 3 (a_push 4 (.int (iZ 0))) := snd_iconst (by decide +kernel : decode (mBc 185) 3 = .ok (.iconst 0, 1)) rfl rfl
theorem s185_4 : mSnd 185 4 (a_istore 6 6) := snd_istore (by decide +kernel : decode (mBc 185) 4 = .ok (.istore 6, 2)) (by decide) rfl
theorem s185_6 : mSnd 185 6 (a_iload 8 6) := snd_iload (by decide +kernel : decode (mBc 185) 6 = .ok (.iload 6, 2)) rfl
theorem s185_8 : mSnd 185 8 (a_iload 9 3) := snd_iload_n (by decide +kernel : decode (mBc 185) 8 = .ok (.iload_n 3, 1)) rfl rfl
theorem s185_9 : mSnd 185 9 (a_icmp 12 52 (fun x y => decide (y ≤ x))) := snd_icmp_ge (by decide +kernel : decode (mBc 185) 9 = .ok (.if_icmp .ge 43, 3)) rfl rfl
theorem s185_12 : mSnd 185 12 (a_aload 13 0) := snd_aload_n (by decide +kernel : decode (mBc 185) 12 = .ok (.aload_n 0, 1)) rfl rfl
theorem s185_13 : mSnd 185 13 (a_getf 16 4 [10]) := snd_getf f31 q906 (Or.inl rfl) (by decide +kernel : decode (mBc 185) 13 = .ok (.getfield 24, 3)) rfl
theorem s185_16 : mSnd 185 16 (a_push 17 (.int (iZ 5))) := snd_iconst (by decide +kernel : decode (mBc 185) 16 = .ok (.iconst 5, 1)) rfl rfl
theorem s185_17 : mSnd 185 17 (a_iload 19 6) := snd_iload (by decide +kernel : decode (mBc 185) 17 = .ok (.iload 6, 2)) rfl
theorem s185_19 : mSnd 185 19 (a_ii 20 (fun x y => x * y)) := snd_imul (by decide +kernel : decode (mBc 185) 19 = .ok (.imul, 1)) rfl
theorem s185_20 : mSnd 185 20 (a_push 21 (.int (iZ 4))) := snd_iconst (by decide +kernel : decode (mBc 185) 20 = .ok (.iconst 4, 1)) rfl rfl
theorem s185_21 : mSnd 185 21 (a_ii 22 (fun x y => x + y)) := snd_iadd (by decide +kernel : decode (mBc 185) 21 = .ok (.iadd, 1)) rfl
theorem s185_22 : mSnd 185 22 (a_lald 23) := snd_lald (by decide +kernel : decode (mBc 185) 22 = .ok (.laload, 1)) rfl
theorem s185_23 : mSnd 185 23 (a_push 24 (.long (lZ 0))) := snd_lconst (by decide +kernel : decode (mBc 185) 23 = .ok (.lconst 0, 1)) (by decide +kernel) rfl
theorem s185_24 : mSnd 185 24 (a_lcmp 25) := snd_lcmp (by decide +kernel : decode (mBc 185) 24 = .ok (.lcmp, 1)) rfl
theorem s185_25 : mSnd 185 25 (a_if 28 29 (fun x => decide (0 < x))) := snd_if_gt (by decide +kernel : decode (mBc 185) 25 = .ok (.ifCond .gt 4, 3)) rfl rfl
theorem s185_28 : mSnd 185 28 (a_vret 0 0) := snd_vret rfl rfl rfl (by decide +kernel : decode (mBc 185) 28 = .ok (.return_, 1))
theorem s185_29 : mSnd 185 29 (a_lload 31 4) := snd_lload (by decide +kernel : decode (mBc 185) 29 = .ok (.lload 4, 2)) rfl
theorem s185_31 : mSnd 185 31 (a_aload 32 0) := snd_aload_n (by decide +kernel : decode (mBc 185) 31 = .ok (.aload_n 0, 1)) rfl rfl
theorem s185_32 : mSnd 185 32 (a_getf 35 4 [10]) := snd_getf f31 q906 (Or.inl rfl) (by decide +kernel : decode (mBc 185) 32 = .ok (.getfield 24, 3)) rfl
theorem s185_35 : mSnd 185 35 (a_push 36 (.int (iZ 5))) := snd_iconst (by decide +kernel : decode (mBc 185) 35 = .ok (.iconst 5, 1)) rfl rfl
theorem s185_36 : mSnd 185 36 (a_iload 38 6) := snd_iload (by decide +kernel : decode (mBc 185) 36 = .ok (.iload 6, 2)) rfl
theorem s185_38 : mSnd 185 38 (a_ii 39 (fun x y => x * y)) := snd_imul (by decide +kernel : decode (mBc 185) 38 = .ok (.imul, 1)) rfl
theorem s185_39 : mSnd 185 39 (a_iload 41 6) := snd_iload (by decide +kernel : decode (mBc 185) 39 = .ok (.iload 6, 2)) rfl
theorem s185_41 : mSnd 185 41 (a_ii 42 (fun x y => x + y)) := snd_iadd (by decide +kernel : decode (mBc 185) 41 = .ok (.iadd, 1)) rfl
theorem s185_42 : mSnd 185 42 (a_lald 43) := snd_lald (by decide +kernel : decode (mBc 185) 42 = .ok (.laload, 1)) rfl
theorem s185_43 : mSnd 185 43 (a_ll 44 (fun x y => x * y)) := snd_lmul (by decide +kernel : decode (mBc 185) 43 = .ok (.lmul, 1)) rfl
theorem s185_44 : mSnd 185 44 (a_lstore 46 4) := snd_lstore (by decide +kernel : decode (mBc 185) 44 = .ok (.lstore 4, 2)) (by decide) rfl
theorem s185_46 : mSnd 185 46 (a_iinc 49 6 (iZ 1)) := snd_iinc (by decide +kernel : decode (mBc 185) 46 = .ok (.iinc 6 1, 3)) rfl (by decide) rfl
theorem s185_49 : mSnd 185 49 (a_goto 6) := snd_goto (by decide +kernel : decode (mBc 185) 49 = .ok (.goto (-43), 3)) rfl
theorem s185_52 : mSnd 185 52 (a_aload 53 0) := snd_aload_n (by decide +kernel : decode (mBc 185) 52 = .ok (.aload_n 0, 1)) rfl rfl
theorem s185_53 : mSnd 185 53 (a_iload 54 1) := snd_iload_n (by decide +kernel : decode (mBc 185) 53 = .ok (.iload_n 1, 1)) rfl rfl
theorem s185_54 : mSnd 185 54 (a_aload 55 0) := snd_aload_n (by decide +kernel : decode (mBc 185) 54 = .ok (.aload_n 0, 1)) rfl rfl
theorem s185_55 : mSnd 185 55 (a_iload 56 1) := snd_iload_n (by decide +kernel : decode (mBc 185) 55 = .ok (.iload_n 1, 1)) rfl rfl
theorem s185_56 : mSnd 185 56 (a_invV 59 1 0 0 [(10, 139, 0, 0)]) := snd_invV v185_80 rfl rfl (by decide +kernel : decode (mBc 185) 56 = .ok (.invokevirtual 80, 3)) rfl
theorem s185_59 : mSnd 185 59 (a_invV 62 2 0 0 [(10, 144, 0, 0)]) := snd_invV v185_106 rfl rfl (by decide +kernel : decode (mBc 185) 59 = .ok (.invokevirtual 106, 3)) rfl
theorem s185_62 : mSnd 185 62 (a_l 63 (fun x => -x)) := snd_lneg (by decide +kernel : decode (mBc 185) 62 = .ok (.lneg, 1)) rfl
theorem s185_63 : mSnd 185 63 (a_lload 65 4) := snd_lload (by decide +kernel : decode (mBc 185) 63 = .ok (.lload 4, 2)) rfl
theorem s185_65 : mSnd 185 65 (a_ll 66 (fun x y => x * y)) := snd_lmul (by decide +kernel : decode (mBc 185) 65 = .ok (.lmul, 1)) rfl
theorem s185_66 : mSnd 185 66 (a_lstore 68 6) := snd_lstore (by decide +kernel : decode (mBc 185) 66 = .ok (.lstore 6, 2)) (by decide) rfl
theorem s185_68 : mSnd 185 68 (a_push 69 (.long (lZ 0))) := snd_lconst (by decide +kernel : decode (mBc 185) 68 = .ok (.lconst 0, 1)) (by decide +kernel) rfl
theorem s185_69 : mSnd 185 69 (a_lstore 71 8) := snd_lstore (by decide +kernel : decode (mBc 185) 69 = .ok (.lstore 8, 2)) (by decide) rfl
theorem s185_71 : mSnd 185 71 (a_push 72 (.int (iZ 0))) := snd_iconst (by decide +kernel : decode (mBc 185) 71 = .ok (.iconst 0, 1)) rfl rfl
theorem s185_72 : mSnd 185 72 (a_istore 74 10) := snd_istore (by decide +kernel : decode (mBc 185) 72 = .ok (.istore 10, 2)) (by decide) rfl
theorem s185_74 : mSnd 185 74 (a_push 75 (.int (iZ 1))) := snd_iconst (by decide +kernel : decode (mBc 185) 74 = .ok (.iconst 1, 1)) rfl rfl
theorem s185_75 : mSnd 185 75 (a_istore 77 11) := snd_istore (by decide +kernel : decode (mBc 185) 75 = .ok (.istore 11, 2)) (by decide) rfl
theorem s185_77 : mSnd 185 77 (a_iload 79 11) := snd_iload (by decide +kernel : decode (mBc 185) 77 = .ok (.iload 11, 2)) rfl
theorem s185_79 : mSnd 185 79 (a_aload 80 0) := snd_aload_n (by decide +kernel : decode (mBc 185) 79 = .ok (.aload_n 0, 1)) rfl rfl
theorem s185_80 : mSnd 185 80 (a_iload 81 1) := snd_iload_n (by decide +kernel : decode (mBc 185) 80 = .ok (.iload_n 1, 1)) rfl rfl
theorem s185_81 : mSnd 185 81 (a_invV 84 1 0 0 [(10, 139, 0, 0)]) := snd_invV v185_80 rfl rfl (by decide +kernel : decode (mBc 185) 81 = .ok (.invokevirtual 80, 3)) rfl
theorem s185_84 : mSnd 185 84 (a_icmp 87 161 (fun x y => decide (y ≤ x))) := snd_icmp_ge (by decide +kernel : decode (mBc 185) 84 = .ok (.if_icmp .ge 77, 3)) rfl rfl
theorem s185_87 : mSnd 185 87 (a_iload 88 2) := snd_iload_n (by decide +kernel : decode (mBc 185) 87 = .ok (.iload_n 2, 1)) rfl rfl
theorem s185_88 : mSnd 185 88 (a_iload 90 11) := snd_iload (by decide +kernel : decode (mBc 185) 88 = .ok (.iload 11, 2)) rfl
theorem s185_90 : mSnd 185 90 (a_push 91 (.int (iZ 1))) := snd_iconst (by decide +kernel : decode (mBc 185) 90 = .ok (.iconst 1, 1)) rfl rfl
theorem s185_91 : mSnd 185 91 (a_ii 92 (fun x y => x - y)) := snd_isub (by decide +kernel : decode (mBc 185) 91 = .ok (.isub, 1)) rfl
theorem s185_92 : mSnd 185 92 (a_ii 93 (fun x y => x >>> (y &&& 31))) := snd_ishr (by decide +kernel : decode (mBc 185) 92 = .ok (.ishr, 1)) rfl
theorem s185_93 : mSnd 185 93 (a_push 94 (.int (iZ 1))) := snd_iconst (by decide +kernel : decode (mBc 185) 93 = .ok (.iconst 1, 1)) rfl rfl
theorem s185_94 : mSnd 185 94 (a_ii 95 (fun x y => x &&& y)) := snd_iand (by decide +kernel : decode (mBc 185) 94 = .ok (.iand, 1)) rfl
theorem s185_95 : mSnd 185 95 (a_if 98 101 (fun x => decide (¬ x = 0))) := snd_if_ne (by decide +kernel : decode (mBc 185) 95 = .ok (.ifCond .ne 6, 3)) rfl rfl
theorem s185_98 : mSnd 185 98 (a_goto 155) := snd_goto (by decide +kernel : decode (mBc 185) 98 = .ok (.goto 57, 3)) rfl
theorem s185_101 : mSnd 185 101 (a_aload 102 0) := snd_aload_n (by decide +kernel : decode (mBc 185) 101 = .ok (.aload_n 0, 1)) rfl rfl
theorem s185_102 : mSnd 185 102 (a_getf 105 4 [10]) := snd_getf f31 q906 (Or.inl rfl) (by decide +kernel : decode (mBc 185) 102 = .ok (.getfield 24, 3)) rfl
theorem s185_105 : mSnd 185 105 (a_push 106 (.int (iZ 5))) := snd_iconst (by decide +kernel : decode (mBc 185) 105 = .ok (.iconst 5, 1)) rfl rfl
theorem s185_106 : mSnd 185 106 (a_iload 108 10) := snd_iload (by decide +kernel : decode (mBc 185) 106 = .ok (.iload 10, 2)) rfl
theorem s185_108 : mSnd 185 108 (a_ii 109 (fun x y => x * y)) := snd_imul (by decide +kernel : decode (mBc 185) 108 = .ok (.imul, 1)) rfl
theorem s185_109 : mSnd 185 109 (a_push 110 (.int (iZ 4))) := snd_iconst (by decide +kernel : decode (mBc 185) 109 = .ok (.iconst 4, 1)) rfl rfl
theorem s185_110 : mSnd 185 110 (a_ii 111 (fun x y => x + y)) := snd_iadd (by decide +kernel : decode (mBc 185) 110 = .ok (.iadd, 1)) rfl
theorem s185_111 : mSnd 185 111 (a_lald 112) := snd_lald (by decide +kernel : decode (mBc 185) 111 = .ok (.laload, 1)) rfl
theorem s185_112 : mSnd 185 112 (a_lload 114 4) := snd_lload (by decide +kernel : decode (mBc 185) 112 = .ok (.lload 4, 2)) rfl
theorem s185_114 : mSnd 185 114 (a_aload 115 0) := snd_aload_n (by decide +kernel : decode (mBc 185) 114 = .ok (.aload_n 0, 1)) rfl rfl
theorem s185_115 : mSnd 185 115 (a_getf 118 4 [10]) := snd_getf f31 q906 (Or.inl rfl) (by decide +kernel : decode (mBc 185) 115 = .ok (.getfield 24, 3)) rfl
theorem s185_118 : mSnd 185 118 (a_push 119 (.int (iZ 5))) := snd_iconst (by decide +kernel : decode (mBc 185) 118 = .ok (.iconst 5, 1)) rfl rfl
theorem s185_119 : mSnd 185 119 (a_iload 121 10) := snd_iload (by decide +kernel : decode (mBc 185) 119 = .ok (.iload 10, 2)) rfl
theorem s185_121 : mSnd 185 121 (a_ii 122 (fun x y => x * y)) := snd_imul (by decide +kernel : decode (mBc 185) 121 = .ok (.imul, 1)) rfl
theorem s185_122 : mSnd 185 122 (a_iload 124 10) := snd_iload (by decide +kernel : decode (mBc 185) 122 = .ok (.iload 10, 2)) rfl
theorem s185_124 : mSnd 185 124 (a_ii 125 (fun x y => x + y)) := snd_iadd (by decide +kernel : decode (mBc 185) 124 = .ok (.iadd, 1)) rfl
theorem s185_125 : mSnd 185 125 (a_lald 126) := snd_lald (by decide +kernel : decode (mBc 185) 125 = .ok (.laload, 1)) rfl
theorem s185_126 : mSnd 185 126 (a_lld 127 (fun x y => x / y)) := snd_ldiv (by decide +kernel : decode (mBc 185) 126 = .ok (.ldiv, 1)) rfl
theorem s185_127 : mSnd 185 127 (a_ll 128 (fun x y => x * y)) := snd_lmul (by decide +kernel : decode (mBc 185) 127 = .ok (.lmul, 1)) rfl
theorem s185_128 : mSnd 185 128 (a_lstore 130 12) := snd_lstore (by decide +kernel : decode (mBc 185) 128 = .ok (.lstore 12, 2)) (by decide) rfl
theorem s185_130 : mSnd 185 130 (a_lload 132 6) := snd_lload (by decide +kernel : decode (mBc 185) 130 = .ok (.lload 6, 2)) rfl
theorem s185_132 : mSnd 185 132 (a_lload 134 12) := snd_lload (by decide +kernel : decode (mBc 185) 132 = .ok (.lload 12, 2)) rfl
theorem s185_134 : mSnd 185 134 (a_aload 135 0) := snd_aload_n (by decide +kernel : decode (mBc 185) 134 = .ok (.aload_n 0, 1)) rfl rfl
theorem s185_135 : mSnd 185 135 (a_iload 136 1) := snd_iload_n (by decide +kernel : decode (mBc 185) 135 = .ok (.iload_n 1, 1)) rfl rfl
theorem s185_136 : mSnd 185 136 (a_iload 138 11) := snd_iload (by decide +kernel : decode (mBc 185) 136 = .ok (.iload 11, 2)) rfl
theorem s185_138 : mSnd 185 138 (a_invV 141 2 0 0 [(10, 144, 0, 0)]) := snd_invV v185_106 rfl rfl (by decide +kernel : decode (mBc 185) 138 = .ok (.invokevirtual 106, 3)) rfl
theorem s185_141 : mSnd 185 141 (a_ll 142 (fun x y => x * y)) := snd_lmul (by decide +kernel : decode (mBc 185) 141 = .ok (.lmul, 1)) rfl
theorem s185_142 : mSnd 185 142 (a_ll 143 (fun x y => x + y)) := snd_ladd (by decide +kernel : decode (mBc 185) 142 = .ok (.ladd, 1)) rfl
theorem s185_143 : mSnd 185 143 (a_lstore 145 6) := snd_lstore (by decide +kernel : decode (mBc 185) 143 = .ok (.lstore 6, 2)) (by decide) rfl
theorem s185_145 : mSnd 185 145 (a_lload 147 8) := snd_lload (by decide +kernel : decode (mBc 185) 145 = .ok (.lload 8, 2)) rfl
theorem s185_147 : mSnd 185 147 (a_lload 149 12) := snd_lload (by decide +kernel : decode (mBc 185) 147 = .ok (.lload 12, 2)) rfl
theorem s185_149 : mSnd 185 149 (a_ll 150 (fun x y => x + y)) := snd_ladd (by decide +kernel : decode (mBc 185) 149 = .ok (.ladd, 1)) rfl
theorem s185_150 : mSnd 185 150 (a_lstore 152 8) := snd_lstore (by decide +kernel : decode (mBc 185) 150 = .ok (.lstore 8, 2)) (by decide) rfl
theorem s185_152 : mSnd 185 152 (a_iinc 155 10 (iZ 1)) := snd_iinc (by decide +kernel : decode (mBc 185) 152 = .ok (.iinc 10 1, 3)) rfl (by decide) rfl
theorem s185_155 : mSnd 185 155 (a_iinc 158 11 (iZ 1)) := snd_iinc (by decide +kernel : decode (mBc 185) 155 = .ok (.iinc 11 1, 3)) rfl (by decide) rfl
theorem s185_158 : mSnd 185 158 (a_goto 77) := snd_goto (by decide +kernel : decode (mBc 185) 158 = .ok (.goto (-81), 3)) rfl
theorem s185_161 : mSnd 185 161 (a_aload 162 0) := snd_aload_n (by decide +kernel : decode (mBc 185) 161 = .ok (.aload_n 0, 1)) rfl rfl
theorem s185_162 : mSnd 185 162 (a_getf 165 9 [10]) := snd_getf f36 q911 (Or.inl rfl) (by decide +kernel : decode (mBc 185) 162 = .ok (.getfield 40, 3)) rfl
theorem s185_165 : mSnd 185 165 (a_push 166 (.long (lZ 0))) := snd_lconst (by decide +kernel : decode (mBc 185) 165 = .ok (.lconst 0, 1)) (by decide +kernel) rfl
theorem s185_166 : mSnd 185 166 (a_lcmp 167) := snd_lcmp (by decide +kernel : decode (mBc 185) 166 = .ok (.lcmp, 1)) rfl
theorem s185_167 : mSnd 185 167 (a_if 170 189 (fun x => decide (x = 0))) := snd_if_eq (by decide +kernel : decode (mBc 185) 167 = .ok (.ifCond .eq 22, 3)) rfl rfl
theorem s185_170 : mSnd 185 170 (a_lload 172 6) := snd_lload (by decide +kernel : decode (mBc 185) 170 = .ok (.lload 6, 2)) rfl
theorem s185_172 : mSnd 185 172 (a_aload 173 0) := snd_aload_n (by decide +kernel : decode (mBc 185) 172 = .ok (.aload_n 0, 1)) rfl rfl
theorem s185_173 : mSnd 185 173 (a_getf 176 9 [10]) := snd_getf f36 q911 (Or.inl rfl) (by decide +kernel : decode (mBc 185) 173 = .ok (.getfield 40, 3)) rfl
theorem s185_176 : mSnd 185 176 (a_ll 177 (fun x y => x * y)) := snd_lmul (by decide +kernel : decode (mBc 185) 176 = .ok (.lmul, 1)) rfl
theorem s185_177 : mSnd 185 177 (a_aload 178 0) := snd_aload_n (by decide +kernel : decode (mBc 185) 177 = .ok (.aload_n 0, 1)) rfl rfl
theorem s185_178 : mSnd 185 178 (a_getf 181 8 [10]) := snd_getf f35 q910 (Or.inl rfl) (by decide +kernel : decode (mBc 185) 178 = .ok (.getfield 36, 3)) rfl
theorem s185_181 : mSnd 185 181 (a_lload 183 8) := snd_lload (by decide +kernel : decode (mBc 185) 181 = .ok (.lload 8, 2)) rfl
theorem s185_183 : mSnd 185 183 (a_ll 184 (fun x y => x * y)) := snd_lmul (by decide +kernel : decode (mBc 185) 183 = .ok (.lmul, 1)) rfl
theorem s185_184 : mSnd 185 184 (a_lcmp 185) := snd_lcmp (by decide +kernel : decode (mBc 185) 184 = .ok (.lcmp, 1)) rfl
theorem s185_185 : mSnd 185 185 (a_if 188 189 (fun x => decide (0 < x))) := snd_if_gt (by decide +kernel : decode (mBc 185) 185 = .ok (.ifCond .gt 4, 3)) rfl rfl
theorem s185_188 : mSnd 185 188 (a_vret 0 0) := snd_vret rfl rfl rfl (by decide +kernel : decode (mBc 185) 188 = .ok (.return_, 1))
theorem s185_189 : mSnd 185 189 (a_aload 190 0) := snd_aload_n (by decide +kernel : decode (mBc 185) 189 = .ok (.aload_n 0, 1)) rfl rfl
theorem s185_190 : mSnd 185 190 (a_aload 191 0) := snd_aload_n (by decide +kernel : decode (mBc 185) 190 = .ok (.aload_n 0, 1)) rfl rfl
theorem s185_191 : mSnd 185 191 (a_lload 193 6) := snd_lload (by decide +kernel : decode (mBc 185) 191 = .ok (.lload 6, 2)) rfl
theorem s185_193 : mSnd 185 193 (a_lload 195 8) := snd_lload (by decide +kernel : decode (mBc 185) 193 = .ok (.lload 8, 2)) rfl
theorem s185_195 : mSnd 185 195 (a_push 196 (.int (iZ 0))) := snd_iconst (by decide +kernel : decode (mBc 185) 195 = .ok (.iconst 0, 1)) rfl rfl
theorem s185_196 : mSnd 185 196 (a_invV 199 3 0 0 [(10, 161, 0, 0)]) := snd_invV v185_150 rfl rfl (by decide +kernel : decode (mBc 185) 196 = .ok (.invokevirtual 150, 3)) rfl
theorem s185_199 : mSnd 185 199 (a_putf 202 8 1 [10]) := snd_putf f35 (by decide +kernel) q910 (Or.inl rfl) (Or.inl rfl) (by decide +kernel : decode (mBc 185) 199 = .ok (.putfield 36, 3)) rfl
theorem s185_202 : mSnd 185 202 (a_aload 203 0) := snd_aload_n (by decide +kernel : decode (mBc 185) 202 = .ok (.aload_n 0, 1)) rfl rfl
theorem s185_203 : mSnd 185 203 (a_aload 204 0) := snd_aload_n (by decide +kernel : decode (mBc 185) 203 = .ok (.aload_n 0, 1)) rfl rfl
theorem s185_204 : mSnd 185 204 (a_lload 206 6) := snd_lload (by decide +kernel : decode (mBc 185) 204 = .ok (.lload 6, 2)) rfl
theorem s185_206 : mSnd 185 206 (a_lload 208 8) := snd_lload (by decide +kernel : decode (mBc 185) 206 = .ok (.lload 8, 2)) rfl
theorem s185_208 : mSnd 185 208 (a_push 209 (.int (iZ 1))) := snd_iconst (by decide +kernel : decode (mBc 185) 208 = .ok (.iconst 1, 1)) rfl rfl
theorem s185_209 : mSnd 185 209 (a_invV 212 3 0 0 [(10, 161, 0, 0)]) := snd_invV v185_150 rfl rfl (by decide +kernel : decode (mBc 185) 209 = .ok (.invokevirtual 150, 3)) rfl
theorem s185_212 : mSnd 185 212 (a_putf 215 9 1 [10]) := snd_putf f36 (by decide +kernel) q911 (Or.inl rfl) (Or.inl rfl) (by decide +kernel : decode (mBc 185) 212 = .ok (.putfield 40, 3)) rfl
theorem s185_215 : mSnd 185 215 (a_push 216 (.int (iZ 0))) := snd_iconst (by decide +kernel : decode (mBc 185) 215 = .ok (.iconst 0, 1)) rfl rfl
theorem s185_216 : mSnd 185 216 (a_istore 218 10) := snd_istore (by decide +kernel : decode (mBc 185) 216 = .ok (.istore 10, 2)) (by decide) rfl
theorem s185_218 : mSnd 185 218 (a_push 219 (.int (iZ 1))) := snd_iconst (by decide +kernel : decode (mBc 185) 218 = .ok (.iconst 1, 1)) rfl rfl
theorem s185_219 : mSnd 185 219 (a_istore 221 11) := snd_istore (by decide +kernel : decode (mBc 185) 219 = .ok (.istore 11, 2)) (by decide) rfl
theorem s185_221 : mSnd 185 221 (a_iload 223 11) := snd_iload (by decide +kernel : decode (mBc 185) 221 = .ok (.iload 11, 2)) rfl
theorem s185_223 : mSnd 185 223 (a_aload 224 0) := snd_aload_n (by decide +kernel : decode (mBc 185) 223 = .ok (.aload_n 0, 1)) rfl rfl
theorem s185_224 : mSnd 185 224 (a_iload 225 1) := snd_iload_n (by decide +kernel : decode (mBc 185) 224 = .ok (.iload_n 1, 1)) rfl rfl
theorem s185_225 : mSnd 185 225 (a_invV 228 1 0 0 [(10, 139, 0, 0)]) := snd_invV v185_80 rfl rfl (by decide +kernel : decode (mBc 185) 225 = .ok (.invokevirtual 80, 3)) rfl
theorem s185_228 : mSnd 185 228 (a_icmp 231 340 (fun x y => decide (y ≤ x))) := snd_icmp_ge (by decide +kernel : decode (mBc 185) 228 = .ok (.if_icmp .ge 112, 3)) rfl rfl
theorem s185_231 : mSnd 185 231 (a_aload 232 0) := snd_aload_n (by decide +kernel : decode (mBc 185) 231 = .ok (.aload_n 0, 1)) rfl rfl
theorem s185_232 : mSnd 185 232 (a_getf 235 10 [10]) := snd_getf f37 q912 (Or.inl rfl) (by decide +kernel : decode (mBc 185) 232 = .ok (.getfield 43, 3)) rfl
theorem s185_235 : mSnd 185 235 (a_iload 237 11) := snd_iload (by decide +kernel : decode (mBc 185) 235 = .ok (.iload 11, 2)) rfl
theorem s185_237 : mSnd 185 237 (a_push 238 (.long (lZ 0))) := snd_lconst (by decide +kernel : decode (mBc 185) 237 = .ok (.lconst 0, 1)) (by decide +kernel) rfl
theorem s185_238 : mSnd 185 238 (a_last 239) := snd_last (by decide +kernel : decode (mBc 185) 238 = .ok (.lastore, 1)) rfl
theorem s185_239 : mSnd 185 239 (a_aload 240 0) := snd_aload_n (by decide +kernel : decode (mBc 185) 239 = .ok (.aload_n 0, 1)) rfl rfl
theorem s185_240 : mSnd 185 240 (a_getf 243 11 [10]) := snd_getf f38 q913 (Or.inl rfl) (by decide +kernel : decode (mBc 185) 240 = .ok (.getfield 46, 3)) rfl
theorem s185_243 : mSnd 185 243 (a_iload 245 11) := snd_iload (by decide +kernel : decode (mBc 185) 243 = .ok (.iload 11, 2)) rfl
theorem s185_245 : mSnd 185 245 (a_push 246 (.long (lZ 1))) := snd_lconst (by decide +kernel : decode (mBc 185) 245 = .ok (.lconst 1, 1)) (by decide +kernel) rfl
theorem s185_246 : mSnd 185 246 (a_last 247) := snd_last (by decide +kernel : decode (mBc 185) 246 = .ok (.lastore, 1)) rfl
theorem s185_247 : mSnd 185 247 (a_iload 248 2) := snd_iload_n (by decide +kernel : decode (mBc 185) 247 = .ok (.iload_n 2, 1)) rfl rfl
theorem s185_248 : mSnd 185 248 (a_iload 250 11) := snd_iload (by decide +kernel : decode (mBc 185) 248 = .ok (.iload 11, 2)) rfl
theorem s185_250 : mSnd 185 250 (a_push 251 (.int (iZ 1))) := snd_iconst (by decide +kernel : decode (mBc 185) 250 = .ok (.iconst 1, 1)) rfl rfl
theorem s185_251 : mSnd 185 251 (a_ii 252 (fun x y => x - y)) := snd_isub (by decide +kernel : decode (mBc 185) 251 = .ok (.isub, 1)) rfl
theorem s185_252 : mSnd 185 252 (a_ii 253 (fun x y => x >>> (y &&& 31))) := snd_ishr (by decide +kernel : decode (mBc 185) 252 = .ok (.ishr, 1)) rfl
theorem s185_253 : mSnd 185 253 (a_push 254 (.int (iZ 1))) := snd_iconst (by decide +kernel : decode (mBc 185) 253 = .ok (.iconst 1, 1)) rfl rfl
theorem s185_254 : mSnd 185 254 (a_ii 255 (fun x y => x &&& y)) := snd_iand (by decide +kernel : decode (mBc 185) 254 = .ok (.iand, 1)) rfl
theorem s185_255 : mSnd 185 255 (a_if 258 261 (fun x => decide (¬ x = 0))) := snd_if_ne (by decide +kernel : decode (mBc 185) 255 = .ok (.ifCond .ne 6, 3)) rfl rfl
theorem s185_258 : mSnd 185 258 (a_goto 334) := snd_goto (by decide +kernel : decode (mBc 185) 258 = .ok (.goto 76, 3)) rfl
theorem s185_261 : mSnd 185 261 (a_aload 262 0) := snd_aload_n (by decide +kernel : decode (mBc 185) 261 = .ok (.aload_n 0, 1)) rfl rfl
theorem s185_262 : mSnd 185 262 (a_getf 265 10 [10]) := snd_getf f37 q912 (Or.inl rfl) (by decide +kernel : decode (mBc 185) 262 = .ok (.getfield 43, 3)) rfl
theorem s185_265 : mSnd 185 265 (a_iload 267 11) := snd_iload (by decide +kernel : decode (mBc 185) 265 = .ok (.iload 11, 2)) rfl
theorem s185_267 : mSnd 185 267 (a_aload 268 0) := snd_aload_n (by decide +kernel : decode (mBc 185) 267 = .ok (.aload_n 0, 1)) rfl rfl
theorem s185_268 : mSnd 185 268 (a_aload 269 0) := snd_aload_n (by decide +kernel : decode (mBc 185) 268 = .ok (.aload_n 0, 1)) rfl rfl
theorem s185_269 : mSnd 185 269 (a_getf 272 4 [10]) := snd_getf f31 q906 (Or.inl rfl) (by decide +kernel : decode (mBc 185) 269 = .ok (.getfield 24, 3)) rfl
theorem s185_272 : mSnd 185 272 (a_push 273 (.int (iZ 5))) := snd_iconst (by decide +kernel : decode (mBc 185) 272 = .ok (.iconst 5, 1)) rfl rfl
theorem s185_273 : mSnd 185 273 (a_iload 275 10) := snd_iload (by decide +kernel : decode (mBc 185) 273 = .ok (.iload 10, 2)) rfl
theorem s185_275 : mSnd 185 275 (a_ii 276 (fun x y => x * y)) := snd_imul (by decide +kernel : decode (mBc 185) 275 = .ok (.imul, 1)) rfl
theorem s185_276 : mSnd 185 276 (a_push 277 (.int (iZ 4))) := snd_iconst (by decide +kernel : decode (mBc 185) 276 = .ok (.iconst 4, 1)) rfl rfl
theorem s185_277 : mSnd 185 277 (a_ii 278 (fun x y => x + y)) := snd_iadd (by decide +kernel : decode (mBc 185) 277 = .ok (.iadd, 1)) rfl
theorem s185_278 : mSnd 185 278 (a_lald 279) := snd_lald (by decide +kernel : decode (mBc 185) 278 = .ok (.laload, 1)) rfl
theorem s185_279 : mSnd 185 279 (a_aload 280 0) := snd_aload_n (by decide +kernel : decode (mBc 185) 279 = .ok (.aload_n 0, 1)) rfl rfl
theorem s185_280 : mSnd 185 280 (a_getf 283 4 [10]) := snd_getf f31 q906 (Or.inl rfl) (by decide +kernel : decode (mBc 185) 280 = .ok (.getfield 24, 3)) rfl
theorem s185_283 : mSnd 185 283 (a_push 284 (.int (iZ 5))) := snd_iconst (by decide +kernel : decode (mBc 185) 283 = .ok (.iconst 5, 1)) rfl rfl
theorem s185_284 : mSnd 185 284 (a_iload 286 10) := snd_iload (by decide +kernel : decode (mBc 185) 284 = .ok (.iload 10, 2)) rfl
theorem s185_286 : mSnd 185 286 (a_ii 287 (fun x y => x * y)) := snd_imul (by decide +kernel : decode (mBc 185) 286 = .ok (.imul, 1)) rfl
theorem s185_287 : mSnd 185 287 (a_iload 289 10) := snd_iload (by decide +kernel : decode (mBc 185) 287 = .ok (.iload 10, 2)) rfl
theorem s185_289 : mSnd 185 289 (a_ii 290 (fun x y => x + y)) := snd_iadd (by decide +kernel : decode (mBc 185) 289 = .ok (.iadd, 1)) rfl
theorem s185_290 : mSnd 185 290 (a_lald 291) := snd_lald (by decide +kernel : decode (mBc 185) 290 = .ok (.laload, 1)) rfl
theorem s185_291 : mSnd 185 291 (a_push 292 (.int (iZ 0))) := snd_iconst (by decide +kernel : decode (mBc 185) 291 = .ok (.iconst 0, 1)) rfl rfl
theorem s185_292 : mSnd 185 292 (a_invV 295 3 0 0 [(10, 161, 0, 0)]) := snd_invV v185_150 rfl rfl (by decide +kernel : decode (mBc 185) 292 = .ok (.invokevirtual 150, 3)) rfl
theorem s185_295 : mSnd 185 295 (a_last 296) := snd_last (by decide +kernel : decode (mBc 185) 295 = .ok (.lastore, 1)) rfl
theorem s185_296 : mSnd 185 296 (a_aload 297 0) := snd_aload_n (by decide +kernel : decode (mBc 185) 296 = .ok (.aload_n 0, 1)) rfl rfl
theorem s185_297 : mSnd 185 297 (a_getf 300 11 [10]) := snd_getf f38 q913 (Or.inl rfl) (by decide +kernel : decode (mBc 185) 297 = .ok (.getfield 46, 3)) rfl
theorem s185_300 : mSnd 185 300 (a_iload 302 11) := snd_iload (by decide +kernel : decode (mBc 185) 300 = .ok (.iload 11, 2)) rfl
theorem s185_302 : mSnd 185 302 (a_aload 303 0) := snd_aload_n (by decide +kernel : decode (mBc 185) 302 = .ok (.aload_n 0, 1)) rfl rfl
theorem s185_303 : mSnd 185 303 (a_aload 304 0) := snd_aload_n (by decide +kernel : decode (mBc 185) 303 = .ok (.aload_n 0, 1)) rfl rfl
theorem s185_304 : mSnd 185 304 (a_getf 307 4 [10]) := snd_getf f31 q906 (Or.inl rfl) (by decide +kernel : decode (mBc 185) 304 = .ok (.getfield 24, 3)) rfl
theorem s185_307 : mSnd 185 307 (a_push 308 (.int (iZ 5))) := snd_iconst (by decide +kernel : decode (mBc 185) 307 = .ok (.iconst 5, 1)) rfl rfl
theorem s185_308 : mSnd 185 308 (a_iload 310 10) := snd_iload (by decide +kernel : decode (mBc 185) 308 = .ok (.iload 10, 2)) rfl
theorem s185_310 : mSnd 185 310 (a_ii 311 (fun x y => x * y)) := snd_imul (by decide +kernel : decode (mBc 185) 310 = .ok (.imul, 1)) rfl
theorem s185_311 : mSnd 185 311 (a_push 312 (.int (iZ 4))) := snd_iconst (by decide +kernel : decode (mBc 185) 311 = .ok (.iconst 4, 1)) rfl rfl
theorem s185_312 : mSnd 185 312 (a_ii 313 (fun x y => x + y)) := snd_iadd (by decide +kernel : decode (mBc 185) 312 = .ok (.iadd, 1)) rfl
theorem s185_313 : mSnd 185 313 (a_lald 314) := snd_lald (by decide +kernel : decode (mBc 185) 313 = .ok (.laload, 1)) rfl
theorem s185_314 : mSnd 185 314 (a_aload 315 0) := snd_aload_n (by decide +kernel : decode (mBc 185) 314 = .ok (.aload_n 0, 1)) rfl rfl
theorem s185_315 : mSnd 185 315 (a_getf 318 4 [10]) := snd_getf f31 q906 (Or.inl rfl) (by decide +kernel : decode (mBc 185) 315 = .ok (.getfield 24, 3)) rfl
theorem s185_318 : mSnd 185 318 (a_push 319 (.int (iZ 5))) := snd_iconst (by decide +kernel : decode (mBc 185) 318 = .ok (.iconst 5, 1)) rfl rfl
theorem s185_319 : mSnd 185 319 (a_iload 321 10) := snd_iload (by decide +kernel : decode (mBc 185) 319 = .ok (.iload 10, 2)) rfl
theorem s185_321 : mSnd 185 321 (a_ii 322 (fun x y => x * y)) := snd_imul (by decide +kernel : decode (mBc 185) 321 = .ok (.imul, 1)) rfl
theorem s185_322 : mSnd 185 322 (a_iload 324 10) := snd_iload (by decide +kernel : decode (mBc 185) 322 = .ok (.iload 10, 2)) rfl
theorem s185_324 : mSnd 185 324 (a_ii 325 (fun x y => x + y)) := snd_iadd (by decide +kernel : decode (mBc 185) 324 = .ok (.iadd, 1)) rfl
theorem s185_325 : mSnd 185 325 (a_lald 326) := snd_lald (by decide +kernel : decode (mBc 185) 325 = .ok (.laload, 1)) rfl
theorem s185_326 : mSnd 185 326 (a_push 327 (.int (iZ 1))) := snd_iconst (by decide +kernel : decode (mBc 185) 326 = .ok (.iconst 1, 1)) rfl rfl
theorem s185_327 : mSnd 185 327 (a_invV 330 3 0 0 [(10, 161, 0, 0)]) := snd_invV v185_150 rfl rfl (by decide +kernel : decode (mBc 185) 327 = .ok (.invokevirtual 150, 3)) rfl
theorem s185_330 : mSnd 185 330 (a_last 331) := snd_last (by decide +kernel : decode (mBc 185) 330 = .ok (.lastore, 1)) rfl
theorem s185_331 : mSnd 185 331 (a_iinc 334 10 (iZ 1)) := snd_iinc (by decide +kernel : decode (mBc 185) 331 = .ok (.iinc 10 1, 3)) rfl (by decide) rfl
theorem s185_334 : mSnd 185 334 (a_iinc 337 11 (iZ 1)) := snd_iinc (by decide +kernel : decode (mBc 185) 334 = .ok (.iinc 11 1, 3)) rfl (by decide) rfl
theorem s185_337 : mSnd 185 337 (a_goto 221) := snd_goto (by decide +kernel : decode (mBc 185) 337 = .ok (.goto (-116), 3)) rfl
theorem s185_340 : mSnd 185 340 (a_vret 0 0) := snd_vret rfl rfl rfl (by decide +kernel : decode (mBc 185) 340 = .ok (.return_, 1))
theorem ok185 : mOkl2 185 ct185 := ⟨⟨s185_0, s185_1, s185_3, s185_4, s185_6, s185_8, s185_9, s185_12, s185_13, s185_16, s185_17, s185_19, trivial⟩, ⟨s185_20, s185_21, s185_22, s185_23, s185_24, s185_25, s185_28, s185_29, s185_31, s185_32, s185_35, s185_36, trivial⟩, ⟨s185_38, s185_39, s185_41, s185_42, s185_43, s185_44, s185_46, s185_49, s185_52, s185_53, s185_54, s185_55, trivial⟩, ⟨s185_56, s185_59, s185_62, s185_63, s185_65, s185_66, s185_68, s185_69, s185_71, s185_72, s185_74, s185_75, trivial⟩, ⟨s185_77, s185_79, s185_80, s185_81, s185_84, s185_87, s185_88, s185_90, s185_91, s185_92, s185_93, s185_94, trivial⟩, ⟨s185_95, s185_98, s185_101, s185_102, s185_105, s185_106, s185_108, s185_109, s185_110, s185_111, s185_112, s185_114, trivial⟩, ⟨s185_115, s185_118, s185_119, s185_121, s185_122, s185_124, s185_125, s185_126, s185_127, s185_128, s185_130, s185_132, trivial⟩, ⟨s185_134, s185_135, s185_136, s185_138, s185_141, s185_142, s185_143, s185_145, s185_147, s185_149, s185_150, s185_152, trivial⟩, ⟨s185_155, s185_158, s185_161, s185_162, s185_165, s185_166, s185_167, s185_170, s185_172, s185_173, s185_176, s185_177, trivial⟩, ⟨s185_178, s185_181, s185_183, s185_184, s185_185, s185_188, s185_189, s185_190, s185_191, s185_193, s185_195, s185_196, trivial⟩, ⟨s185_199, s185_202, s185_203, s185_204, s185_206, s185_208, s185_209, s185_212, s185_215, s185_216, s185_218, s185_219, trivial⟩, ⟨s185_221, s185_223, s185_224, s185_225, s185_228, s185_231, s185_232, s185_235, s185_237, s185_238, s185_239, s185_240, trivial⟩, ⟨s185_243, s185_245, s185_246, s185_247, s185_248, s185_250, s185_251, s185_252, s185_253, s185_254, s185_255, s185_258, trivial⟩, ⟨s185_261, s185_262, s185_265, s185_267, s185_268, s185_269, s185_272, s185_273, s185_275, s185_276, s185_277, s185_278, trivial⟩, ⟨s185_279, s185_280, s185_283, s185_284, s185_286, s185_287, s185_289, s185_290, s185_291, s185_292, s185_295, s185_296, trivial⟩, ⟨s185_297, s185_300, s185_302, s185_303, s185_304, s185_307, s185_308, s185_310, s185_311, s185_312, s185_313, s185_314, trivial⟩, ⟨s185_315, s185_318, s185_319, s185_321, s185_322, s185_324, s185_325, s185_326, s185_327, s185_330, s185_331, s185_334, trivial⟩, ⟨s185_337, s185_340, trivial⟩, trivial⟩
theorem s186_0 : mSnd 186 0 (a_aload 1 0) := snd_aload_n (by decide +kernel : decode (mBc 186) 0 = .ok (.aload_n 0, 1)) rfl rfl
theorem s186_1 : mSnd 186 1 (a_push 2 (.long (lZ 0))) := snd_lconst (by decide +kernel : decode (mBc 186) 1 = .ok (.lconst 0, 1)) (by decide +kernel) rfl
theorem s186_2 : mSnd 186 2 (a_putf 5 9 1 [10]) := snd_putf f36 (by decide +kernel) q911 (Or.inl rfl) (Or.inl rfl) (by decide +kernel : decode (mBc 186) 2 = .ok (.putfield 40, 3)) rfl
theorem s186_5 : mSnd 186 5 (a_aload 6 0) := snd_aload_n (by decide +kernel : decode (mBc 186) 5 = .ok (.aload_n 0, 1)) rfl rfl
theorem s186_6 : mSnd 186 6 (a_getf 9 2 [10]) := snd_getf f29 q904 (Or.inl rfl) (by decide +kernel : decode (mBc 186) 6 = .ok (.getfield 17, 3)) rfl
theorem s186_9 : mSnd 186 9 (a_iload 10 1) := snd_iload_n (by decide +kernel : decode (mBc 186) 9 = .ok (.iload_n 1, 1)) rfl rfl
theorem s186_10 : mSnd 186 10 (a_iald 11) := snd_iald (by decide +kernel : decode (mBc 186) 10 = .ok (.iaload, 1)) rfl
theorem s186_11 : mSnd 186 11 (a_istore 12 2) := snd_istore_n (by decide +kernel : decode (mBc 186) 11 = .ok (.istore_n 2, 1)) rfl (by decide) rfl
theorem s186_12 : mSnd 186 12 (a_aload 13 0) := snd_aload_n (by decide +kernel : decode (mBc 186) 12 = .ok (.aload_n 0, 1)) rfl rfl
theorem s186_13 : mSnd 186 13 (a_iload 14 1) := snd_iload_n (by decide +kernel : decode (mBc 186) 13 = .ok (.iload_n 1, 1)) rfl rfl
theorem s186_14 : mSnd 186 14 (a_invV 17 1 0 0 [(10, 139, 0, 0)]) := snd_invV v186_80 rfl rfl (by decide +kernel : decode (mBc 186) 14 = .ok (.invokevirtual 80, 3)) rfl
theorem s186_17 : mSnd 186 17 (a_push 18 (.int (iZ 1))) := snd_iconst (by decide +kernel : decode (mBc 186) 17 = .ok (.iconst 1, 1)) rfl rfl
theorem s186_18 : mSnd 186 18 (a_ii 19 (fun x y => x - y)) := snd_isub (by decide +kernel : decode (mBc 186) 18 = .ok (.isub, 1)) rfl
theorem s186_19 : mSnd 186 19 (a_istore 20 3) := snd_istore_n (by decide +kernel : decode (mBc 186) 19 = .ok (.istore_n 3, 1)) rfl (by decide) rfl
theorem s186_20 : mSnd 186 20 (a_push 21 (.int (iZ 1))) := snd_iconst (by decide +kernel : decode (mBc 186) 20 = .ok (.iconst 1, 1)) rfl rfl
theorem s186_21 : mSnd 186 21 (a_istore 23 4) := snd_istore (by decide +kernel : decode (mBc 186) 21 = .ok (.istore 4, 2)) (by decide) rfl
theorem s186_23 : mSnd 186 23 (a_iload 25 4) := snd_iload (by decide +kernel : decode (mBc 186) 23 = .ok (.iload 4, 2)) rfl
theorem s186_25 : mSnd 186 25 (a_push 26 (.int (iZ 1))) := snd_iconst (by decide +kernel : decode (mBc 186) 25 = .ok (.iconst 1, 1)) rfl rfl
theorem s186_26 : mSnd 186 26 (a_iload 27 3) := snd_iload_n (by decide +kernel : decode (mBc 186) 26 = .ok (.iload_n 3, 1)) rfl rfl
theorem s186_27 : mSnd 186 27 (a_ii 28 (fun x y => x <<< (y &&& 31))) := snd_ishl (by decide +kernel : decode (mBc 186) 27 = .ok (.ishl, 1)) rfl
theorem s186_28 : mSnd 186 28 (a_icmp 31 197 (fun x y => decide (y ≤ x))) := snd_icmp_ge (by decide +kernel : decode (mBc 186) 28 = .ok (.if_icmp .ge 169, 3)) rfl rfl
theorem s186_31 : mSnd 186 31 (a_push 32 (.int (iZ 0))) := snd_iconst (by decide +kernel : decode (mBc 186) 31 = .ok (.iconst 0, 1)) rfl rfl
theorem s186_32 : mSnd 186 32 (a_istore 34 5) := snd_istore (by decide +kernel : decode (mBc 186) 32 = .ok (.istore 5, 2)) (by decide) rfl
theorem s186_34 : mSnd 186 34 (a_push 35 (.int (iZ 0))) := snd_iconst (by decide +kernel : decode (mBc 186) 34 = .ok (.iconst 0, 1)) rfl rfl
theorem s186_35 : mSnd 186 35 (a_istore 37 6) := snd_istore (by decide +kernel : decode (mBc 186) 35 = .ok (.istore 6, 2)) (by decide) rfl
theorem s186_37 : mSnd 186 37 (a_iload 39 6) := snd_iload (by decide +kernel : decode (mBc 186) 37 = .ok (.iload 6, 2)) rfl
theorem s186_39 : mSnd 186 39 (a_iload 40 3) := snd_iload_n (by decide +kernel : decode (mBc 186) 39 = .ok (.iload_n 3, 1)) rfl rfl
theorem s186_40 : mSnd 186 40 (a_icmp 43 61 (fun x y => decide (y ≤ x))) := snd_icmp_ge (by decide +kernel : decode (mBc 186) 40 = .ok (.if_icmp .ge 21, 3)) rfl rfl
theorem s186_43 : mSnd 186 43 (a_iload 45 5) := snd_iload (by decide +kernel : decode (mBc 186) 43 = .ok (.iload 5, 2)) rfl
theorem s186_45 : mSnd 186 45 (a_iload 47 4) := snd_iload (by decide +kernel : decode (mBc 186) 45 = .ok (.iload 4, 2)) rfl
theorem s186_47 : mSnd 186 47 (a_iload 49 6) := snd_iload (by decide +kernel : decode (mBc 186) 47 = .ok (.iload 6, 2)) rfl
theorem s186_49 : mSnd 186 49 (a_ii 50 (fun x y => x >>> (y &&& 31))) := snd_ishr (by decide +kernel : decode (mBc 186) 49 = .ok (.ishr, 1)) rfl
theorem s186_50 : mSnd 186 50 (a_push 51 (.int (iZ 1))) := snd_iconst (by decide +kernel : decode (mBc 186) 50 = .ok (.iconst 1, 1)) rfl rfl
theorem s186_51 : mSnd 186 51 (a_ii 52 (fun x y => x &&& y)) := snd_iand (by decide +kernel : decode (mBc 186) 51 = .ok (.iand, 1)) rfl
theorem s186_52 : mSnd 186 52 (a_ii 53 (fun x y => x + y)) := snd_iadd (by decide +kernel : decode (mBc 186) 52 = .ok (.iadd, 1)) rfl
theorem s186_53 : mSnd 186 53 (a_istore 55 5) := snd_istore (by decide +kernel : decode (mBc 186) 53 = .ok (.istore 5, 2)) (by decide) rfl
theorem s186_55 : mSnd 186 55 (a_iinc 58 6 (iZ 1)) := snd_iinc (by decide +kernel : decode (mBc 186) 55 = .ok (.iinc 6 1, 3)) rfl (by decide) rfl
theorem s186_58 : mSnd 186 58 (a_goto 37) := snd_goto (by decide +kernel : decode (mBc 186) 58 = .ok (.goto (-21), 3)) rfl
theorem s186_61 : mSnd 186 61 (a_iload 63 5) := snd_iload (by decide +kernel : decode (mBc 186) 61 = .ok (.iload 5, 2)) rfl
theorem s186_63 : mSnd 186 63 (a_iload 64 2) := snd_iload_n (by decide +kernel : decode (mBc 186) 63 = .ok (.iload_n 2, 1)) rfl rfl
theorem s186_64 : mSnd 186 64 (a_icmp 67 70 (fun x y => decide (x ≤ y))) := snd_icmp_le (by decide +kernel : decode (mBc 186) 64 = .ok (.if_icmp .le 6, 3)) rfl rfl
theorem s186_67 : mSnd 186 67 (a_goto 191) := snd_goto (by decide +kernel : decode (mBc 186) 67 = .ok (.goto 124, 3)) rfl
theorem s186_70 : mSnd 186 70 (a_aload 71 0) := snd_aload_n (by decide +kernel : decode (mBc 186) 70 = .ok (.aload_n 0, 1)) rfl rfl
theorem s186_71 : mSnd 186 71 (a_invV 74 0 0 0 [(10, 177, 0, 0)]) := snd_invV v186_171 rfl rfl (by decide +kernel : decode (mBc 186) 71 = .ok (.invokevirtual 171, 3)) rfl
theorem s186_74 : mSnd 186 74 (a_push 75 (.int (iZ 0))) := snd_iconst (by decide +kernel : decode (mBc 186) 74 = .ok (.iconst 0, 1)) rfl rfl
theorem s186_75 : mSnd 186 75 (a_istore 77 6) := snd_istore (by decide +kernel : decode (mBc 186) 75 = .ok (.istore 6, 2)) (by decide) rfl
theorem s186_77 : mSnd 186 77 (a_push 78 (.int (iZ 0))) := snd_iconst (by decide +kernel : decode (mBc 186) 77 = .ok (.iconst 0, 1)) rfl rfl
theorem s186_78 : mSnd 186 78 (a_istore 80 7) := snd_istore (by decide +kernel : decode (mBc 186) 78 = .ok (.istore 7, 2)) (by decide) rfl
theorem s186_80 : mSnd 186 80 (a_iload 82 7) := snd_iload (by decide +kernel : decode (mBc 186) 80 = .ok (.iload 7, 2)) rfl
theorem s186_82 : mSnd 186 82 (a_iload 83 3) := snd_iload_n (by decide +kernel : decode (mBc 186) 82 = .ok (.iload_n 3, 1)) rfl rfl
theorem s186_83 : mSnd 186 83 (a_icmp 86 145 (fun x y => decide (y ≤ x))) := snd_icmp_ge (by decide +kernel : decode (mBc 186) 83 = .ok (.if_icmp .ge 62, 3)) rfl rfl
theorem s186_86 : mSnd 186 86 (a_iload 88 4) := snd_iload (by decide +kernel : decode (mBc 186) 86 = .ok (.iload 4, 2)) rfl
theorem s186_88 : mSnd 186 88 (a_iload 90 7) := snd_iload (by decide +kernel : decode (mBc 186) 88 = .ok (.iload 7, 2)) rfl
theorem s186_90 : mSnd 186 90 (a_ii 91 (fun x y => x >>> (y &&& 31))) := snd_ishr (by decide +kernel : decode (mBc 186) 90 = .ok (.ishr, 1)) rfl
theorem s186_91 : mSnd 186 91 (a_push 92 (.int (iZ 1))) := snd_iconst (by decide +kernel : decode (mBc 186) 91 = .ok (.iconst 1, 1)) rfl rfl
theorem s186_92 : mSnd 186 92 (a_ii 93 (fun x y => x &&& y)) := snd_iand (by decide +kernel : decode (mBc 186) 92 = .ok (.iand, 1)) rfl
theorem s186_93 : mSnd 186 93 (a_if 96 99 (fun x => decide (¬ x = 0))) := snd_if_ne (by decide +kernel : decode (mBc 186) 93 = .ok (.ifCond .ne 6, 3)) rfl rfl
theorem s186_96 : mSnd 186 96 (a_goto 139) := snd_goto (by decide +kernel : decode (mBc 186) 96 = .ok (.goto 43, 3)) rfl
theorem s186_99 : mSnd 186 99 (a_push 100 (.int (iZ 0))) := snd_iconst (by decide +kernel : decode (mBc 186) 99 = .ok (.iconst 0, 1)) rfl rfl
theorem s186_100 : mSnd 186 100 (a_istore 102 8) := snd_istore (by decide +kernel : decode (mBc 186) 100 = .ok (.istore 8, 2)) (by decide) rfl
theorem s186_102 : mSnd 186 102 (a_iload 104 8) := snd_iload (by decide +kernel : decode (mBc 186) 102 = .ok (.iload 8, 2)) rfl
theorem s186_104 : mSnd 186 104 (a_iload 105 2) := snd_iload_n (by decide +kernel : decode (mBc 186) 104 = .ok (.iload_n 2, 1)) rfl rfl
theorem s186_105 : mSnd 186 105 (a_icmp 108 136 (fun x y => decide (y ≤ x))) := snd_icmp_ge (by decide +kernel : decode (mBc 186) 105 = .ok (.if_icmp .ge 31, 3)) rfl rfl
theorem s186_108 : mSnd 186 108 (a_aload 109 0) := snd_aload_n (by decide +kernel : decode (mBc 186) 108 = .ok (.aload_n 0, 1)) rfl rfl
theorem s186_109 : mSnd 186 109 (a_getf 112 4 [10]) := snd_getf f31 q906 (Or.inl rfl) (by decide +kernel : decode (mBc 186) 109 = .ok (.getfield 24, 3)) rfl
theorem s186_112 : mSnd 186 112 (a_push 113 (.int (iZ 5))) := snd_iconst (by decide +kernel : decode (mBc 186) 112 = .ok (.iconst 5, 1)) rfl rfl
theorem s186_113 : mSnd 186 113 (a_iload 115 8) := snd_iload (by decide +kernel : decode (mBc 186) 113 = .ok (.iload 8, 2)) rfl
theorem s186_115 : mSnd 186 115 (a_ii 116 (fun x y => x * y)) := snd_imul (by decide +kernel : decode (mBc 186) 115 = .ok (.imul, 1)) rfl
theorem s186_116 : mSnd 186 116 (a_iload 118 6) := snd_iload (by decide +kernel : decode (mBc 186) 116 = .ok (.iload 6, 2)) rfl
theorem s186_118 : mSnd 186 118 (a_ii 119 (fun x y => x + y)) := snd_iadd (by decide +kernel : decode (mBc 186) 118 = .ok (.iadd, 1)) rfl
theorem s186_119 : mSnd 186 119 (a_iload 121 7) := snd_iload (by decide +kernel : decode (mBc 186) 119 = .ok (.iload 7, 2)) rfl
theorem s186_121 : mSnd 186 121 (a_push 122 (.int (iZ 1))) := snd_iconst (by decide +kernel : decode (mBc 186) 121 = .ok (.iconst 1, 1)) rfl rfl
theorem s186_122 : mSnd 186 122 (a_ii 123 (fun x y => x + y)) := snd_iadd (by decide +kernel : decode (mBc 186) 122 = .ok (.iadd, 1)) rfl
theorem s186_123 : mSnd 186 123 (a_iload 125 8) := snd_iload (by decide +kernel : decode (mBc 186) 123 = .ok (.iload 8, 2)) rfl
theorem s186_125 : mSnd 186 125 (a_ii 126 (fun x y => x >>> (y &&& 31))) := snd_ishr (by decide +kernel : decode (mBc 186) 125 = .ok (.ishr, 1)) rfl
theorem s186_126 : mSnd 186 126 (a_push 127 (.int (iZ 1))) := snd_iconst (by decide +kernel : decode (mBc 186) 126 = .ok (.iconst 1, 1)) rfl rfl
theorem s186_127 : mSnd 186 127 (a_ii 128 (fun x y => x &&& y)) := snd_iand (by decide +kernel : decode (mBc 186) 127 = .ok (.iand, 1)) rfl
theorem s186_128 : mSnd 186 128 (a_i2l 129) := snd_i2l (by decide +kernel : decode (mBc 186) 128 = .ok (.i2l, 1)) rfl
theorem s186_129 : mSnd 186 129 (a_last 130) := snd_last (by decide +kernel : decode (mBc 186) 129 = .ok (.lastore, 1)) rfl
theorem s186_130 : mSnd 186 130 (a_iinc 133 8 (iZ 1)) := snd_iinc (by decide +kernel : decode (mBc 186) 130 = .ok (.iinc 8 1, 3)) rfl (by decide) rfl
theorem s186_133 : mSnd 186 133 (a_goto 102) := snd_goto (by decide +kernel : decode (mBc 186) 133 = .ok (.goto (-31), 3)) rfl
theorem s186_136 : mSnd 186 136 (a_iinc 139 6 (iZ 1)) := snd_iinc (by decide +kernel : decode (mBc 186) 136 = .ok (.iinc 6 1, 3)) rfl (by decide) rfl
theorem s186_139 : mSnd 186 139 (a_iinc 142 7 (iZ 1)) := snd_iinc (by decide +kernel : decode (mBc 186) 139 = .ok (.iinc 7 1, 3)) rfl (by decide) rfl
theorem s186_142 : mSnd 186 142 (a_goto 80) := snd_goto (by decide +kernel : decode (mBc 186) 142 = .ok (.goto (-62), 3)) rfl
theorem s186_145 : mSnd 186 145 (a_push 146 (.int (iZ 0))) := snd_iconst (by decide +kernel : decode (mBc 186) 145 = .ok (.iconst 0, 1)) rfl rfl
theorem s186_146 : mSnd 186 146 (a_istore 148 7) := snd_istore (by decide +kernel : decode (mBc 186) 146 = .ok (.istore 7, 2)) (by decide) rfl
theorem s186_148 : mSnd 186 148 (a_iload 150 7) := snd_iload (by decide +kernel : decode (mBc 186) 148 = .ok (.iload 7, 2)) rfl
theorem s186_150 : mSnd 186 150 (a_iload 151 2) := snd_iload_n (by decide +kernel : decode (mBc 186) 150 = .ok (.iload_n 2, 1)) rfl rfl
theorem s186_151 : mSnd 186 151 (a_icmp 154 172 (fun x y => decide (y ≤ x))) := snd_icmp_ge (by decide +kernel : decode (mBc 186) 151 = .ok (.if_icmp .ge 21, 3)) rfl rfl
theorem s186_154 : mSnd 186 154 (a_aload 155 0) := snd_aload_n (by decide +kernel : decode (mBc 186) 154 = .ok (.aload_n 0, 1)) rfl rfl
theorem s186_155 : mSnd 186 155 (a_getf 158 4 [10]) := snd_getf f31 q906 (Or.inl rfl) (by decide +kernel : decode (mBc 186) 155 = .ok (.getfield 24, 3)) rfl
theorem s186_158 : mSnd 186 158 (a_push 159 (.int (iZ 5))) := snd_iconst (by decide +kernel : decode (mBc 186) 158 = .ok (.iconst 5, 1)) rfl rfl
theorem s186_159 : mSnd 186 159 (a_iload 161 7) := snd_iload (by decide +kernel : decode (mBc 186) 159 = .ok (.iload 7, 2)) rfl
theorem s186_161 : mSnd 186 161 (a_ii 162 (fun x y => x * y)) := snd_imul (by decide +kernel : decode (mBc 186) 161 = .ok (.imul, 1)) rfl
theorem s186_162 : mSnd 186 162 (a_push 163 (.int (iZ 4))) := snd_iconst (by decide +kernel : decode (mBc 186) 162 = .ok (.iconst 4, 1)) rfl rfl
theorem s186_163 : mSnd 186 163 (a_ii 164 (fun x y => x + y)) := snd_iadd (by decide +kernel : decode (mBc 186) 163 = .ok (.iadd, 1)) rfl
theorem s186_164 : mSnd 186 164 (a_push 165 (.long (lZ 1))) := snd_lconst (by decide +kernel : decode (mBc 186) 164 = .ok (.lconst 1, 1)) (by decide +kernel) rfl
theorem s186_165 : mSnd 186 165 (a_last 166) := snd_last (by decide +kernel : decode (mBc 186) 165 = .ok (.lastore, 1)) rfl
theorem s186_166 : mSnd 186 166 (a_iinc 169 7 (iZ 1)) := snd_iinc (by decide +kernel : decode (mBc 186) 166 = .ok (.iinc 7 1, 3)) rfl (by decide) rfl
theorem s186_169 : mSnd 186 169 (a_goto 148) := snd_goto (by decide +kernel : decode (mBc 186) 169 = .ok (.goto (-21), 3)) rfl
theorem s186_172 : mSnd 186 172 (a_aload 173 0) := snd_aload_n (by decide +kernel : decode (mBc 186) 172 = .ok (.aload_n 0, 1)) rfl rfl
theorem s186_173 : mSnd 186 173 (a_iload 175 5) := snd_iload (by decide +kernel : decode (mBc 186) 173 = .ok (.iload 5, 2)) rfl
theorem s186_175 : mSnd 186 175 (a_iload 176 2) := snd_iload_n (by decide +kernel : decode (mBc 186) 175 = .ok (.iload_n 2, 1)) rfl rfl
theorem s186_176 : mSnd 186 176 (a_invV 179 2 0 0 [(10, 176, 0, 0)]) := snd_invV v186_178 rfl rfl (by decide +kernel : decode (mBc 186) 176 = .ok (.invokevirtual 178, 3)) rfl
theorem s186_179 : mSnd 186 179 (a_if 182 191 (fun x => decide (x = 0))) := snd_if_eq (by decide +kernel : decode (mBc 186) 179 = .ok (.ifCond .eq 12, 3)) rfl rfl
theorem s186_182 : mSnd 186 182 (a_aload 183 0) := snd_aload_n (by decide +kernel : decode (mBc 186) 182 = .ok (.aload_n 0, 1)) rfl rfl
theorem s186_183 : mSnd 186 183 (a_iload 184 1) := snd_iload_n (by decide +kernel : decode (mBc 186) 183 = .ok (.iload_n 1, 1)) rfl rfl
theorem s186_184 : mSnd 186 184 (a_iload 186 4) := snd_iload (by decide +kernel : decode (mBc 186) 184 = .ok (.iload 4, 2)) rfl
theorem s186_186 : mSnd 186 186 (a_iload 188 5) := snd_iload (by decide +kernel : decode (mBc 186) 186 = .ok (.iload 5, 2)) rfl
theorem s186_188 : mSnd 186 188 (a_invV 191 3 0 0 [(10, 185, 0, 0)]) := snd_invV v186_190 rfl rfl (by decide +kernel : decode (mBc 186) 188 = .ok (.invokevirtual 190, 3)) rfl
theorem s186_191 : mSnd 186 191 (a_iinc 194 4 (iZ 1)) := snd_iinc (by decide +kernel : decode (mBc 186) 191 = .ok (.iinc 4 1, 3)) rfl (by decide) rfl
theorem s186_194 : mSnd 186 194 (a_goto 23) := snd_goto (by decide +kernel : decode (mBc 186) 194 = .ok (.goto (-171), 3)) rfl
theorem s186_197 : mSnd 186 197 (a_vret 0 0) := snd_vret rfl rfl rfl (by decide +kernel : decode (mBc 186) 197 = .ok (.return_, 1))
theorem ok186 : mOkl2 186 ct186 := ⟨⟨s186_0, s186_1, s186_2, s186_5, s186_6, s186_9, s186_10, s186_11, s186_12, s186_13, s186_14, s186_17, trivial⟩, ⟨s186_18, s186_19, s186_20, s186_21, s186_23, s186_25, s186_26, s186_27, s186_28, s186_31, s186_32, s186_34, trivial⟩, ⟨s186_35, s186_37, s186_39, s186_40, s186_43, s186_45, s186_47, s186_49, s186_50, s186_51, s186_52, s186_53, trivial⟩, ⟨s186_55, s186_58, s186_61, s186_63, s186_64, s186_67, s186_70, s186_71, s186_74, s186_75, s186_77, s186_78, trivial⟩, ⟨s186_80, s186_82, s186_83, s186_86, s186_88, s186_90, s186_91, s186_92, s186_93, s186_96, s186_99, s186_100, trivial⟩, ⟨s186_102, s186_104, s186_105, s186_108, s186_109, s186_112, s186_113, s186_115, s186_116, s186_118, s186_119, s186_121, trivial⟩, ⟨s186_122, s186_123, s186_125, s186_126, s186_127, s186_128, s186_129, s186_130, s186_133, s186_136, s186_139, s186_142, trivial⟩, ⟨s186_145, s186_146, s186_148, s186_150, s186_151, s186_154, s186_155, s186_158, s186_159, s186_161, s186_162, s186_163, trivial⟩, ⟨s186_164, s186_165, s186_166, s186_169, s186_172, s186_173, s186_175, s186_176, s186_179, s186_182, s186_183, s186_184, trivial⟩, ⟨s186_186, s186_188, s186_191, s186_194, s186_197, trivial⟩, trivial⟩
theorem s187_0 : mSnd 187 0 (a_aload 1 0) := snd_aload_n (by decide +kernel : decode (mBc 187) 0 = .ok (.aload_n 0, 1)) rfl rfl
theorem s187_1 : mSnd 187 1 (a_iload 2 1) := snd_iload_n (by decide +kernel : decode (mBc 187) 1 = .ok (.iload_n 1, 1)) rfl rfl
theorem s187_2 : mSnd 187 2 (a_invV 5 1 0 0 [(10, 138, 0, 0)]) := snd_invV v187_92 rfl rfl (by decide +kernel : decode (mBc 187) 2 = .ok (.invokevirtual 92, 3)) rfl
theorem s187_5 : mSnd 187 5 (a_if 8 28 (fun x => decide (x = 0))) := snd_if_eq (by decide +kernel : decode (mBc 187) 5 = .ok (.ifCond .eq 23, 3)) rfl rfl
theorem s187_8 : mSnd 187 8 (a_aload 9 0) := snd_aload_n (by decide +kernel : decode (mBc 187) 8 = .ok (.aload_n 0, 1)) rfl rfl
theorem s187_9 : mSnd 187 9 (a_getf 12 2 [10]) := snd_getf f29 q904 (Or.inl rfl) (by decide +kernel : decode (mBc 187) 9 = .ok (.getfield 17, 3)) rfl
theorem s187_12 : mSnd 187 12 (a_iload 13 1) := snd_iload_n (by decide +kernel : decode (mBc 187) 12 = .ok (.iload_n 1, 1)) rfl rfl
theorem s187_13 : mSnd 187 13 (a_iald 14) := snd_iald (by decide +kernel : decode (mBc 187) 13 = .ok (.iaload, 1)) rfl
theorem s187_14 : mSnd 187 14 (a_push 15 (.int (iZ 1))) := snd_iconst (by decide +kernel : decode (mBc 187) 14 = .ok (.iconst 1, 1)) rfl rfl
theorem s187_15 : mSnd 187 15 (a_icmp 18 28 (fun x y => decide (x = y))) := snd_icmp_eq (by decide +kernel : decode (mBc 187) 15 = .ok (.if_icmp .eq 13, 3)) rfl rfl
theorem s187_18 : mSnd 187 18 (a_aload 19 0) := snd_aload_n (by decide +kernel : decode (mBc 187) 18 = .ok (.aload_n 0, 1)) rfl rfl
theorem s187_19 : mSnd 187 19 (a_iload 20 2) := snd_iload_n (by decide +kernel : decode (mBc 187) 19 = .ok (.iload_n 2, 1)) rfl rfl
theorem s187_20 : mSnd 187 20 (a_push 21 (.int (iZ 0))) := snd_iconst (by decide +kernel : decode (mBc 187) 20 = .ok (.iconst 0, 1)) rfl rfl
theorem s187_21 : mSnd 187 21 (a_push 22 (.int (iZ 1))) := snd_iconst (by decide +kernel : decode (mBc 187) 21 = .ok (.iconst 1, 1)) rfl rfl
theorem s187_22 : mSnd 187 22 (a_invV 25 3 0 0 [(10, 137, 0, 0)]) := snd_invV v187_76 rfl rfl (by decide +kernel : decode (mBc 187) 22 = .ok (.invokevirtual 76, 3)) rfl
theorem s187_25 : mSnd 187 25 (a_if 28 32 (fun x => decide (¬ x = 0))) := snd_if_ne (by decide +kernel : decode (mBc 187) 25 = .ok (.ifCond .ne 7, 3)) rfl rfl
theorem s187_28 : mSnd 187 28 (a_push 31 (.long (lZ (-4611686018427387904)))) := snd_ldc2 q1060 (by decide +kernel : decode (mBc 187) 28 = .ok (.ldc2_w 128, 3)) rfl
theorem s187_31 : mSnd 187 31 (a_lret 0 0) := snd_lret rfl rfl rfl (by decide +kernel : decode (mBc 187) 31 = .ok (.lreturn, 1))
theorem s187_32 : mSnd 187 32 (a_aload 33 0) := snd_aload_n (by decide +kernel : decode (mBc 187) 32 = .ok (.aload_n 0, 1)) rfl rfl
theorem s187_33 : mSnd 187 33 (a_iload 34 1) := snd_iload_n (by decide +kernel : decode (mBc 187) 33 = .ok (.iload_n 1, 1)) rfl rfl
theorem s187_34 : mSnd 187 34 (a_invV 37 1 0 0 [(10, 186, 0, 0)]) := snd_invV v187_193 rfl rfl (by decide +kernel : decode (mBc 187) 34 = .ok (.invokevirtual 193, 3)) rfl
theorem s187_37 : mSnd 187 37 (a_iload 38 2) := snd_iload_n (by decide +kernel : decode (mBc 187) 37 = .ok (.iload_n 2, 1)) rfl rfl
theorem s187_38 : mSnd 187 38 (a_if 41 48 (fun x => decide (¬ x = 0))) := snd_if_ne (by decide +kernel : decode (mBc 187) 38 = .ok (.ifCond .ne 10, 3)) rfl rfl
theorem s187_41 : mSnd 187 41 (a_aload 42 0) := snd_aload_n (by decide +kernel : decode (mBc 187) 41 = .ok (.aload_n 0, 1)) rfl rfl
theorem s187_42 : mSnd 187 42 (a_getf 45 8 [10]) := snd_getf f35 q910 (Or.inl rfl) (by decide +kernel : decode (mBc 187) 42 = .ok (.getfield 36, 3)) rfl
theorem s187_45 : mSnd 187 45 (a_goto 52) := snd_goto (by decide +kernel : decode (mBc 187) 45 = .ok (.goto 7, 3)) rfl
theorem s187_48 : mSnd 187 48 (a_aload 49 0) := snd_aload_n (by decide +kernel : decode (mBc 187) 48 = .ok (.aload_n 0, 1)) rfl rfl
theorem s187_49 : mSnd 187 49 (a_getf 52 9 [10]) := snd_getf f36 q911 (Or.inl rfl) (by decide +kernel : decode (mBc 187) 49 = .ok (.getfield 40, 3)) rfl
theorem s187_52 : mSnd 187 52 (a_lret 0 0) := snd_lret rfl rfl rfl (by decide +kernel : decode (mBc 187) 52 = .ok (.lreturn, 1))
theorem ok187 : mOkl2 187 ct187 := ⟨⟨s187_0, s187_1, s187_2, s187_5, s187_8, s187_9, s187_12, s187_13, s187_14, s187_15, s187_18, s187_19, trivial⟩, ⟨s187_20, s187_21, s187_22, s187_25, s187_28, s187_31, s187_32, s187_33, s187_34, s187_37, s187_38, s187_41, trivial⟩, ⟨s187_42, s187_45, s187_48, s187_49, s187_52, trivial⟩, trivial⟩
theorem s188_0 : mSnd 188 0 (a_aload 1 0) := snd_aload_n (by decide +kernel : decode (mBc 188) 0 = .ok (.aload_n 0, 1)) rfl rfl
theorem s188_1 : mSnd 188 1 (a_iload 2 1) := snd_iload_n (by decide +kernel : decode (mBc 188) 1 = .ok (.iload_n 1, 1)) rfl rfl
theorem s188_2 : mSnd 188 2 (a_invV 5 1 0 0 [(10, 138, 0, 0)]) := snd_invV v188_92 rfl rfl (by decide +kernel : decode (mBc 188) 2 = .ok (.invokevirtual 92, 3)) rfl
theorem s188_5 : mSnd 188 5 (a_if 8 27 (fun x => decide (x = 0))) := snd_if_eq (by decide +kernel : decode (mBc 188) 5 = .ok (.ifCond .eq 22, 3)) rfl rfl
theorem s188_8 : mSnd 188 8 (a_aload 9 0) := snd_aload_n (by decide +kernel : decode (mBc 188) 8 = .ok (.aload_n 0, 1)) rfl rfl
theorem s188_9 : mSnd 188 9 (a_iload 10 1) := snd_iload_n (by decide +kernel : decode (mBc 188) 9 = .ok (.iload_n 1, 1)) rfl rfl
theorem s188_10 : mSnd 188 10 (a_iload 11 2) := snd_iload_n (by decide +kernel : decode (mBc 188) 10 = .ok (.iload_n 2, 1)) rfl rfl
theorem s188_11 : mSnd 188 11 (a_invV 14 2 0 0 [(10, 142, 0, 0)]) := snd_invV v188_154 rfl rfl (by decide +kernel : decode (mBc 188) 11 = .ok (.invokevirtual 154, 3)) rfl
theorem s188_14 : mSnd 188 14 (a_if 17 27 (fun x => decide (x = 0))) := snd_if_eq (by decide +kernel : decode (mBc 188) 14 = .ok (.ifCond .eq 13, 3)) rfl rfl
theorem s188_17 : mSnd 188 17 (a_aload 18 0) := snd_aload_n (by decide +kernel : decode (mBc 188) 17 = .ok (.aload_n 0, 1)) rfl rfl
theorem s188_18 : mSnd 188 18 (a_iload 19 3) := snd_iload_n (by decide +kernel : decode (mBc 188) 18 = .ok (.iload_n 3, 1)) rfl rfl
theorem s188_19 : mSnd 188 19 (a_push 20 (.int (iZ 0))) := snd_iconst (by decide +kernel : decode (mBc 188) 19 = .ok (.iconst 0, 1)) rfl rfl
theorem s188_20 : mSnd 188 20 (a_push 21 (.int (iZ 1))) := snd_iconst (by decide +kernel : decode (mBc 188) 20 = .ok (.iconst 1, 1)) rfl rfl
theorem s188_21 : mSnd 188 21 (a_invV 24 3 0 0 [(10, 137, 0, 0)]) := snd_invV v188_76 rfl rfl (by decide +kernel : decode (mBc 188) 21 = .ok (.invokevirtual 76, 3)) rfl
theorem s188_24 : mSnd 188 24 (a_if 27 31 (fun x => decide (¬ x = 0))) := snd_if_ne (by decide +kernel : decode (mBc 188) 24 = .ok (.ifCond .ne 7, 3)) rfl rfl
theorem s188_27 : mSnd 188 27 (a_push 30 (.long (lZ (-4611686018427387904)))) := snd_ldc2 q1060 (by decide +kernel : decode (mBc 188) 27 = .ok (.ldc2_w 128, 3)) rfl
theorem s188_30 : mSnd 188 30 (a_lret 0 0) := snd_lret rfl rfl rfl (by decide +kernel : decode (mBc 188) 30 = .ok (.lreturn, 1))
theorem s188_31 : mSnd 188 31 (a_aload 32 0) := snd_aload_n (by decide +kernel : decode (mBc 188) 31 = .ok (.aload_n 0, 1)) rfl rfl
theorem s188_32 : mSnd 188 32 (a_iload 33 1) := snd_iload_n (by decide +kernel : decode (mBc 188) 32 = .ok (.iload_n 1, 1)) rfl rfl
theorem s188_33 : mSnd 188 33 (a_invV 36 1 0 0 [(10, 186, 0, 0)]) := snd_invV v188_193 rfl rfl (by decide +kernel : decode (mBc 188) 33 = .ok (.invokevirtual 193, 3)) rfl
theorem s188_36 : mSnd 188 36 (a_iload 37 3) := snd_iload_n (by decide +kernel : decode (mBc 188) 36 = .ok (.iload_n 3, 1)) rfl rfl
theorem s188_37 : mSnd 188 37 (a_if 40 49 (fun x => decide (¬ x = 0))) := snd_if_ne (by decide +kernel : decode (mBc 188) 37 = .ok (.ifCond .ne 12, 3)) rfl rfl
theorem s188_40 : mSnd 188 40 (a_aload 41 0) := snd_aload_n (by decide +kernel : decode (mBc 188) 40 = .ok (.aload_n 0, 1)) rfl rfl
theorem s188_41 : mSnd 188 41 (a_getf 44 10 [10]) := snd_getf f37 q912 (Or.inl rfl) (by decide +kernel : decode (mBc 188) 41 = .ok (.getfield 43, 3)) rfl
theorem s188_44 : mSnd 188 44 (a_iload 45 2) := snd_iload_n (by decide +kernel : decode (mBc 188) 44 = .ok (.iload_n 2, 1)) rfl rfl
theorem s188_45 : mSnd 188 45 (a_lald 46) := snd_lald (by decide +kernel : decode (mBc 188) 45 = .ok (.laload, 1)) rfl
theorem s188_46 : mSnd 188 46 (a_goto 55) := snd_goto (by decide +kernel : decode (mBc 188) 46 = .ok (.goto 9, 3)) rfl
theorem s188_49 : mSnd 188 49 (a_aload 50 0) := snd_aload_n (by decide +kernel : decode (mBc 188) 49 = .ok (.aload_n 0, 1)) rfl rfl
theorem s188_50 : mSnd 188 50 (a_getf 53 11 [10]) := snd_getf f38 q913 (Or.inl rfl) (by decide +kernel : decode (mBc 188) 50 = .ok (.getfield 46, 3)) rfl
theorem s188_53 : mSnd 188 53 (a_iload 54 2) := snd_iload_n (by decide +kernel : decode (mBc 188) 53 = .ok (.iload_n 2, 1)) rfl rfl
theorem s188_54 : mSnd 188 54 (a_lald 55) := snd_lald (by decide +kernel : decode (mBc 188) 54 = .ok (.laload, 1)) rfl
theorem s188_55 : mSnd 188 55 (a_lret 0 0) := snd_lret rfl rfl rfl (by decide +kernel : decode (mBc 188) 55 = .ok (.lreturn, 1))
theorem ok188 : mOkl2 188 ct188 := ⟨⟨s188_0, s188_1, s188_2, s188_5, s188_8, s188_9, s188_10, s188_11, s188_14, s188_17, s188_18, s188_19, trivial⟩, ⟨s188_20, s188_21, s188_24, s188_27, s188_30, s188_31, s188_32, s188_33, s188_36, s188_37, s188_40, s188_41, trivial⟩, ⟨s188_44, s188_45, s188_46, s188_49, s188_50, s188_53, s188_54, s188_55, trivial⟩, trivial⟩
theorem s189_0 : mSnd 189 0 (a_aload 1 0) := snd_aload_n (by decide +kernel : decode (mBc 189) 0 = .ok (.aload_n 0, 1)) rfl rfl
theorem s189_1 : mSnd 189 1 (a_iload 2 1) := snd_iload_n (by decide +kernel : decode (mBc 189) 1 = .ok (.iload_n 1, 1)) rfl rfl
theorem s189_2 : mSnd 189 2 (a_invV 5 1 0 0 [(10, 138, 0, 0)]) := snd_invV v189_92 rfl rfl (by decide +kernel : decode (mBc 189) 2 = .ok (.invokevirtual 92, 3)) rfl
theorem s189_5 : mSnd 189 5 (a_if 8 11 (fun x => decide (¬ x = 0))) := snd_if_ne (by decide +kernel : decode (mBc 189) 5 = .ok (.ifCond .ne 6, 3)) rfl rfl
theorem s189_8 : mSnd 189 8 (a_push 10 (.int (iZ (-2)))) := snd_bipush (by decide +kernel : decode (mBc 189) 8 = .ok (.bipush (-2), 2)) (by decide +kernel) rfl
theorem s189_10 : mSnd 189 10 (a_iret 0 0) := snd_iret rfl rfl rfl (by decide +kernel : decode (mBc 189) 10 = .ok (.ireturn, 1))
theorem s189_11 : mSnd 189 11 (a_push 12 (.int (iZ 0))) := snd_iconst (by decide +kernel : decode (mBc 189) 11 = .ok (.iconst 0, 1)) rfl rfl
theorem s189_12 : mSnd 189 12 (a_istore 13 2) := snd_istore_n (by decide +kernel : decode (mBc 189) 12 = .ok (.istore_n 2, 1)) rfl (by decide) rfl
theorem s189_13 : mSnd 189 13 (a_iload 14 2) := snd_iload_n (by decide +kernel : decode (mBc 189) 13 = .ok (.iload_n 2, 1)) rfl rfl
theorem s189_14 : mSnd 189 14 (a_aload 15 0) := snd_aload_n (by decide +kernel : decode (mBc 189) 14 = .ok (.aload_n 0, 1)) rfl rfl
theorem s189_15 : mSnd 189 15 (a_getf 18 2 [10]) := snd_getf f29 q904 (Or.inl rfl) (by decide +kernel : decode (mBc 189) 15 = .ok (.getfield 17, 3)) rfl
theorem s189_18 : mSnd 189 18 (a_iload 19 1) := snd_iload_n (by decide +kernel : decode (mBc 189) 18 = .ok (.iload_n 1, 1)) rfl rfl
theorem s189_19 : mSnd 189 19 (a_iald 20) := snd_iald (by decide +kernel : decode (mBc 189) 19 = .ok (.iaload, 1)) rfl
theorem s189_20 : mSnd 189 20 (a_icmp 23 130 (fun x y => decide (y ≤ x))) := snd_icmp_ge (by decide +kernel : decode (mBc 189) 20 = .ok (.if_icmp .ge 110, 3)) rfl rfl
theorem s189_23 : mSnd 189 23 (a_push 24 (.int (iZ 0))) := snd_iconst (by decide +kernel : decode (mBc 189) 23 = .ok (.iconst 0, 1)) rfl rfl
theorem s189_24 : mSnd 189 24 (a_istore 25 3) := snd_istore_n (by decide +kernel : decode (mBc 189) 24 = .ok (.istore_n 3, 1)) rfl (by decide) rfl
theorem s189_25 : mSnd 189 25 (a_iload 26 3) := snd_iload_n (by decide +kernel : decode (mBc 189) 25 = .ok (.iload_n 3, 1)) rfl rfl
theorem s189_26 : mSnd 189 26 (a_aload 27 0) := snd_aload_n (by decide +kernel : decode (mBc 189) 26 = .ok (.aload_n 0, 1)) rfl rfl
theorem s189_27 : mSnd 189 27 (a_iload 28 1) := snd_iload_n (by decide +kernel : decode (mBc 189) 27 = .ok (.iload_n 1, 1)) rfl rfl
theorem s189_28 : mSnd 189 28 (a_invV 31 1 0 0 [(10, 139, 0, 0)]) := snd_invV v189_80 rfl rfl (by decide +kernel : decode (mBc 189) 28 = .ok (.invokevirtual 80, 3)) rfl
theorem s189_31 : mSnd 189 31 (a_icmp 34 124 (fun x y => decide (y < x))) := snd_icmp_gt (by decide +kernel : decode (mBc 189) 31 = .ok (.if_icmp .gt 93, 3)) rfl rfl
theorem s189_34 : mSnd 189 34 (a_iload 35 3) := snd_iload_n (by decide +kernel : decode (mBc 189) 34 = .ok (.iload_n 3, 1)) rfl rfl
theorem s189_35 : mSnd 189 35 (a_push 36 (.int (iZ 1))) := snd_iconst (by decide +kernel : decode (mBc 189) 35 = .ok (.iconst 1, 1)) rfl rfl
theorem s189_36 : mSnd 189 36 (a_ii 37 (fun x y => x + y)) := snd_iadd (by decide +kernel : decode (mBc 189) 36 = .ok (.iadd, 1)) rfl
theorem s189_37 : mSnd 189 37 (a_istore 39 4) := snd_istore (by decide +kernel : decode (mBc 189) 37 = .ok (.istore 4, 2)) (by decide) rfl
theorem s189_39 : mSnd 189 39 (a_iload 41 4) := snd_iload (by decide +kernel : decode (mBc 189) 39 = .ok (.iload 4, 2)) rfl
theorem s189_41 : mSnd 189 41 (a_aload 42 0) := snd_aload_n (by decide +kernel : decode (mBc 189) 41 = .ok (.aload_n 0, 1)) rfl rfl
theorem s189_42 : mSnd 189 42 (a_iload 43 1) := snd_iload_n (by decide +kernel : decode (mBc 189) 42 = .ok (.iload_n 1, 1)) rfl rfl
theorem s189_43 : mSnd 189 43 (a_invV 46 1 0 0 [(10, 139, 0, 0)]) := snd_invV v189_80 rfl rfl (by decide +kernel : decode (mBc 189) 43 = .ok (.invokevirtual 80, 3)) rfl
theorem s189_46 : mSnd 189 46 (a_icmp 49 118 (fun x y => decide (y < x))) := snd_icmp_gt (by decide +kernel : decode (mBc 189) 46 = .ok (.if_icmp .gt 72, 3)) rfl rfl
theorem s189_49 : mSnd 189 49 (a_iload 50 3) := snd_iload_n (by decide +kernel : decode (mBc 189) 49 = .ok (.iload_n 3, 1)) rfl rfl
theorem s189_50 : mSnd 189 50 (a_iload 52 4) := snd_iload (by decide +kernel : decode (mBc 189) 50 = .ok (.iload 4, 2)) rfl
theorem s189_52 : mSnd 189 52 (a_push 53 (.int (iZ (-1)))) := snd_iconst (by decide +kernel : decode (mBc 189) 52 = .ok (.iconst (-1), 1)) rfl rfl
theorem s189_53 : mSnd 189 53 (a_ii 54 (fun x y => x ^^^ y)) := snd_ixor (by decide +kernel : decode (mBc 189) 53 = .ok (.ixor, 1)) rfl
theorem s189_54 : mSnd 189 54 (a_ii 55 (fun x y => x &&& y)) := snd_iand (by decide +kernel : decode (mBc 189) 54 = .ok (.iand, 1)) rfl
theorem s189_55 : mSnd 189 55 (a_if 58 71 (fun x => decide (¬ x = 0))) := snd_if_ne (by decide +kernel : decode (mBc 189) 55 = .ok (.ifCond .ne 16, 3)) rfl rfl
theorem s189_58 : mSnd 189 58 (a_iload 60 4) := snd_iload (by decide +kernel : decode (mBc 189) 58 = .ok (.iload 4, 2)) rfl
theorem s189_60 : mSnd 189 60 (a_iload 61 2) := snd_iload_n (by decide +kernel : decode (mBc 189) 60 = .ok (.iload_n 2, 1)) rfl rfl
theorem s189_61 : mSnd 189 61 (a_ii 62 (fun x y => x >>> (y &&& 31))) := snd_ishr (by decide +kernel : decode (mBc 189) 61 = .ok (.ishr, 1)) rfl
theorem s189_62 : mSnd 189 62 (a_push 63 (.int (iZ 1))) := snd_iconst (by decide +kernel : decode (mBc 189) 62 = .ok (.iconst 1, 1)) rfl rfl
theorem s189_63 : mSnd 189 63 (a_ii 64 (fun x y => x &&& y)) := snd_iand (by decide +kernel : decode (mBc 189) 63 = .ok (.iand, 1)) rfl
theorem s189_64 : mSnd 189 64 (a_if 67 71 (fun x => decide (¬ x = 0))) := snd_if_ne (by decide +kernel : decode (mBc 189) 64 = .ok (.ifCond .ne 7, 3)) rfl rfl
theorem s189_67 : mSnd 189 67 (a_push 68 (.int (iZ 1))) := snd_iconst (by decide +kernel : decode (mBc 189) 67 = .ok (.iconst 1, 1)) rfl rfl
theorem s189_68 : mSnd 189 68 (a_goto 72) := snd_goto (by decide +kernel : decode (mBc 189) 68 = .ok (.goto 4, 3)) rfl
theorem s189_71 : mSnd 189 71 (a_push 72 (.int (iZ 0))) := snd_iconst (by decide +kernel : decode (mBc 189) 71 = .ok (.iconst 0, 1)) rfl rfl
theorem s189_72 : mSnd 189 72 (a_istore 74 5) := snd_istore (by decide +kernel : decode (mBc 189) 72 = .ok (.istore 5, 2)) (by decide) rfl
theorem s189_74 : mSnd 189 74 (a_iload 76 5) := snd_iload (by decide +kernel : decode (mBc 189) 74 = .ok (.iload 5, 2)) rfl
theorem s189_76 : mSnd 189 76 (a_if 79 112 (fun x => decide (x = 0))) := snd_if_eq (by decide +kernel : decode (mBc 189) 76 = .ok (.ifCond .eq 36, 3)) rfl rfl
theorem s189_79 : mSnd 189 79 (a_aload 80 0) := snd_aload_n (by decide +kernel : decode (mBc 189) 79 = .ok (.aload_n 0, 1)) rfl rfl
theorem s189_80 : mSnd 189 80 (a_iload 81 1) := snd_iload_n (by decide +kernel : decode (mBc 189) 80 = .ok (.iload_n 1, 1)) rfl rfl
theorem s189_81 : mSnd 189 81 (a_iload 82 2) := snd_iload_n (by decide +kernel : decode (mBc 189) 81 = .ok (.iload_n 2, 1)) rfl rfl
theorem s189_82 : mSnd 189 82 (a_iload 84 4) := snd_iload (by decide +kernel : decode (mBc 189) 82 = .ok (.iload 4, 2)) rfl
theorem s189_84 : mSnd 189 84 (a_invV 87 3 0 0 [(10, 162, 0, 0)]) := snd_invV v189_130 rfl rfl (by decide +kernel : decode (mBc 189) 84 = .ok (.invokevirtual 130, 3)) rfl
theorem s189_87 : mSnd 189 87 (a_aload 88 0) := snd_aload_n (by decide +kernel : decode (mBc 189) 87 = .ok (.aload_n 0, 1)) rfl rfl
theorem s189_88 : mSnd 189 88 (a_iload 89 1) := snd_iload_n (by decide +kernel : decode (mBc 189) 88 = .ok (.iload_n 1, 1)) rfl rfl
theorem s189_89 : mSnd 189 89 (a_iload 90 2) := snd_iload_n (by decide +kernel : decode (mBc 189) 89 = .ok (.iload_n 2, 1)) rfl rfl
theorem s189_90 : mSnd 189 90 (a_iload 91 3) := snd_iload_n (by decide +kernel : decode (mBc 189) 90 = .ok (.iload_n 3, 1)) rfl rfl
theorem s189_91 : mSnd 189 91 (a_invV 94 3 0 0 [(10, 162, 0, 0)]) := snd_invV v189_130 rfl rfl (by decide +kernel : decode (mBc 189) 91 = .ok (.invokevirtual 130, 3)) rfl
theorem s189_94 : mSnd 189 94 (a_lcmp 95) := snd_lcmp (by decide +kernel : decode (mBc 189) 94 = .ok (.lcmp, 1)) rfl
theorem s189_95 : mSnd 189 95 (a_if 98 112 (fun x => decide (0 ≤ x))) := snd_if_ge (by decide +kernel : decode (mBc 189) 95 = .ok (.ifCond .ge 17, 3)) rfl rfl
theorem s189_98 : mSnd 189 98 (a_push 101 (.int (iZ 256))) := snd_sipush (by decide +kernel : decode (mBc 189) 98 = .ok (.sipush 256, 3)) (by decide +kernel) rfl
theorem s189_101 : mSnd 189 101 (a_iload 102 2) := snd_iload_n (by decide +kernel : decode (mBc 189) 101 = .ok (.iload_n 2, 1)) rfl rfl
theorem s189_102 : mSnd 189 102 (a_ii 103 (fun x y => x * y)) := snd_imul (by decide +kernel : decode (mBc 189) 102 = .ok (.imul, 1)) rfl
theorem s189_103 : mSnd 189 103 (a_push 105 (.int (iZ 16))) := snd_bipush (by decide +kernel : decode (mBc 189) 103 = .ok (.bipush 16, 2)) (by decide +kernel) rfl
theorem s189_105 : mSnd 189 105 (a_iload 106 3) := snd_iload_n (by decide +kernel : decode (mBc 189) 105 = .ok (.iload_n 3, 1)) rfl rfl
theorem s189_106 : mSnd 189 106 (a_ii 107 (fun x y => x * y)) := snd_imul (by decide +kernel : decode (mBc 189) 106 = .ok (.imul, 1)) rfl
theorem s189_107 : mSnd 189 107 (a_ii 108 (fun x y => x + y)) := snd_iadd (by decide +kernel : decode (mBc 189) 107 = .ok (.iadd, 1)) rfl
theorem s189_108 : mSnd 189 108 (a_iload 110 4) := snd_iload (by decide +kernel : decode (mBc 189) 108 = .ok (.iload 4, 2)) rfl
theorem s189_110 : mSnd 189 110 (a_ii 111 (fun x y => x + y)) := snd_iadd (by decide +kernel : decode (mBc 189) 110 = .ok (.iadd, 1)) rfl
theorem s189_111 : mSnd 189 111 (a_iret 0 0) := snd_iret rfl rfl rfl (by decide +kernel : decode (mBc 189) 111 = .ok (.ireturn, 1))
theorem s189_112 : mSnd 189 112 (a_iinc 115 4 (iZ 1)) := snd_iinc (by decide +kernel : decode (mBc 189) 112 = .ok (.iinc 4 1, 3)) rfl (by decide) rfl
theorem s189_115 : mSnd 189 115 (a_goto 39) := snd_goto (by decide +kernel : decode (mBc 189) 115 = .ok (.goto (-76), 3)) rfl
theorem s189_118 : mSnd 189 118 (a_iinc 121 3 (iZ 1)) := snd_iinc (by decide +kernel : decode (mBc 189) 118 = .ok (.iinc 3 1, 3)) rfl (by decide) rfl
theorem s189_121 : mSnd 189 121 (a_goto 25) := snd_goto (by decide +kernel : decode (mBc 189) 121 = .ok (.goto (-96), 3)) rfl
theorem s189_124 : mSnd 189 124 (a_iinc 127 2 (iZ 1)) := snd_iinc (by decide +kernel : decode (mBc 189) 124 = .ok (.iinc 2 1, 3)) rfl (by decide) rfl
theorem s189_127 : mSnd 189 127 (a_goto 13) := snd_goto (by decide +kernel : decode (mBc 189) 127 = .ok (.goto (-114), 3)) rfl
theorem s189_130 : mSnd 189 130 (a_push 131 (.int (iZ (-1)))) := snd_iconst (by decide +kernel : decode (mBc 189) 130 = .ok (.iconst (-1), 1)) rfl rfl
theorem s189_131 : mSnd 189 131 (a_iret 0 0) := snd_iret rfl rfl rfl (by decide +kernel : decode (mBc 189) 131 = .ok (.ireturn, 1))
theorem ok189 : mOkl2 189 ct189 := ⟨⟨s189_0, s189_1, s189_2, s189_5, s189_8, s189_10, s189_11, s189_12, s189_13, s189_14, s189_15, s189_18, trivial⟩, ⟨s189_19, s189_20, s189_23, s189_24, s189_25, s189_26, s189_27, s189_28, s189_31, s189_34, s189_35, s189_36, trivial⟩, ⟨s189_37, s189_39, s189_41, s189_42, s189_43, s189_46, s189_49, s189_50, s189_52, s189_53, s189_54, s189_55, trivial⟩, ⟨s189_58, s189_60, s189_61, s189_62, s189_63, s189_64, s189_67, s189_68, s189_71, s189_72, s189_74, s189_76, trivial⟩, ⟨s189_79, s189_80, s189_81, s189_82, s189_84, s189_87, s189_88, s189_89, s189_90, s189_91, s189_94, s189_95, trivial⟩, ⟨s189_98, s189_101, s189_102, s189_103, s189_105, s189_106, s189_107, s189_108, s189_110, s189_111, s189_112, s189_115, trivial⟩, ⟨s189_118, s189_121, s189_124, s189_127, s189_130, s189_131, trivial⟩, trivial⟩
theorem s190_0 : mSnd 190 0 (a_push 1 (.int (iZ 0))) := snd_iconst (by decide +kernel : decode (mBc 190) 0 = .ok (.iconst 0, 1)) rfl rfl
theorem s190_1 : mSnd 190 1 (a_istore 2 2) := snd_istore_n (by decide +kernel : decode (mBc 190) 1 = .ok (.istore_n 2, 1)) rfl (by decide) rfl
theorem s190_2 : mSnd 190 2 (a_push 3 (.int (iZ 0))) := snd_iconst (by decide +kernel : decode (mBc 190) 2 = .ok (.iconst 0, 1)) rfl rfl
theorem s190_3 : mSnd 190 3 (a_istore 4 3) := snd_istore_n (by decide +kernel : decode (mBc 190) 3 = .ok (.istore_n 3, 1)) rfl (by decide) rfl
theorem s190_4 : mSnd 190 4 (a_iload 5 3) := snd_iload_n (by decide +kernel : decode (mBc 190) 4 = .ok (.iload_n 3, 1)) rfl rfl
theorem s190_5 : mSnd 190 5 (a_aload 6 0) := snd_aload_n (by decide +kernel : decode (mBc 190) 5 = .ok (.aload_n 0, 1)) rfl rfl
theorem s190_6 : mSnd 190 6 (a_getf 9 2 [10]) := snd_getf f29 q904 (Or.inl rfl) (by decide +kernel : decode (mBc 190) 6 = .ok (.getfield 17, 3)) rfl
theorem s190_9 : mSnd 190 9 (a_iload 10 1) := snd_iload_n (by decide +kernel : decode (mBc 190) 9 = .ok (.iload_n 1, 1)) rfl rfl
theorem s190_10 : mSnd 190 10 (a_iald 11) := snd_iald (by decide +kernel : decode (mBc 190) 10 = .ok (.iaload, 1)) rfl
theorem s190_11 : mSnd 190 11 (a_icmp 14 99 (fun x y => decide (y ≤ x))) := snd_icmp_ge (by decide +kernel : decode (mBc 190) 11 = .ok (.if_icmp .ge 88, 3)) rfl rfl
theorem s190_14 : mSnd 190 14 (a_push 15 (.int (iZ 1))) := snd_iconst (by decide +kernel : decode (mBc 190) 14 = .ok (.iconst 1, 1)) rfl rfl
theorem s190_15 : mSnd 190 15 (a_istore 17 4) := snd_istore (by decide +kernel : decode (mBc 190) 15 = .ok (.istore 4, 2)) (by decide) rfl
theorem s190_17 : mSnd 190 17 (a_push 18 (.int (iZ 0))) := snd_iconst (by decide +kernel : decode (mBc 190) 17 = .ok (.iconst 0, 1)) rfl rfl
theorem s190_18 : mSnd 190 18 (a_istore 20 5) := snd_istore (by decide +kernel : decode (mBc 190) 18 = .ok (.istore 5, 2)) (by decide) rfl
theorem s190_20 : mSnd 190 20 (a_iload 22 5) := snd_iload (by decide +kernel : decode (mBc 190) 20 = .ok (.iload 5, 2)) rfl
theorem s190_22 : mSnd 190 22 (a_aload 23 0) := snd_aload_n (by decide +kernel : decode (mBc 190) 22 = .ok (.aload_n 0, 1)) rfl rfl
theorem s190_23 : mSnd 190 23 (a_iload 24 1) := snd_iload_n (by decide +kernel : decode (mBc 190) 23 = .ok (.iload_n 1, 1)) rfl rfl
theorem s190_24 : mSnd 190 24 (a_invV 27 1 0 0 [(10, 139, 0, 0)]) := snd_invV v190_80 rfl rfl (by decide +kernel : decode (mBc 190) 24 = .ok (.invokevirtual 80, 3)) rfl
theorem s190_27 : mSnd 190 27 (a_icmp 30 78 (fun x y => decide (y < x))) := snd_icmp_gt (by decide +kernel : decode (mBc 190) 27 = .ok (.if_icmp .gt 51, 3)) rfl rfl
theorem s190_30 : mSnd 190 30 (a_iload 32 4) := snd_iload (by decide +kernel : decode (mBc 190) 30 = .ok (.iload 4, 2)) rfl
theorem s190_32 : mSnd 190 32 (a_if 35 69 (fun x => decide (x = 0))) := snd_if_eq (by decide +kernel : decode (mBc 190) 32 = .ok (.ifCond .eq 37, 3)) rfl rfl
theorem s190_35 : mSnd 190 35 (a_iload 37 5) := snd_iload (by decide +kernel : decode (mBc 190) 35 = .ok (.iload 5, 2)) rfl
theorem s190_37 : mSnd 190 37 (a_iload 38 3) := snd_iload_n (by decide +kernel : decode (mBc 190) 37 = .ok (.iload_n 3, 1)) rfl rfl
theorem s190_38 : mSnd 190 38 (a_ii 39 (fun x y => x >>> (y &&& 31))) := snd_ishr (by decide +kernel : decode (mBc 190) 38 = .ok (.ishr, 1)) rfl
theorem s190_39 : mSnd 190 39 (a_push 40 (.int (iZ 1))) := snd_iconst (by decide +kernel : decode (mBc 190) 39 = .ok (.iconst 1, 1)) rfl rfl
theorem s190_40 : mSnd 190 40 (a_ii 41 (fun x y => x &&& y)) := snd_iand (by decide +kernel : decode (mBc 190) 40 = .ok (.iand, 1)) rfl
theorem s190_41 : mSnd 190 41 (a_push 42 (.int (iZ 1))) := snd_iconst (by decide +kernel : decode (mBc 190) 41 = .ok (.iconst 1, 1)) rfl rfl
theorem s190_42 : mSnd 190 42 (a_icmp 45 65 (fun x y => decide (x = y))) := snd_icmp_eq (by decide +kernel : decode (mBc 190) 42 = .ok (.if_icmp .eq 23, 3)) rfl rfl
theorem s190_45 : mSnd 190 45 (a_aload 46 0) := snd_aload_n (by decide +kernel : decode (mBc 190) 45 = .ok (.aload_n 0, 1)) rfl rfl
theorem s190_46 : mSnd 190 46 (a_iload 47 1) := snd_iload_n (by decide +kernel : decode (mBc 190) 46 = .ok (.iload_n 1, 1)) rfl rfl
theorem s190_47 : mSnd 190 47 (a_iload 48 3) := snd_iload_n (by decide +kernel : decode (mBc 190) 47 = .ok (.iload_n 3, 1)) rfl rfl
theorem s190_48 : mSnd 190 48 (a_iload 50 5) := snd_iload (by decide +kernel : decode (mBc 190) 48 = .ok (.iload 5, 2)) rfl
theorem s190_50 : mSnd 190 50 (a_invV 53 3 0 0 [(10, 162, 0, 0)]) := snd_invV v190_130 rfl rfl (by decide +kernel : decode (mBc 190) 50 = .ok (.invokevirtual 130, 3)) rfl
theorem s190_53 : mSnd 190 53 (a_aload 54 0) := snd_aload_n (by decide +kernel : decode (mBc 190) 53 = .ok (.aload_n 0, 1)) rfl rfl
theorem s190_54 : mSnd 190 54 (a_iload 55 1) := snd_iload_n (by decide +kernel : decode (mBc 190) 54 = .ok (.iload_n 1, 1)) rfl rfl
theorem s190_55 : mSnd 190 55 (a_push 56 (.int (iZ 1))) := snd_iconst (by decide +kernel : decode (mBc 190) 55 = .ok (.iconst 1, 1)) rfl rfl
theorem s190_56 : mSnd 190 56 (a_iload 57 3) := snd_iload_n (by decide +kernel : decode (mBc 190) 56 = .ok (.iload_n 3, 1)) rfl rfl
theorem s190_57 : mSnd 190 57 (a_ii 58 (fun x y => x <<< (y &&& 31))) := snd_ishl (by decide +kernel : decode (mBc 190) 57 = .ok (.ishl, 1)) rfl
theorem s190_58 : mSnd 190 58 (a_invV 61 2 0 0 [(10, 144, 0, 0)]) := snd_invV v190_106 rfl rfl (by decide +kernel : decode (mBc 190) 58 = .ok (.invokevirtual 106, 3)) rfl
theorem s190_61 : mSnd 190 61 (a_lcmp 62) := snd_lcmp (by decide +kernel : decode (mBc 190) 61 = .ok (.lcmp, 1)) rfl
theorem s190_62 : mSnd 190 62 (a_if 65 69 (fun x => decide (¬ x = 0))) := snd_if_ne (by decide +kernel : decode (mBc 190) 62 = .ok (.ifCond .ne 7, 3)) rfl rfl
theorem s190_65 : mSnd 190 65 (a_push 66 (.int (iZ 1))) := snd_iconst (by decide +kernel : decode (mBc 190) 65 = .ok (.iconst 1, 1)) rfl rfl
theorem s190_66 : mSnd 190 66 (a_goto 70) := snd_goto (by decide +kernel : decode (mBc 190) 66 = .ok (.goto 4, 3)) rfl
theorem s190_69 : mSnd 190 69 (a_push 70 (.int (iZ 0))) := snd_iconst (by decide +kernel : decode (mBc 190) 69 = .ok (.iconst 0, 1)) rfl rfl
theorem s190_70 : mSnd 190 70 (a_istore 72 4) := snd_istore (by decide +kernel : decode (mBc 190) 70 = .ok (.istore 4, 2)) (by decide) rfl
theorem s190_72 : mSnd 190 72 (a_iinc 75 5 (iZ 1)) := snd_iinc (by decide +kernel : decode (mBc 190) 72 = .ok (.iinc 5 1, 3)) rfl (by decide) rfl
theorem s190_75 : mSnd 190 75 (a_goto 20) := snd_goto (by decide +kernel : decode (mBc 190) 75 = .ok (.goto (-55), 3)) rfl
theorem s190_78 : mSnd 190 78 (a_iload 79 2) := snd_iload_n (by decide +kernel : decode (mBc 190) 78 = .ok (.iload_n 2, 1)) rfl rfl
theorem s190_79 : mSnd 190 79 (a_iload 81 4) := snd_iload (by decide +kernel : decode (mBc 190) 79 = .ok (.iload 4, 2)) rfl
theorem s190_81 : mSnd 190 81 (a_if 84 90 (fun x => decide (x = 0))) := snd_if_eq (by decide +kernel : decode (mBc 190) 81 = .ok (.ifCond .eq 9, 3)) rfl rfl
theorem s190_84 : mSnd 190 84 (a_push 85 (.int (iZ 1))) := snd_iconst (by decide +kernel : decode (mBc 190) 84 = .ok (.iconst 1, 1)) rfl rfl
theorem s190_85 : mSnd 190 85 (a_iload 86 3) := snd_iload_n (by decide +kernel : decode (mBc 190) 85 = .ok (.iload_n 3, 1)) rfl rfl
theorem s190_86 : mSnd 190 86 (a_ii 87 (fun x y => x <<< (y &&& 31))) := snd_ishl (by decide +kernel : decode (mBc 190) 86 = .ok (.ishl, 1)) rfl
theorem s190_87 : mSnd 190 87 (a_goto 91) := snd_goto (by decide +kernel : decode (mBc 190) 87 = .ok (.goto 4, 3)) rfl
theorem s190_90 : mSnd 190 90 (a_push 91 (.int (iZ 0))) := snd_iconst (by decide +kernel : decode (mBc 190) 90 = .ok (.iconst 0, 1)) rfl rfl
theorem s190_91 : mSnd 190 91 (a_ii 92 (fun x y => x ||| y)) := snd_ior (by decide +kernel : decode (mBc 190) 91 = .ok (.ior, 1)) rfl
theorem s190_92 : mSnd 190 92 (a_istore 93 2) := snd_istore_n (by decide +kernel : decode (mBc 190) 92 = .ok (.istore_n 2, 1)) rfl (by decide) rfl
theorem s190_93 : mSnd 190 93 (a_iinc 96 3 (iZ 1)) := snd_iinc (by decide +kernel : decode (mBc 190) 93 = .ok (.iinc 3 1, 3)) rfl (by decide) rfl
theorem s190_96 : mSnd 190 96 (a_goto 4) := snd_goto (by decide +kernel : decode (mBc 190) 96 = .ok (.goto (-92), 3)) rfl
theorem s190_99 : mSnd 190 99 (a_iload 100 2) := snd_iload_n (by decide +kernel : decode (mBc 190) 99 = .ok (.iload_n 2, 1)) rfl rfl
theorem s190_100 : mSnd 190 100 (a_iret 0 0) := snd_iret rfl rfl rfl (by decide +kernel : decode (mBc 190) 100 = .ok (.ireturn, 1))
theorem ok190 : mOkl2 190 ct190 := ⟨⟨s190_0, s190_1, s190_2, s190_3, s190_4, s190_5, s190_6, s190_9, s190_10, s190_11, s190_14, s190_15, trivial⟩, ⟨s190_17, s190_18, s190_20, s190_22, s190_23, s190_24, s190_27, s190_30, s190_32, s190_35, s190_37, s190_38, trivial⟩, ⟨s190_39, s190_40, s190_41, s190_42, s190_45, s190_46, s190_47, s190_48, s190_50, s190_53, s190_54, s190_55, trivial⟩, ⟨s190_56, s190_57, s190_58, s190_61, s190_62, s190_65, s190_66, s190_69, s190_70, s190_72, s190_75, s190_78, trivial⟩, ⟨s190_79, s190_81, s190_84, s190_85, s190_86, s190_87, s190_90, s190_91, s190_92, s190_93, s190_96, s190_99, trivial⟩, ⟨s190_100, trivial⟩, trivial⟩
