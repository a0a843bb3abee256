theorem s179_0 : mSnd 179 0 (a_push 1 (.int (iZ 1))) := snd_iconst (by decide +kernel : decode (mBc 179) 0 = .ok (.iconst 1, 1)) rfl rfl
theorem s179_1 : mSnd 179 1 (a_istore 2 2) := snd_istore_n (by decide +kernel : decode (mBc 179) 1 = .ok (.istore_n 2, 1)) rfl (by decide) rfl
theorem s179_2 : mSnd 179 2 (a_iload 3 2) := snd_iload_n (by decide +kernel : decode (mBc 179) 2 = .ok (.iload_n 2, 1)) rfl rfl
theorem s179_3 : mSnd 179 3 (a_aload 4 0) := snd_aload_n (by decide +kernel : decode (mBc 179) 3 = .ok (.aload_n 0, 1)) rfl rfl
theorem s179_4 : mSnd 179 4 (a_iload 5 1) := snd_iload_n (by decide +kernel : decode (mBc 179) 4 = .ok (.iload_n 1, 1)) rfl rfl
theorem s179_5 : mSnd 179 5 (a_invV 8 1 0 0 [(10, 139, 0, 0)]) := snd_invV v179_80 rfl rfl (by decide +kernel : decode (mBc 179) 5 = .ok (.invokevirtual 80, 3)) rfl
theorem s179_8 : mSnd 179 8 (a_icmp 11 149 (fun x y => decide (y ≤ x))) := snd_icmp_ge (by decide +kernel : decode (mBc 179) 8 = .ok (.if_icmp .ge 141, 3)) rfl rfl
theorem s179_11 : mSnd 179 11 (a_push 12 (.long (lZ 1))) := snd_lconst (by decide +kernel : decode (mBc 179) 11 = .ok (.lconst 1, 1)) (by decide +kernel) rfl
theorem s179_12 : mSnd 179 12 (a_lstore 13 3) := snd_lstore_n (by decide +kernel : decode (mBc 179) 12 = .ok (.lstore_n 3, 1)) rfl (by decide) rfl
theorem s179_13 : mSnd 179 13 (a_push 14 (.int (iZ 0))) := snd_iconst (by decide +kernel : decode (mBc 179) 13 = .ok (.iconst 0, 1)) rfl rfl
theorem s179_14 : mSnd 179 14 (a_istore 16 5) := snd_istore (by decide +kernel : decode (mBc 179) 14 = .ok (.istore 5, 2)) (by decide) rfl
theorem s179_16 : mSnd 179 16 (a_iload 18 5) := snd_iload (by decide +kernel : decode (mBc 179) 16 = .ok (.iload 5, 2)) rfl
theorem s179_18 : mSnd 179 18 (a_aload 19 0) := snd_aload_n (by decide +kernel : decode (mBc 179) 18 = .ok (.aload_n 0, 1)) rfl rfl
theorem s179_19 : mSnd 179 19 (a_getf 22 2 [10]) := snd_getf f29 q904 (Or.inl rfl) (by decide +kernel : decode (mBc 179) 19 = .ok (.getfield 17, 3)) rfl
theorem s179_22 : mSnd 179 22 (a_iload 23 1) := snd_iload_n (by decide +kernel : decode (mBc 179) 22 = .ok (.iload_n 1, 1)) rfl rfl
theorem s179_23 : mSnd 179 23 (a_iald 24) := snd_iald (by decide +kernel : decode (mBc 179) 23 = .ok (.iaload, 1)) rfl
theorem s179_24 : mSnd 179 24 (a_icmp 27 62 (fun x y => decide (y ≤ x))) := snd_icmp_ge (by decide +kernel : decode (mBc 179) 24 = .ok (.if_icmp .ge 38, 3)) rfl rfl
theorem s179_27 : mSnd 179 27 (a_lload 28 3) := snd_lload_n (by decide +kernel : decode (mBc 179) 27 = .ok (.lload_n 3, 1)) rfl rfl
theorem s179_28 : mSnd 179 28 (a_iload 29 2) := snd_iload_n (by decide +kernel : decode (mBc 179) 28 = .ok (.iload_n 2, 1)) rfl rfl
theorem s179_29 : mSnd 179 29 (a_iload 31 5) := snd_iload (by decide +kernel : decode (mBc 179) 29 = .ok (.iload 5, 2)) rfl
theorem s179_31 : mSnd 179 31 (a_ii 32 (fun x y => x >>> (y &&& 31))) := snd_ishr (by decide +kernel : decode (mBc 179) 31 = .ok (.ishr, 1)) rfl
theorem s179_32 : mSnd 179 32 (a_push 33 (.int (iZ 1))) := snd_iconst (by decide +kernel : decode (mBc 179) 32 = .ok (.iconst 1, 1)) rfl rfl
theorem s179_33 : mSnd 179 33 (a_ii 34 (fun x y => x &&& y)) := snd_iand (by decide +kernel : decode (mBc 179) 33 = .ok (.iand, 1)) rfl
theorem s179_34 : mSnd 179 34 (a_push 35 (.int (iZ 1))) := snd_iconst (by decide +kernel : decode (mBc 179) 34 = .ok (.iconst 1, 1)) rfl rfl
theorem s179_35 : mSnd 179 35 (a_icmp 38 53 (fun x y => decide (¬ x = y))) := snd_icmp_ne (by decide +kernel : decode (mBc 179) 35 = .ok (.if_icmp .ne 18, 3)) rfl rfl
theorem s179_38 : mSnd 179 38 (a_aload 39 0) := snd_aload_n (by decide +kernel : decode (mBc 179) 38 = .ok (.aload_n 0, 1)) rfl rfl
theorem s179_39 : mSnd 179 39 (a_getf 42 4 [10]) := snd_getf f31 q906 (Or.inl rfl) (by decide +kernel : decode (mBc 179) 39 = .ok (.getfield 24, 3)) rfl
theorem s179_42 : mSnd 179 42 (a_push 43 (.int (iZ 5))) := snd_iconst (by decide +kernel : decode (mBc 179) 42 = .ok (.iconst 5, 1)) rfl rfl
theorem s179_43 : mSnd 179 43 (a_iload 45 5) := snd_iload (by decide +kernel : decode (mBc 179) 43 = .ok (.iload 5, 2)) rfl
theorem s179_45 : mSnd 179 45 (a_ii 46 (fun x y => x * y)) := snd_imul (by decide +kernel : decode (mBc 179) 45 = .ok (.imul, 1)) rfl
theorem s179_46 : mSnd 179 46 (a_iload 48 5) := snd_iload (by decide +kernel : decode (mBc 179) 46 = .ok (.iload 5, 2)) rfl
theorem s179_48 : mSnd 179 48 (a_ii 49 (fun x y => x + y)) := snd_iadd (by decide +kernel : decode (mBc 179) 48 = .ok (.iadd, 1)) rfl
theorem s179_49 : mSnd 179 49 (a_lald 50) := snd_lald (by decide +kernel : decode (mBc 179) 49 = .ok (.laload, 1)) rfl
theorem s179_50 : mSnd 179 50 (a_goto 54) := snd_goto (by decide +kernel : decode (mBc 179) 50 = .ok (.goto 4, 3)) rfl
theorem s179_53 : mSnd 179 53 (a_push 54 (.long (lZ 1))) := snd_lconst (by decide +kernel : decode (mBc 179) 53 = .ok (.lconst 1, 1)) (by decide +kernel) rfl
theorem s179_54 : mSnd 179 54 (a_ll 55 (fun x y => x * y)) := snd_lmul (by decide +kernel : decode (mBc 179) 54 = .ok (.lmul, 1)) rfl
theorem s179_55 : mSnd 179 55 (a_lstore 56 3) := snd_lstore_n (by decide +kernel : decode (mBc 179) 55 = .ok (.lstore_n 3, 1)) rfl (by decide) rfl
theorem s179_56 : mSnd 179 56 (a_iinc 59 5 (iZ 1)) := snd_iinc (by decide +kernel : decode (mBc 179) 56 = .ok (.iinc 5 1, 3)) rfl (by decide) rfl
theorem s179_59 : mSnd 179 59 (a_goto 16) := snd_goto (by decide +kernel : decode (mBc 179) 59 = .ok (.goto (-43), 3)) rfl
theorem s179_62 : mSnd 179 62 (a_aload 63 0) := snd_aload_n (by decide +kernel : decode (mBc 179) 62 = .ok (.aload_n 0, 1)) rfl rfl
theorem s179_63 : mSnd 179 63 (a_iload 64 1) := snd_iload_n (by decide +kernel : decode (mBc 179) 63 = .ok (.iload_n 1, 1)) rfl rfl
theorem s179_64 : mSnd 179 64 (a_iload 65 2) := snd_iload_n (by decide +kernel : decode (mBc 179) 64 = .ok (.iload_n 2, 1)) rfl rfl
theorem s179_65 : mSnd 179 65 (a_invV 68 2 0 0 [(10, 144, 0, 0)]) := snd_invV v179_106 rfl rfl (by decide +kernel : decode (mBc 179) 65 = .ok (.invokevirtual 106, 3)) rfl
theorem s179_68 : mSnd 179 68 (a_l 69 (fun x => -x)) := snd_lneg (by decide +kernel : decode (mBc 179) 68 = .ok (.lneg, 1)) rfl
theorem s179_69 : mSnd 179 69 (a_lload 70 3) := snd_lload_n (by decide +kernel : decode (mBc 179) 69 = .ok (.lload_n 3, 1)) rfl rfl
theorem s179_70 : mSnd 179 70 (a_ll 71 (fun x y => x * y)) := snd_lmul (by decide +kernel : decode (mBc 179) 70 = .ok (.lmul, 1)) rfl
theorem s179_71 : mSnd 179 71 (a_lstore 73 5) := snd_lstore (by decide +kernel : decode (mBc 179) 71 = .ok (.lstore 5, 2)) (by decide) rfl
theorem s179_73 : mSnd 179 73 (a_push 74 (.int (iZ 0))) := snd_iconst (by decide +kernel : decode (mBc 179) 73 = .ok (.iconst 0, 1)) rfl rfl
theorem s179_74 : mSnd 179 74 (a_istore 76 7) := snd_istore (by decide +kernel : decode (mBc 179) 74 = .ok (.istore 7, 2)) (by decide) rfl
theorem s179_76 : mSnd 179 76 (a_iload 78 7) := snd_iload (by decide +kernel : decode (mBc 179) 76 = .ok (.iload 7, 2)) rfl
theorem s179_78 : mSnd 179 78 (a_aload 79 0) := snd_aload_n (by decide +kernel : decode (mBc 179) 78 = .ok (.aload_n 0, 1)) rfl rfl
theorem s179_79 : mSnd 179 79 (a_getf 82 2 [10]) := snd_getf f29 q904 (Or.inl rfl) (by decide +kernel : decode (mBc 179) 79 = .ok (.getfield 17, 3)) rfl
theorem s179_82 : mSnd 179 82 (a_iload 83 1) := snd_iload_n (by decide +kernel : decode (mBc 179) 82 = .ok (.iload_n 1, 1)) rfl rfl
theorem s179_83 : mSnd 179 83 (a_iald 84) := snd_iald (by decide +kernel : decode (mBc 179) 83 = .ok (.iaload, 1)) rfl
theorem s179_84 : mSnd 179 84 (a_icmp 87 134 (fun x y => decide (y ≤ x))) := snd_icmp_ge (by decide +kernel : decode (mBc 179) 84 = .ok (.if_icmp .ge 50, 3)) rfl rfl
theorem s179_87 : mSnd 179 87 (a_iload 88 2) := snd_iload_n (by decide +kernel : decode (mBc 179) 87 = .ok (.iload_n 2, 1)) rfl rfl
theorem s179_88 : mSnd 179 88 (a_iload 90 7) := snd_iload (by decide +kernel : decode (mBc 179) 88 = .ok (.iload 7, 2)) rfl
theorem s179_90 : mSnd 179 90 (a_ii 91 (fun x y => x >>> (y &&& 31))) := snd_ishr (by decide +kernel : decode (mBc 179) 90 = .ok (.ishr, 1)) rfl
theorem s179_91 : mSnd 179 91 (a_push 92 (.int (iZ 1))) := snd_iconst (by decide +kernel : decode (mBc 179) 91 = .ok (.iconst 1, 1)) rfl rfl
theorem s179_92 : mSnd 179 92 (a_ii 93 (fun x y => x &&& y)) := snd_iand (by decide +kernel : decode (mBc 179) 92 = .ok (.iand, 1)) rfl
theorem s179_93 : mSnd 179 93 (a_push 94 (.int (iZ 1))) := snd_iconst (by decide +kernel : decode (mBc 179) 93 = .ok (.iconst 1, 1)) rfl rfl
theorem s179_94 : mSnd 179 94 (a_icmp 97 128 (fun x y => decide (¬ x = y))) := snd_icmp_ne (by decide +kernel : decode (mBc 179) 94 = .ok (.if_icmp .ne 34, 3)) rfl rfl
theorem s179_97 : mSnd 179 97 (a_lload 99 5) := snd_lload (by decide +kernel : decode (mBc 179) 97 = .ok (.lload 5, 2)) rfl
theorem s179_99 : mSnd 179 99 (a_aload 100 0) := snd_aload_n (by decide +kernel : decode (mBc 179) 99 = .ok (.aload_n 0, 1)) rfl rfl
theorem s179_100 : mSnd 179 100 (a_getf 103 4 [10]) := snd_getf f31 q906 (Or.inl rfl) (by decide +kernel : decode (mBc 179) 100 = .ok (.getfield 24, 3)) rfl
theorem s179_103 : mSnd 179 103 (a_push 104 (.int (iZ 5))) := snd_iconst (by decide +kernel : decode (mBc 179) 103 = .ok (.iconst 5, 1)) rfl rfl
theorem s179_104 : mSnd 179 104 (a_iload 106 7) := snd_iload (by decide +kernel : decode (mBc 179) 104 = .ok (.iload 7, 2)) rfl
theorem s179_106 : mSnd 179 106 (a_ii 107 (fun x y => x * y)) := snd_imul (by decide +kernel : decode (mBc 179) 106 = .ok (.imul, 1)) rfl
theorem s179_107 : mSnd 179 107 (a_push 108 (.int (iZ 4))) := snd_iconst (by decide +kernel : decode (mBc 179) 107 = .ok (.iconst 4, 1)) rfl rfl
theorem s179_108 : mSnd 179 108 (a_ii 109 (fun x y => x + y)) := snd_iadd (by decide +kernel : decode (mBc 179) 108 = .ok (.iadd, 1)) rfl
theorem s179_109 : mSnd 179 109 (a_lald 110) := snd_lald (by decide +kernel : decode (mBc 179) 109 = .ok (.laload, 1)) rfl
theorem s179_110 : mSnd 179 110 (a_lload 111 3) := snd_lload_n (by decide +kernel : decode (mBc 179) 110 = .ok (.lload_n 3, 1)) rfl rfl
theorem s179_111 : mSnd 179 111 (a_aload 112 0) := snd_aload_n (by decide +kernel : decode (mBc 179) 111 = .ok (.aload_n 0, 1)) rfl rfl
theorem s179_112 : mSnd 179 112 (a_getf 115 4 [10]) := snd_getf f31 q906 (Or.inl rfl) (by decide +kernel : decode (mBc 179) 112 = .ok (.getfield 24, 3)) rfl
theorem s179_115 : mSnd 179 115 (a_push 116 (.int (iZ 5))) := snd_iconst (by decide +kernel : decode (mBc 179) 115 = .ok (.iconst 5, 1)) rfl rfl
theorem s179_116 : mSnd 179 116 (a_iload 118 7) := snd_iload (by decide +kernel : decode (mBc 179) 116 = .ok (.iload 7, 2)) rfl
theorem s179_118 : mSnd 179 118 (a_ii 119 (fun x y => x * y)) := snd_imul (by decide +kernel : decode (mBc 179) 118 = .ok (.imul, 1)) rfl
theorem s179_119 : mSnd 179 119 (a_iload 121 7) := snd_iload (by decide +kernel : decode (mBc 179) 119 = .ok (.iload 7, 2)) rfl
theorem s179_121 : mSnd 179 121 (a_ii 122 (fun x y => x + y)) := snd_iadd (by decide +kernel : decode (mBc 179) 121 = .ok (.iadd, 1)) rfl
theorem s179_122 : mSnd 179 122 (a_lald 123) := snd_lald (by decide +kernel : decode (mBc 179) 122 = .ok (.laload, 1)) rfl
theorem s179_123 : mSnd 179 123 (a_lld 124 (fun x y => x / y)) := snd_ldiv (by decide +kernel : decode (mBc 179) 123 = .ok (.ldiv, 1)) rfl
theorem s179_124 : mSnd 179 124 (a_ll 125 (fun x y => x * y)) := snd_lmul (by decide +kernel : decode (mBc 179) 124 = .ok (.lmul, 1)) rfl
theorem s179_125 : mSnd 179 125 (a_ll 126 (fun x y => x + y)) := snd_ladd (by decide +kernel : decode (mBc 179) 125 = .ok (.ladd, 1)) rfl
theorem s179_126 : mSnd 179 126 (a_lstore 128 5) := snd_lstore (by decide +kernel : decode (mBc 179) 126 = .ok (.lstore 5, 2)) (by decide) rfl
theorem s179_128 : mSnd 179 128 (a_iinc 131 7 (iZ 1)) := snd_iinc (by decide +kernel : decode (mBc 179) 128 = .ok (.iinc 7 1, 3)) rfl (by decide) rfl
theorem s179_131 : mSnd 179 131 (a_goto 76) := snd_goto (by decide +kernel : decode (mBc 179) 131 = .ok (.goto (-55), 3)) rfl
theorem s179_134 : mSnd 179 134 (a_lload 136 5) := snd_lload (by decide +kernel : decode (mBc 179) 134 = .ok (.lload 5, 2)) rfl
theorem s179_136 : mSnd 179 136 (a_push 137 (.long (lZ 0))) := snd_lconst (by decide +kernel : decode (mBc 179) 136 = .ok (.lconst 0, 1)) (by decide +kernel) rfl
theorem s179_137 : mSnd 179 137 (a_lcmp 138) := snd_lcmp (by decide +kernel : decode (mBc 179) 137 = .ok (.lcmp, 1)) rfl
theorem s179_138 : mSnd 179 138 (a_if 141 143 (fun x => decide (0 ≤ x))) := snd_if_ge (by decide +kernel : decode (mBc 179) 138 = .ok (.ifCond .ge 5, 3)) rfl rfl
theorem s179_141 : mSnd 179 141 (a_push 142 (.int (iZ 0))) := snd_iconst (by decide +kernel : decode (mBc 179) 141 = .ok (.iconst 0, 1)) rfl rfl
theorem s179_142 : mSnd 179 142 (a_zret 0 0) := snd_zret rfl rfl rfl (by decide +kernel : decode (mBc 179) 142 = .ok (.ireturn, 1))
theorem s179_143 : mSnd 179 143 (a_iinc 146 2 (iZ 1)) := snd_iinc (by decide +kernel : decode (mBc 179) 143 = .ok (.iinc 2 1, 3)) rfl (by decide) rfl
theorem s179_146 : mSnd 179 146 (a_goto 2) := snd_goto (by decide +kernel : decode (mBc 179) 146 = .ok (.goto (-144), 3)) rfl
theorem s179_149 : mSnd 179 149 (a_push 150 (.int (iZ 1))) := snd_iconst (by decide +kernel : decode (mBc 179) 149 = .ok (.iconst 1, 1)) rfl rfl
theorem s179_150 : mSnd 179 150 (a_zret 0 0) := snd_zret rfl rfl rfl (by decide +kernel : decode (mBc 179) 150 = .ok (.ireturn, 1))
theorem ok179 : mOkl2 179 ct179 := ⟨⟨s179_0, s179_1, s179_2, s179_3, s179_4, s179_5, s179_8, s179_11, s179_12, s179_13, s179_14, s179_16, trivial⟩, ⟨s179_18, s179_19, s179_22, s179_23, s179_24, s179_27, s179_28, s179_29, s179_31, s179_32, s179_33, s179_34, trivial⟩, ⟨s179_35, s179_38, s179_39, s179_42, s179_43, s179_45, s179_46, s179_48, s179_49, s179_50, s179_53, s179_54, trivial⟩, ⟨s179_55, s179_56, s179_59, s179_62, s179_63, s179_64, s179_65, s179_68, s179_69, s179_70, s179_71, s179_73, trivial⟩, ⟨s179_74, s179_76, s179_78, s179_79, s179_82, s179_83, s179_84, s179_87, s179_88, s179_90, s179_91, s179_92, trivial⟩, ⟨s179_93, s179_94, s179_97, s179_99, s179_100, s179_103, s179_104, s179_106, s179_107, s179_108, s179_109, s179_110, trivial⟩, ⟨s179_111, s179_112, s179_115, s179_116, s179_118, s179_119, s179_121, s179_122, s179_123, s179_124, s179_125, s179_126, trivial⟩, ⟨s179_128, s179_131, s179_134, s179_136, s179_137, s179_138, s179_141, s179_142, s179_143, s179_146, s179_149, s179_150, trivial⟩, trivial⟩
theorem s180_0 : mSnd 180 0 (a_push 1 (.int (iZ 0))) := snd_iconst (by decide +kernel : decode (mBc 180) 0 = .ok (.iconst 0, 1)) rfl rfl
theorem s180_1 : mSnd 180 1 (a_istore 2 3) := snd_istore_n (by decide +kernel : decode (mBc 180) 1 = .ok (.istore_n 3, 1)) rfl (by decide) rfl
theorem s180_2 : mSnd 180 2 (a_iload 3 3) := snd_iload_n (by decide +kernel : decode (mBc 180) 2 = .ok (.iload_n 3, 1)) rfl rfl
theorem s180_3 : mSnd 180 3 (a_iload 4 1) := snd_iload_n (by decide +kernel : decode (mBc 180) 3 = .ok (.iload_n 1, 1)) rfl rfl
theorem s180_4 : mSnd 180 4 (a_icmp 7 78 (fun x y => decide (y ≤ x))) := snd_icmp_ge (by decide +kernel : decode (mBc 180) 4 = .ok (.if_icmp .ge 74, 3)) rfl rfl
theorem s180_7 : mSnd 180 7 (a_aload 8 0) := snd_aload_n (by decide +kernel : decode (mBc 180) 7 = .ok (.aload_n 0, 1)) rfl rfl
theorem s180_8 : mSnd 180 8 (a_getf 11 4 [10]) := snd_getf f31 q906 (Or.inl rfl) (by decide +kernel : decode (mBc 180) 8 = .ok (.getfield 24, 3)) rfl
theorem s180_11 : mSnd 180 11 (a_push 12 (.int (iZ 5))) := snd_iconst (by decide +kernel : decode (mBc 180) 11 = .ok (.iconst 5, 1)) rfl rfl
theorem s180_12 : mSnd 180 12 (a_iload 13 3) := snd_iload_n (by decide +kernel : decode (mBc 180) 12 = .ok (.iload_n 3, 1)) rfl rfl
theorem s180_13 : mSnd 180 13 (a_ii 14 (fun x y => x * y)) := snd_imul (by decide +kernel : decode (mBc 180) 13 = .ok (.imul, 1)) rfl
theorem s180_14 : mSnd 180 14 (a_push 15 (.int (iZ 4))) := snd_iconst (by decide +kernel : decode (mBc 180) 14 = .ok (.iconst 4, 1)) rfl rfl
theorem s180_15 : mSnd 180 15 (a_ii 16 (fun x y => x + y)) := snd_iadd (by decide +kernel : decode (mBc 180) 15 = .ok (.iadd, 1)) rfl
theorem s180_16 : mSnd 180 16 (a_lald 17) := snd_lald (by decide +kernel : decode (mBc 180) 16 = .ok (.laload, 1)) rfl
theorem s180_17 : mSnd 180 17 (a_aload 18 0) := snd_aload_n (by decide +kernel : decode (mBc 180) 17 = .ok (.aload_n 0, 1)) rfl rfl
theorem s180_18 : mSnd 180 18 (a_getf 21 7 [10]) := snd_getf f34 q909 (Or.inl rfl) (by decide +kernel : decode (mBc 180) 18 = .ok (.getfield 33, 3)) rfl
theorem s180_21 : mSnd 180 21 (a_push 22 (.int (iZ 4))) := snd_iconst (by decide +kernel : decode (mBc 180) 21 = .ok (.iconst 4, 1)) rfl rfl
theorem s180_22 : mSnd 180 22 (a_iload 23 2) := snd_iload_n (by decide +kernel : decode (mBc 180) 22 = .ok (.iload_n 2, 1)) rfl rfl
theorem s180_23 : mSnd 180 23 (a_ii 24 (fun x y => x * y)) := snd_imul (by decide +kernel : decode (mBc 180) 23 = .ok (.imul, 1)) rfl
theorem s180_24 : mSnd 180 24 (a_iload 25 3) := snd_iload_n (by decide +kernel : decode (mBc 180) 24 = .ok (.iload_n 3, 1)) rfl rfl
theorem s180_25 : mSnd 180 25 (a_ii 26 (fun x y => x + y)) := snd_iadd (by decide +kernel : decode (mBc 180) 25 = .ok (.iadd, 1)) rfl
theorem s180_26 : mSnd 180 26 (a_lald 27) := snd_lald (by decide +kernel : decode (mBc 180) 26 = .ok (.laload, 1)) rfl
theorem s180_27 : mSnd 180 27 (a_ll 28 (fun x y => x * y)) := snd_lmul (by decide +kernel : decode (mBc 180) 27 = .ok (.lmul, 1)) rfl
theorem s180_28 : mSnd 180 28 (a_aload 29 0) := snd_aload_n (by decide +kernel : decode (mBc 180) 28 = .ok (.aload_n 0, 1)) rfl rfl
theorem s180_29 : mSnd 180 29 (a_getf 32 6 [10]) := snd_getf f33 q908 (Or.inl rfl) (by decide +kernel : decode (mBc 180) 29 = .ok (.getfield 30, 3)) rfl
theorem s180_32 : mSnd 180 32 (a_push 33 (.int (iZ 4))) := snd_iconst (by decide +kernel : decode (mBc 180) 32 = .ok (.iconst 4, 1)) rfl rfl
theorem s180_33 : mSnd 180 33 (a_iload 34 2) := snd_iload_n (by decide +kernel : decode (mBc 180) 33 = .ok (.iload_n 2, 1)) rfl rfl
theorem s180_34 : mSnd 180 34 (a_ii 35 (fun x y => x * y)) := snd_imul (by decide +kernel : decode (mBc 180) 34 = .ok (.imul, 1)) rfl
theorem s180_35 : mSnd 180 35 (a_iload 36 3) := snd_iload_n (by decide +kernel : decode (mBc 180) 35 = .ok (.iload_n 3, 1)) rfl rfl
theorem s180_36 : mSnd 180 36 (a_ii 37 (fun x y => x + y)) := snd_iadd (by decide +kernel : decode (mBc 180) 36 = .ok (.iadd, 1)) rfl
theorem s180_37 : mSnd 180 37 (a_lald 38) := snd_lald (by decide +kernel : decode (mBc 180) 37 = .ok (.laload, 1)) rfl
theorem s180_38 : mSnd 180 38 (a_aload 39 0) := snd_aload_n (by decide +kernel : decode (mBc 180) 38 = .ok (.aload_n 0, 1)) rfl rfl
theorem s180_39 : mSnd 180 39 (a_getf 42 4 [10]) := snd_getf f31 q906 (Or.inl rfl) (by decide +kernel : decode (mBc 180) 39 = .ok (.getfield 24, 3)) rfl
theorem s180_42 : mSnd 180 42 (a_push 43 (.int (iZ 5))) := snd_iconst (by decide +kernel : decode (mBc 180) 42 = .ok (.iconst 5, 1)) rfl rfl
theorem s180_43 : mSnd 180 43 (a_iload 44 3) := snd_iload_n (by decide +kernel : decode (mBc 180) 43 = .ok (.iload_n 3, 1)) rfl rfl
theorem s180_44 : mSnd 180 44 (a_ii 45 (fun x y => x * y)) := snd_imul (by decide +kernel : decode (mBc 180) 44 = .ok (.imul, 1)) rfl
theorem s180_45 : mSnd 180 45 (a_iload 46 3) := snd_iload_n (by decide +kernel : decode (mBc 180) 45 = .ok (.iload_n 3, 1)) rfl rfl
theorem s180_46 : mSnd 180 46 (a_ii 47 (fun x y => x + y)) := snd_iadd (by decide +kernel : decode (mBc 180) 46 = .ok (.iadd, 1)) rfl
theorem s180_47 : mSnd 180 47 (a_lald 48) := snd_lald (by decide +kernel : decode (mBc 180) 47 = .ok (.laload, 1)) rfl
theorem s180_48 : mSnd 180 48 (a_ll 49 (fun x y => x * y)) := snd_lmul (by decide +kernel : decode (mBc 180) 48 = .ok (.lmul, 1)) rfl
theorem s180_49 : mSnd 180 49 (a_ll 50 (fun x y => x - y)) := snd_lsub (by decide +kernel : decode (mBc 180) 49 = .ok (.lsub, 1)) rfl
theorem s180_50 : mSnd 180 50 (a_lstore 52 4) := snd_lstore (by decide +kernel : decode (mBc 180) 50 = .ok (.lstore 4, 2)) (by decide) rfl
theorem s180_52 : mSnd 180 52 (a_lload 54 4) := snd_lload (by decide +kernel : decode (mBc 180) 52 = .ok (.lload 4, 2)) rfl
theorem s180_54 : mSnd 180 54 (a_push 55 (.long (lZ 0))) := snd_lconst (by decide +kernel : decode (mBc 180) 54 = .ok (.lconst 0, 1)) (by decide +kernel) rfl
theorem s180_55 : mSnd 180 55 (a_lcmp 56) := snd_lcmp (by decide +kernel : decode (mBc 180) 55 = .ok (.lcmp, 1)) rfl
theorem s180_56 : mSnd 180 56 (a_if 59 72 (fun x => decide (x = 0))) := snd_if_eq (by decide +kernel : decode (mBc 180) 56 = .ok (.ifCond .eq 16, 3)) rfl rfl
theorem s180_59 : mSnd 180 59 (a_lload 61 4) := snd_lload (by decide +kernel : decode (mBc 180) 59 = .ok (.lload 4, 2)) rfl
theorem s180_61 : mSnd 180 61 (a_push 62 (.long (lZ 0))) := snd_lconst (by decide +kernel : decode (mBc 180) 61 = .ok (.lconst 0, 1)) (by decide +kernel) rfl
theorem s180_62 : mSnd 180 62 (a_lcmp 63) := snd_lcmp (by decide +kernel : decode (mBc 180) 62 = .ok (.lcmp, 1)) rfl
theorem s180_63 : mSnd 180 63 (a_if 66 70 (fun x => decide (0 ≤ x))) := snd_if_ge (by decide +kernel : decode (mBc 180) 63 = .ok (.ifCond .ge 7, 3)) rfl rfl
theorem s180_66 : mSnd 180 66 (a_push 67 (.int (iZ (-1)))) := snd_iconst (by decide +kernel : decode (mBc 180) 66 = .ok (.iconst (-1), 1)) rfl rfl
theorem s180_67 : mSnd 180 67 (a_goto 71) := snd_goto (by decide +kernel : decode (mBc 180) 67 = .ok (.goto 4, 3)) rfl
theorem s180_70 : mSnd 180 70 (a_push 71 (.int (iZ 1))) := snd_iconst (by decide +kernel : decode (mBc 180) 70 = .ok (.iconst 1, 1)) rfl rfl
theorem s180_71 : mSnd 180 71 (a_iret 0 0) := snd_iret rfl rfl rfl (by decide +kernel : decode (mBc 180) 71 = .ok (.ireturn, 1))
theorem s180_72 : mSnd 180 72 (a_iinc 75 3 (iZ 1)) := snd_iinc (by decide +kernel : decode (mBc 180) 72 = .ok (.iinc 3 1, 3)) rfl (by decide) rfl
theorem s180_75 : mSnd 180 75 (a_goto 2) := snd_goto (by decide +kernel : decode (mBc 180) 75 = .ok (.goto (-73), 3)) rfl
theorem s180_78 : mSnd 180 78 (a_push 79 (.int (iZ 0))) := snd_iconst (by decide +kernel : decode (mBc 180) 78 = .ok (.iconst 0, 1)) rfl rfl
theorem s180_79 : mSnd 180 79 (a_iret 0 0) := snd_iret rfl rfl rfl (by decide +kernel : decode (mBc 180) 79 = .ok (.ireturn, 1))
theorem ok180 : mOkl2 180 ct180 := ⟨⟨s180_0, s180_1, s180_2, s180_3, s180_4, s180_7, s180_8, s180_11, s180_12, s180_13, s180_14, s180_15, trivial⟩, ⟨s180_16, s180_17, s180_18, s180_21, s180_22, s180_23, s180_24, s180_25, s180_26, s180_27, s180_28, s180_29, trivial⟩, ⟨s180_32, s180_33, s180_34, s180_35, s180_36, s180_37, s180_38, s180_39, s180_42, s180_43, s180_44, s180_45, trivial⟩, ⟨s180_46, s180_47, s180_48, s180_49, s180_50, s180_52, s180_54, s180_55, s180_56, s180_59, s180_61, s180_62, trivial⟩, ⟨s180_63, s180_66, s180_67, s180_70, s180_71, s180_72, s180_75, s180_78, s180_79, trivial⟩, trivial⟩
theorem s181_0 : mSnd 181 0 (a_push 1 (.int (iZ 0))) := snd_iconst (by decide +kernel : decode (mBc 181) 0 = .ok (.iconst 0, 1)) rfl rfl
theorem s181_1 : mSnd 181 1 (a_istore 2 2) := snd_istore_n (by decide +kernel : decode (mBc 181) 1 = .ok (.istore_n 2, 1)) rfl (by decide) rfl
theorem s181_2 : mSnd 181 2 (a_iload 3 2) := snd_iload_n (by decide +kernel : decode (mBc 181) 2 = .ok (.iload_n 2, 1)) rfl rfl
theorem s181_3 : mSnd 181 3 (a_aload 4 0) := snd_aload_n (by decide +kernel : decode (mBc 181) 3 = .ok (.aload_n 0, 1)) rfl rfl
theorem s181_4 : mSnd 181 4 (a_getf 7 5 [10]) := snd_getf f32 q907 (Or.inl rfl) (by decide +kernel : decode (mBc 181) 4 = .ok (.getfield 27, 3)) rfl
theorem s181_7 : mSnd 181 7 (a_icmp 10 25 (fun x y => decide (y ≤ x))) := snd_icmp_ge (by decide +kernel : decode (mBc 181) 7 = .ok (.if_icmp .ge 18, 3)) rfl rfl
theorem s181_10 : mSnd 181 10 (a_aload 11 0) := snd_aload_n (by decide +kernel : decode (mBc 181) 10 = .ok (.aload_n 0, 1)) rfl rfl
theorem s181_11 : mSnd 181 11 (a_iload 12 1) := snd_iload_n (by decide +kernel : decode (mBc 181) 11 = .ok (.iload_n 1, 1)) rfl rfl
theorem s181_12 : mSnd 181 12 (a_iload 13 2) := snd_iload_n (by decide +kernel : decode (mBc 181) 12 = .ok (.iload_n 2, 1)) rfl rfl
theorem s181_13 : mSnd 181 13 (a_invV 16 2 0 0 [(10, 180, 0, 0)]) := snd_invV v181_168 rfl rfl (by decide +kernel : decode (mBc 181) 13 = .ok (.invokevirtual 168, 3)) rfl
theorem s181_16 : mSnd 181 16 (a_if 19 25 (fun x => decide (x ≤ 0))) := snd_if_le (by decide +kernel : decode (mBc 181) 16 = .ok (.ifCond .le 9, 3)) rfl rfl
theorem s181_19 : mSnd 181 19 (a_iinc 22 2 (iZ 1)) := snd_iinc (by decide +kernel : decode (mBc 181) 19 = .ok (.iinc 2 1, 3)) rfl (by decide) rfl
theorem s181_22 : mSnd 181 22 (a_goto 2) := snd_goto (by decide +kernel : decode (mBc 181) 22 = .ok (.goto (-20), 3)) rfl
theorem s181_25 : mSnd 181 25 (a_iload 26 2) := snd_iload_n (by decide +kernel : decode (mBc 181) 25 = .ok (.iload_n 2, 1)) rfl rfl
theorem s181_26 : mSnd 181 26 (a_aload 27 0) := snd_aload_n (by decide +kernel : decode (mBc 181) 26 = .ok (.aload_n 0, 1)) rfl rfl
theorem s181_27 : mSnd 181 27 (a_getf 30 5 [10]) := snd_getf f32 q907 (Or.inl rfl) (by decide +kernel : decode (mBc 181) 27 = .ok (.getfield 27, 3)) rfl
theorem s181_30 : mSnd 181 30 (a_icmp 33 43 (fun x y => decide (y ≤ x))) := snd_icmp_ge (by decide +kernel : decode (mBc 181) 30 = .ok (.if_icmp .ge 13, 3)) rfl rfl
theorem s181_33 : mSnd 181 33 (a_aload 34 0) := snd_aload_n (by decide +kernel : decode (mBc 181) 33 = .ok (.aload_n 0, 1)) rfl rfl
theorem s181_34 : mSnd 181 34 (a_iload 35 1) := snd_iload_n (by decide +kernel : decode (mBc 181) 34 = .ok (.iload_n 1, 1)) rfl rfl
theorem s181_35 : mSnd 181 35 (a_iload 36 2) := snd_iload_n (by decide +kernel : decode (mBc 181) 35 = .ok (.iload_n 2, 1)) rfl rfl
theorem s181_36 : mSnd 181 36 (a_invV 39 2 0 0 [(10, 180, 0, 0)]) := snd_invV v181_168 rfl rfl (by decide +kernel : decode (mBc 181) 36 = .ok (.invokevirtual 168, 3)) rfl
theorem s181_39 : mSnd 181 39 (a_if 42 43 (fun x => decide (¬ x = 0))) := snd_if_ne (by decide +kernel : decode (mBc 181) 39 = .ok (.ifCond .ne 4, 3)) rfl rfl
theorem s181_42 : mSnd 181 42 (a_vret 0 0) := snd_vret rfl rfl rfl (by decide +kernel : decode (mBc 181) 42 = .ok (.return_, 1))
theorem s181_43 : mSnd 181 43 (a_push 44 (.int (iZ 4))) := snd_iconst (by decide +kernel : decode (mBc 181) 43 = .ok (.iconst 4, 1)) rfl rfl
theorem s181_44 : mSnd 181 44 (a_aload 45 0) := snd_aload_n (by decide +kernel : decode (mBc 181) 44 = .ok (.aload_n 0, 1)) rfl rfl
theorem s181_45 : mSnd 181 45 (a_getf 48 5 [10]) := snd_getf f32 q907 (Or.inl rfl) (by decide +kernel : decode (mBc 181) 45 = .ok (.getfield 27, 3)) rfl
theorem s181_48 : mSnd 181 48 (a_ii 49 (fun x y => x * y)) := snd_imul (by decide +kernel : decode (mBc 181) 48 = .ok (.imul, 1)) rfl
theorem s181_49 : mSnd 181 49 (a_push 50 (.int (iZ 1))) := snd_iconst (by decide +kernel : decode (mBc 181) 49 = .ok (.iconst 1, 1)) rfl rfl
theorem s181_50 : mSnd 181 50 (a_ii 51 (fun x y => x - y)) := snd_isub (by decide +kernel : decode (mBc 181) 50 = .ok (.isub, 1)) rfl
theorem s181_51 : mSnd 181 51 (a_istore 52 3) := snd_istore_n (by decide +kernel : decode (mBc 181) 51 = .ok (.istore_n 3, 1)) rfl (by decide) rfl
theorem s181_52 : mSnd 181 52 (a_iload 53 3) := snd_iload_n (by decide +kernel : decode (mBc 181) 52 = .ok (.iload_n 3, 1)) rfl rfl
theorem s181_53 : mSnd 181 53 (a_push 54 (.int (iZ 4))) := snd_iconst (by decide +kernel : decode (mBc 181) 53 = .ok (.iconst 4, 1)) rfl rfl
theorem s181_54 : mSnd 181 54 (a_iload 55 2) := snd_iload_n (by decide +kernel : decode (mBc 181) 54 = .ok (.iload_n 2, 1)) rfl rfl
theorem s181_55 : mSnd 181 55 (a_ii 56 (fun x y => x * y)) := snd_imul (by decide +kernel : decode (mBc 181) 55 = .ok (.imul, 1)) rfl
theorem s181_56 : mSnd 181 56 (a_icmp 59 93 (fun x y => decide (x < y))) := snd_icmp_lt (by decide +kernel : decode (mBc 181) 56 = .ok (.if_icmp .lt 37, 3)) rfl rfl
theorem s181_59 : mSnd 181 59 (a_aload 60 0) := snd_aload_n (by decide +kernel : decode (mBc 181) 59 = .ok (.aload_n 0, 1)) rfl rfl
theorem s181_60 : mSnd 181 60 (a_getf 63 6 [10]) := snd_getf f33 q908 (Or.inl rfl) (by decide +kernel : decode (mBc 181) 60 = .ok (.getfield 30, 3)) rfl
theorem s181_63 : mSnd 181 63 (a_iload 64 3) := snd_iload_n (by decide +kernel : decode (mBc 181) 63 = .ok (.iload_n 3, 1)) rfl rfl
theorem s181_64 : mSnd 181 64 (a_push 65 (.int (iZ 4))) := snd_iconst (by decide +kernel : decode (mBc 181) 64 = .ok (.iconst 4, 1)) rfl rfl
theorem s181_65 : mSnd 181 65 (a_ii 66 (fun x y => x + y)) := snd_iadd (by decide +kernel : decode (mBc 181) 65 = .ok (.iadd, 1)) rfl
theorem s181_66 : mSnd 181 66 (a_aload 67 0) := snd_aload_n (by decide +kernel : decode (mBc 181) 66 = .ok (.aload_n 0, 1)) rfl rfl
theorem s181_67 : mSnd 181 67 (a_getf 70 6 [10]) := snd_getf f33 q908 (Or.inl rfl) (by decide +kernel : decode (mBc 181) 67 = .ok (.getfield 30, 3)) rfl
theorem s181_70 : mSnd 181 70 (a_iload 71 3) := snd_iload_n (by decide +kernel : decode (mBc 181) 70 = .ok (.iload_n 3, 1)) rfl rfl
theorem s181_71 : mSnd 181 71 (a_lald 72) := snd_lald (by decide +kernel : decode (mBc 181) 71 = .ok (.laload, 1)) rfl
theorem s181_72 : mSnd 181 72 (a_last 73) := snd_last (by decide +kernel : decode (mBc 181) 72 = .ok (.lastore, 1)) rfl
theorem s181_73 : mSnd 181 73 (a_aload 74 0) := snd_aload_n (by decide +kernel : decode (mBc 181) 73 = .ok (.aload_n 0, 1)) rfl rfl
theorem s181_74 : mSnd 181 74 (a_getf 77 7 [10]) := snd_getf f34 q909 (Or.inl rfl) (by decide +kernel : decode (mBc 181) 74 = .ok (.getfield 33, 3)) rfl
theorem s181_77 : mSnd 181 77 (a_iload 78 3) := snd_iload_n (by decide +kernel : decode (mBc 181) 77 = .ok (.iload_n 3, 1)) rfl rfl
theorem s181_78 : mSnd 181 78 (a_push 79 (.int (iZ 4))) := snd_iconst (by decide +kernel : decode (mBc 181) 78 = .ok (.iconst 4, 1)) rfl rfl
theorem s181_79 : mSnd 181 79 (a_ii 80 (fun x y => x + y)) := snd_iadd (by decide +kernel : decode (mBc 181) 79 = .ok (.iadd, 1)) rfl
theorem s181_80 : mSnd 181 80 (a_aload 81 0) := snd_aload_n (by decide +kernel : decode (mBc 181) 80 = .ok (.aload_n 0, 1)) rfl rfl
theorem s181_81 : mSnd 181 81 (a_getf 84 7 [10]) := snd_getf f34 q909 (Or.inl rfl) (by decide +kernel : decode (mBc 181) 81 = .ok (.getfield 33, 3)) rfl
theorem s181_84 : mSnd 181 84 (a_iload 85 3) := snd_iload_n (by decide +kernel : decode (mBc 181) 84 = .ok (.iload_n 3, 1)) rfl rfl
theorem s181_85 : mSnd 181 85 (a_lald 86) := snd_lald (by decide +kernel : decode (mBc 181) 85 = .ok (.laload, 1)) rfl
theorem s181_86 : mSnd 181 86 (a_last 87) := snd_last (by decide +kernel : decode (mBc 181) 86 = .ok (.lastore, 1)) rfl
theorem s181_87 : mSnd 181 87 (a_iinc 90 3 (iZ (-1))) := snd_iinc (by decide +kernel : decode (mBc 181) 87 = .ok (.iinc 3 (-1), 3)) rfl (by decide) rfl
theorem s181_90 : mSnd 181 90 (a_goto 52) := snd_goto (by decide +kernel : decode (mBc 181) 90 = .ok (.goto (-38), 3)) rfl
theorem s181_93 : mSnd 181 93 (a_push 94 (.int (iZ 0))) := snd_iconst (by decide +kernel : decode (mBc 181) 93 = .ok (.iconst 0, 1)) rfl rfl
theorem s181_94 : mSnd 181 94 (a_istore 95 3) := snd_istore_n (by decide +kernel : decode (mBc 181) 94 = .ok (.istore_n 3, 1)) rfl (by decide) rfl
theorem s181_95 : mSnd 181 95 (a_iload 96 3) := snd_iload_n (by decide +kernel : decode (mBc 181) 95 = .ok (.iload_n 3, 1)) rfl rfl
theorem s181_96 : mSnd 181 96 (a_iload 97 1) := snd_iload_n (by decide +kernel : decode (mBc 181) 96 = .ok (.iload_n 1, 1)) rfl rfl
theorem s181_97 : mSnd 181 97 (a_icmp 100 176 (fun x y => decide (y ≤ x))) := snd_icmp_ge (by decide +kernel : decode (mBc 181) 97 = .ok (.if_icmp .ge 79, 3)) rfl rfl
theorem s181_100 : mSnd 181 100 (a_aload 101 0) := snd_aload_n (by decide +kernel : decode (mBc 181) 100 = .ok (.aload_n 0, 1)) rfl rfl
theorem s181_101 : mSnd 181 101 (a_getf 104 6 [10]) := snd_getf f33 q908 (Or.inl rfl) (by decide +kernel : decode (mBc 181) 101 = .ok (.getfield 30, 3)) rfl
theorem s181_104 : mSnd 181 104 (a_push 105 (.int (iZ 4))) := snd_iconst (by decide +kernel : decode (mBc 181) 104 = .ok (.iconst 4, 1)) rfl rfl
theorem s181_105 : mSnd 181 105 (a_iload 106 2) := snd_iload_n (by decide +kernel : decode (mBc 181) 105 = .ok (.iload_n 2, 1)) rfl rfl
theorem s181_106 : mSnd 181 106 (a_ii 107 (fun x y => x * y)) := snd_imul (by decide +kernel : decode (mBc 181) 106 = .ok (.imul, 1)) rfl
theorem s181_107 : mSnd 181 107 (a_iload 108 3) := snd_iload_n (by decide +kernel : decode (mBc 181) 107 = .ok (.iload_n 3, 1)) rfl rfl
theorem s181_108 : mSnd 181 108 (a_ii 109 (fun x y => x + y)) := snd_iadd (by decide +kernel : decode (mBc 181) 108 = .ok (.iadd, 1)) rfl
theorem s181_109 : mSnd 181 109 (a_aload 110 0) := snd_aload_n (by decide +kernel : decode (mBc 181) 109 = .ok (.aload_n 0, 1)) rfl rfl
theorem s181_110 : mSnd 181 110 (a_aload 111 0) := snd_aload_n (by decide +kernel : decode (mBc 181) 110 = .ok (.aload_n 0, 1)) rfl rfl
theorem s181_111 : mSnd 181 111 (a_getf 114 4 [10]) := snd_getf f31 q906 (Or.inl rfl) (by decide +kernel : decode (mBc 181) 111 = .ok (.getfield 24, 3)) rfl
theorem s181_114 : mSnd 181 114 (a_push 115 (.int (iZ 5))) := snd_iconst (by decide +kernel : decode (mBc 181) 114 = .ok (.iconst 5, 1)) rfl rfl
theorem s181_115 : mSnd 181 115 (a_iload 116 3) := snd_iload_n (by decide +kernel : decode (mBc 181) 115 = .ok (.iload_n 3, 1)) rfl rfl
theorem s181_116 : mSnd 181 116 (a_ii 117 (fun x y => x * y)) := snd_imul (by decide +kernel : decode (mBc 181) 116 = .ok (.imul, 1)) rfl
theorem s181_117 : mSnd 181 117 (a_push 118 (.int (iZ 4))) := snd_iconst (by decide +kernel : decode (mBc 181) 117 = .ok (.iconst 4, 1)) rfl rfl
theorem s181_118 : mSnd 181 118 (a_ii 119 (fun x y => x + y)) := snd_iadd (by decide +kernel : decode (mBc 181) 118 = .ok (.iadd, 1)) rfl
theorem s181_119 : mSnd 181 119 (a_lald 120) := snd_lald (by decide +kernel : decode (mBc 181) 119 = .ok (.laload, 1)) rfl
theorem s181_120 : mSnd 181 120 (a_aload 121 0) := snd_aload_n (by decide +kernel : decode (mBc 181) 120 = .ok (.aload_n 0, 1)) rfl rfl
theorem s181_121 : mSnd 181 121 (a_getf 124 4 [10]) := snd_getf f31 q906 (Or.inl rfl) (by decide +kernel : decode (mBc 181) 121 = .ok (.getfield 24, 3)) rfl
theorem s181_124 : mSnd 181 124 (a_push 125 (.int (iZ 5))) := snd_iconst (by decide +kernel : decode (mBc 181) 124 = .ok (.iconst 5, 1)) rfl rfl
theorem s181_125 : mSnd 181 125 (a_iload 126 3) := snd_iload_n (by decide +kernel : decode (mBc 181) 125 = .ok (.iload_n 3, 1)) rfl rfl
theorem s181_126 : mSnd 181 126 (a_ii 127 (fun x y => x * y)) := snd_imul (by decide +kernel : decode (mBc 181) 126 = .ok (.imul, 1)) rfl
theorem s181_127 : mSnd 181 127 (a_iload 128 3) := snd_iload_n (by decide +kernel : decode (mBc 181) 127 = .ok (.iload_n 3, 1)) rfl rfl
theorem s181_128 : mSnd 181 128 (a_ii 129 (fun x y => x + y)) := snd_iadd (by decide +kernel : decode (mBc 181) 128 = .ok (.iadd, 1)) rfl
theorem s181_129 : mSnd 181 129 (a_lald 130) := snd_lald (by decide +kernel : decode (mBc 181) 129 = .ok (.laload, 1)) rfl
theorem s181_130 : mSnd 181 130 (a_push 131 (.int (iZ 0))) := snd_iconst (by decide +kernel : decode (mBc 181) 130 = .ok (.iconst 0, 1)) rfl rfl
theorem s181_131 : mSnd 181 131 (a_invV 134 3 0 0 [(10, 161, 0, 0)]) := snd_invV v181_150 rfl rfl (by decide +kernel : decode (mBc 181) 131 = .ok (.invokevirtual 150, 3)) rfl
theorem s181_134 : mSnd 181 134 (a_last 135) := snd_last (by decide +kernel : decode (mBc 181) 134 = .ok (.lastore, 1)) rfl
theorem s181_135 : mSnd 181 135 (a_aload 136 0) := snd_aload_n (by decide +kernel : decode (mBc 181) 135 = .ok (.aload_n 0, 1)) rfl rfl
theorem s181_136 : mSnd 181 136 (a_getf 139 7 [10]) := snd_getf f34 q909 (Or.inl rfl) (by decide +kernel : decode (mBc 181) 136 = .ok (.getfield 33, 3)) rfl
theorem s181_139 : mSnd 181 139 (a_push 140 (.int (iZ 4))) := snd_iconst (by decide +kernel : decode (mBc 181) 139 = .ok (.iconst 4, 1)) rfl rfl
theorem s181_140 : mSnd 181 140 (a_iload 141 2) := snd_iload_n (by decide +kernel : decode (mBc 181) 140 = .ok (.iload_n 2, 1)) rfl rfl
theorem s181_141 : mSnd 181 141 (a_ii 142 (fun x y => x * y)) := snd_imul (by decide +kernel : decode (mBc 181) 141 = .ok (.imul, 1)) rfl
theorem s181_142 : mSnd 181 142 (a_iload 143 3) := snd_iload_n (by decide +kernel : decode (mBc 181) 142 = .ok (.iload_n 3, 1)) rfl rfl
theorem s181_143 : mSnd 181 143 (a_ii 144 (fun x y => x + y)) := snd_iadd (by decide +kernel : decode (mBc 181) 143 = .ok (.iadd, 1)) rfl
theorem s181_144 : mSnd 181 144 (a_aload 145 0) := snd_aload_n (by decide +kernel : decode (mBc 181) 144 = .ok (.aload_n 0, 1)) rfl rfl
theorem s181_145 : mSnd 181 145 (a_aload 146 0) := snd_aload_n (by decide +kernel : decode (mBc 181) 145 = .ok (.aload_n 0, 1)) rfl rfl
theorem s181_146 : mSnd 181 146 (a_getf 149 4 [10]) := snd_getf f31 q906 (Or.inl rfl) (by decide +kernel : decode (mBc 181) 146 = .ok (.getfield 24, 3)) rfl
theorem s181_149 : mSnd 181 149 (a_push 150 (.int (iZ 5))) := snd_iconst (by decide +kernel : decode (mBc 181) 149 = .ok (.iconst 5, 1)) rfl rfl
theorem s181_150 : mSnd 181 150 (a_iload 151 3) := snd_iload_n (by decide +kernel : decode (mBc 181) 150 = .ok (.iload_n 3, 1)) rfl rfl
theorem s181_151 : mSnd 181 151 (a_ii 152 (fun x y => x * y)) := snd_imul (by decide +kernel : decode (mBc 181) 151 = .ok (.imul, 1)) rfl
theorem s181_152 : mSnd 181 152 (a_push 153 (.int (iZ 4))) := snd_iconst (by decide +kernel : decode (mBc 181) 152 = .ok (.iconst 4, 1)) rfl rfl
theorem s181_153 : mSnd 181 153 (a_ii 154 (fun x y => x + y)) := snd_iadd (by decide +kernel : decode (mBc 181) 153 = .ok (.iadd, 1)) rfl
theorem s181_154 : mSnd 181 154 (a_lald 155) := snd_lald (by decide +kernel : decode (mBc 181) 154 = .ok (.laload, 1)) rfl
theorem s181_155 : mSnd 181 155 (a_aload 156 0) := snd_aload_n (by decide +kernel : decode (mBc 181) 155 = .ok (.aload_n 0, 1)) rfl rfl
theorem s181_156 : mSnd 181 156 (a_getf 159 4 [10]) := snd_getf f31 q906 (Or.inl rfl) (by decide +kernel : decode (mBc 181) 156 = .ok (.getfield 24, 3)) rfl
theorem s181_159 : mSnd 181 159 (a_push 160 (.int (iZ 5))) := snd_iconst (by decide +kernel : decode (mBc 181) 159 = .ok (.iconst 5, 1)) rfl rfl
theorem s181_160 : mSnd 181 160 (a_iload 161 3) := snd_iload_n (by decide +kernel : decode (mBc 181) 160 = .ok (.iload_n 3, 1)) rfl rfl
theorem s181_161 : mSnd 181 161 (a_ii 162 (fun x y => x * y)) := snd_imul (by decide +kernel : decode (mBc 181) 161 = .ok (.imul, 1)) rfl
theorem s181_162 : mSnd 181 162 (a_iload 163 3) := snd_iload_n (by decide +kernel : decode (mBc 181) 162 = .ok (.iload_n 3, 1)) rfl rfl
theorem s181_163 : mSnd 181 163 (a_ii 164 (fun x y => x + y)) := snd_iadd (by decide +kernel : decode (mBc 181) 163 = .ok (.iadd, 1)) rfl
theorem s181_164 : mSnd 181 164 (a_lald 165) := snd_lald (by decide +kernel : decode (mBc 181) 164 = .ok (.laload, 1)) rfl
theorem s181_165 : mSnd 181 165 (a_push 166 (.int (iZ 1))) := snd_iconst (by decide +kernel : decode (mBc 181) 165 = .ok (.iconst 1, 1)) rfl rfl
theorem s181_166 : mSnd 181 166 (a_invV 169 3 0 0 [(10, 161, 0, 0)]) := snd_invV v181_150 rfl rfl (by decide +kernel : decode (mBc 181) 166 = .ok (.invokevirtual 150, 3)) rfl
theorem s181_169 : mSnd 181 169 (a_last 170) := snd_last (by decide +kernel : decode (mBc 181) 169 = .ok (.lastore, 1)) rfl
theorem s181_170 : mSnd 181 170 (a_iinc 173 3 (iZ 1)) := snd_iinc (by decide +kernel : decode (mBc 181) 170 = .ok (.iinc 3 1, 3)) rfl (by decide) rfl
theorem s181_173 : mSnd 181 173 (a_goto 95) := snd_goto (by decide +kernel : decode (mBc 181) 173 = .ok (.goto (-78), 3)) rfl
theorem s181_176 : mSnd 181 176 (a_aload 177 0) := snd_aload_n (by decide +kernel : decode (mBc 181) 176 = .ok (.aload_n 0, 1)) rfl rfl
theorem s181_177 : mSnd 181 177 (a_dup 178) := snd_dup (by decide +kernel : decode (mBc 181) 177 = .ok (.dup, 1)) rfl
theorem s181_178 : mSnd 181 178 (a_getf 181 5 [10]) := snd_getf f32 q907 (Or.inl rfl) (by decide +kernel : decode (mBc 181) 178 = .ok (.getfield 27, 3)) rfl
theorem s181_181 : mSnd 181 181 (a_push 182 (.int (iZ 1))) := snd_iconst (by decide +kernel : decode (mBc 181) 181 = .ok (.iconst 1, 1)) rfl rfl
theorem s181_182 : mSnd 181 182 (a_ii 183 (fun x y => x + y)) := snd_iadd (by decide +kernel : decode (mBc 181) 182 = .ok (.iadd, 1)) rfl
theorem s181_183 : mSnd 181 183 (a_putf 186 5 0 [10]) := snd_putf f32 (by decide +kernel) q907 (Or.inl rfl) (Or.inl rfl) (by decide +kernel : decode (mBc 181) 183 = .ok (.putfield 27, 3)) rfl
theorem s181_186 : mSnd 181 186 (a_vret 0 0) := snd_vret rfl rfl rfl (by decide +kernel : decode (mBc 181) 186 = .ok (.return_, 1))
theorem ok181 : mOkl2 181 ct181 := ⟨⟨s181_0, s181_1, s181_2, s181_3, s181_4, s181_7, s181_10, s181_11, s181_12, s181_13, s181_16, s181_19, trivial⟩, ⟨s181_22, s181_25, s181_26, s181_27, s181_30, s181_33, s181_34, s181_35, s181_36, s181_39, s181_42, s181_43, trivial⟩, ⟨s181_44, s181_45, s181_48, s181_49, s181_50, s181_51, s181_52, s181_53, s181_54, s181_55, s181_56, s181_59, trivial⟩, ⟨s181_60, s181_63, s181_64, s181_65, s181_66, s181_67, s181_70, s181_71, s181_72, s181_73, s181_74, s181_77, trivial⟩, ⟨s181_78, s181_79, s181_80, s181_81, s181_84, s181_85, s181_86, s181_87, s181_90, s181_93, s181_94, s181_95, trivial⟩, ⟨s181_96, s181_97, s181_100, s181_101, s181_104, s181_105, s181_106, s181_107, s181_108, s181_109, s181_110, s181_111, trivial⟩, ⟨s181_114, s181_115, s181_116, s181_117, s181_118, s181_119, s181_120, s181_121, s181_124, s181_125, s181_126, s181_127, trivial⟩, ⟨s181_128, s181_129, s181_130, s181_131, s181_134, s181_135, s181_136, s181_139, s181_140, s181_141, s181_142, s181_143, trivial⟩, ⟨s181_144, s181_145, s181_146, s181_149, s181_150, s181_151, s181_152, s181_153, s181_154, s181_155, s181_156, s181_159, trivial⟩, ⟨s181_160, s181_161, s181_162, s181_163, s181_164, s181_165, s181_166, s181_169, s181_170, s181_173, s181_176, s181_177, trivial⟩, ⟨s181_178, s181_181, s181_182, s181_183, s181_186, trivial⟩, trivial⟩
theorem s182_0 : mSnd 182 0 (a_aload 1 0) := snd_aload_n (by decide +kernel : decode (mBc 182) 0 = .ok (.aload_n 0, 1)) rfl rfl
theorem s182_1 : mSnd 182 1 (a_push 2 (.int (iZ 0))) := snd_iconst (by decide +kernel : decode (mBc 182) 1 = .ok (.iconst 0, 1)) rfl rfl
theorem s182_2 : mSnd 182 2 (a_putf 5 5 0 [10]) := snd_putf f32 (by decide +kernel) q907 (Or.inl rfl) (Or.inl rfl) (by decide +kernel : decode (mBc 182) 2 = .ok (.putfield 27, 3)) rfl
theorem s182_5 : mSnd 182 5 (a_aload 6 0) := snd_aload_n (by decide +kernel : decode (mBc 182) 5 = .ok (.aload_n 0, 1)) rfl rfl
theorem s182_6 : mSnd 182 6 (a_getf 9 2 [10]) := snd_getf f29 q904 (Or.inl rfl) (by decide +kernel : decode (mBc 182) 6 = .ok (.getfield 17, 3)) rfl
theorem s182_9 : mSnd 182 9 (a_iload 10 1) := snd_iload_n (by decide +kernel : decode (mBc 182) 9 = .ok (.iload_n 1, 1)) rfl rfl
theorem s182_10 : mSnd 182 10 (a_iald 11) := snd_iald (by decide +kernel : decode (mBc 182) 10 = .ok (.iaload, 1)) rfl
theorem s182_11 : mSnd 182 11 (a_istore 12 2) := snd_istore_n (by decide +kernel : decode (mBc 182) 11 = .ok (.istore_n 2, 1)) rfl (by decide) rfl
theorem s182_12 : mSnd 182 12 (a_aload 13 0) := snd_aload_n (by decide +kernel : decode (mBc 182) 12 = .ok (.aload_n 0, 1)) rfl rfl
theorem s182_13 : mSnd 182 13 (a_iload 14 1) := snd_iload_n (by decide +kernel : decode (mBc 182) 13 = .ok (.iload_n 1, 1)) rfl rfl
theorem s182_14 : mSnd 182 14 (a_invV 17 1 0 0 [(10, 139, 0, 0)]) := snd_invV v182_80 rfl rfl (by decide +kernel : decode (mBc 182) 14 = .ok (.invokevirtual 80, 3)) rfl
theorem s182_17 : mSnd 182 17 (a_push 18 (.int (iZ 1))) := snd_iconst (by decide +kernel : decode (mBc 182) 17 = .ok (.iconst 1, 1)) rfl rfl
theorem s182_18 : mSnd 182 18 (a_ii 19 (fun x y => x - y)) := snd_isub (by decide +kernel : decode (mBc 182) 18 = .ok (.isub, 1)) rfl
theorem s182_19 : mSnd 182 19 (a_istore 20 3) := snd_istore_n (by decide +kernel : decode (mBc 182) 19 = .ok (.istore_n 3, 1)) rfl (by decide) rfl
theorem s182_20 : mSnd 182 20 (a_push 21 (.int (iZ 0))) := snd_iconst (by decide +kernel : decode (mBc 182) 20 = .ok (.iconst 0, 1)) rfl rfl
theorem s182_21 : mSnd 182 21 (a_istore 23 4) := snd_istore (by decide +kernel : decode (mBc 182) 21 = .ok (.istore 4, 2)) (by decide) rfl
theorem s182_23 : mSnd 182 23 (a_iload 25 4) := snd_iload (by decide +kernel : decode (mBc 182) 23 = .ok (.iload 4, 2)) rfl
theorem s182_25 : mSnd 182 25 (a_push 26 (.int (iZ 1))) := snd_iconst (by decide +kernel : decode (mBc 182) 25 = .ok (.iconst 1, 1)) rfl rfl
theorem s182_26 : mSnd 182 26 (a_iload 27 3) := snd_iload_n (by decide +kernel : decode (mBc 182) 26 = .ok (.iload_n 3, 1)) rfl rfl
theorem s182_27 : mSnd 182 27 (a_ii 28 (fun x y => x <<< (y &&& 31))) := snd_ishl (by decide +kernel : decode (mBc 182) 27 = .ok (.ishl, 1)) rfl
theorem s182_28 : mSnd 182 28 (a_icmp 31 161 (fun x y => decide (y ≤ x))) := snd_icmp_ge (by decide +kernel : decode (mBc 182) 28 = .ok (.if_icmp .ge 133, 3)) rfl rfl
theorem s182_31 : mSnd 182 31 (a_push 32 (.int (iZ 0))) := snd_iconst (by decide +kernel : decode (mBc 182) 31 = .ok (.iconst 0, 1)) rfl rfl
theorem s182_32 : mSnd 182 32 (a_istore 34 5) := snd_istore (by decide +kernel : decode (mBc 182) 32 = .ok (.istore 5, 2)) (by decide) rfl
theorem s182_34 : mSnd 182 34 (a_push 35 (.int (iZ 0))) := snd_iconst (by decide +kernel : decode (mBc 182) 34 = .ok (.iconst 0, 1)) rfl rfl
theorem s182_35 : mSnd 182 35 (a_istore 37 6) := snd_istore (by decide +kernel : decode (mBc 182) 35 = .ok (.istore 6, 2)) (by decide) rfl
theorem s182_37 : mSnd 182 37 (a_iload 39 6) := snd_iload (by decide +kernel : decode (mBc 182) 37 = .ok (.iload 6, 2)) rfl
theorem s182_39 : mSnd 182 39 (a_iload 40 3) := snd_iload_n (by decide +kernel : decode (mBc 182) 39 = .ok (.iload_n 3, 1)) rfl rfl
theorem s182_40 : mSnd 182 40 (a_icmp 43 61 (fun x y => decide (y ≤ x))) := snd_icmp_ge (by decide +kernel : decode (mBc 182) 40 = .ok (.if_icmp .ge 21, 3)) rfl rfl
theorem s182_43 : mSnd 182 43 (a_iload 45 5) := snd_iload (by decide +kernel : decode (mBc 182) 43 = .ok (.iload 5, 2)) rfl
theorem s182_45 : mSnd 182 45 (a_iload 47 4) := snd_iload (by decide +kernel : decode (mBc 182) 45 = .ok (.iload 4, 2)) rfl
theorem s182_47 : mSnd 182 47 (a_iload 49 6) := snd_iload (by decide +kernel : decode (mBc 182) 47 = .ok (.iload 6, 2)) rfl
theorem s182_49 : mSnd 182 49 (a_ii 50 (fun x y => x >>> (y &&& 31))) := snd_ishr (by decide +kernel : decode (mBc 182) 49 = .ok (.ishr, 1)) rfl
theorem s182_50 : mSnd 182 50 (a_push 51 (.int (iZ 1))) := snd_iconst (by decide +kernel : decode (mBc 182) 50 = .ok (.iconst 1, 1)) rfl rfl
theorem s182_51 : mSnd 182 51 (a_ii 52 (fun x y => x &&& y)) := snd_iand (by decide +kernel : decode (mBc 182) 51 = .ok (.iand, 1)) rfl
theorem s182_52 : mSnd 182 52 (a_ii 53 (fun x y => x + y)) := snd_iadd (by decide +kernel : decode (mBc 182) 52 = .ok (.iadd, 1)) rfl
theorem s182_53 : mSnd 182 53 (a_istore 55 5) := snd_istore (by decide +kernel : decode (mBc 182) 53 = .ok (.istore 5, 2)) (by decide) rfl
theorem s182_55 : mSnd 182 55 (a_iinc 58 6 (iZ 1)) := snd_iinc (by decide +kernel : decode (mBc 182) 55 = .ok (.iinc 6 1, 3)) rfl (by decide) rfl
theorem s182_58 : mSnd 182 58 (a_goto 37) := snd_goto (by decide +kernel : decode (mBc 182) 58 = .ok (.goto (-21), 3)) rfl
theorem s182_61 : mSnd 182 61 (a_iload 63 5) := snd_iload (by decide +kernel : decode (mBc 182) 61 = .ok (.iload 5, 2)) rfl
theorem s182_63 : mSnd 182 63 (a_iload 64 2) := snd_iload_n (by decide +kernel : decode (mBc 182) 63 = .ok (.iload_n 2, 1)) rfl rfl
theorem s182_64 : mSnd 182 64 (a_push 65 (.int (iZ 1))) := snd_iconst (by decide +kernel : decode (mBc 182) 64 = .ok (.iconst 1, 1)) rfl rfl
theorem s182_65 : mSnd 182 65 (a_ii 66 (fun x y => x - y)) := snd_isub (by decide +kernel : decode (mBc 182) 65 = .ok (.isub, 1)) rfl
theorem s182_66 : mSnd 182 66 (a_icmp 69 72 (fun x y => decide (x = y))) := snd_icmp_eq (by decide +kernel : decode (mBc 182) 66 = .ok (.if_icmp .eq 6, 3)) rfl rfl
theorem s182_69 : mSnd 182 69 (a_goto 155) := snd_goto (by decide +kernel : decode (mBc 182) 69 = .ok (.goto 86, 3)) rfl
theorem s182_72 : mSnd 182 72 (a_aload 73 0) := snd_aload_n (by decide +kernel : decode (mBc 182) 72 = .ok (.aload_n 0, 1)) rfl rfl
theorem s182_73 : mSnd 182 73 (a_invV 76 0 0 0 [(10, 177, 0, 0)]) := snd_invV v182_171 rfl rfl (by decide +kernel : decode (mBc 182) 73 = .ok (.invokevirtual 171, 3)) rfl
theorem s182_76 : mSnd 182 76 (a_push 77 (.int (iZ 0))) := snd_iconst (by decide +kernel : decode (mBc 182) 76 = .ok (.iconst 0, 1)) rfl rfl
theorem s182_77 : mSnd 182 77 (a_istore 79 6) := snd_istore (by decide +kernel : decode (mBc 182) 77 = .ok (.istore 6, 2)) (by decide) rfl
theorem s182_79 : mSnd 182 79 (a_push 80 (.int (iZ 0))) := snd_iconst (by decide +kernel : decode (mBc 182) 79 = .ok (.iconst 0, 1)) rfl rfl
theorem s182_80 : mSnd 182 80 (a_istore 82 7) := snd_istore (by decide +kernel : decode (mBc 182) 80 = .ok (.istore 7, 2)) (by decide) rfl
theorem s182_82 : mSnd 182 82 (a_iload 84 7) := snd_iload (by decide +kernel : decode (mBc 182) 82 = .ok (.iload 7, 2)) rfl
theorem s182_84 : mSnd 182 84 (a_iload 85 3) := snd_iload_n (by decide +kernel : decode (mBc 182) 84 = .ok (.iload_n 3, 1)) rfl rfl
theorem s182_85 : mSnd 182 85 (a_icmp 88 121 (fun x y => decide (y ≤ x))) := snd_icmp_ge (by decide +kernel : decode (mBc 182) 85 = .ok (.if_icmp .ge 36, 3)) rfl rfl
theorem s182_88 : mSnd 182 88 (a_iload 90 4) := snd_iload (by decide +kernel : decode (mBc 182) 88 = .ok (.iload 4, 2)) rfl
theorem s182_90 : mSnd 182 90 (a_iload 92 7) := snd_iload (by decide +kernel : decode (mBc 182) 90 = .ok (.iload 7, 2)) rfl
theorem s182_92 : mSnd 182 92 (a_ii 93 (fun x y => x >>> (y &&& 31))) := snd_ishr (by decide +kernel : decode (mBc 182) 92 = .ok (.ishr, 1)) rfl
theorem s182_93 : mSnd 182 93 (a_push 94 (.int (iZ 1))) := snd_iconst (by decide +kernel : decode (mBc 182) 93 = .ok (.iconst 1, 1)) rfl rfl
theorem s182_94 : mSnd 182 94 (a_ii 95 (fun x y => x &&& y)) := snd_iand (by decide +kernel : decode (mBc 182) 94 = .ok (.iand, 1)) rfl
theorem s182_95 : mSnd 182 95 (a_if 98 101 (fun x => decide (¬ x = 0))) := snd_if_ne (by decide +kernel : decode (mBc 182) 95 = .ok (.ifCond .ne 6, 3)) rfl rfl
theorem s182_98 : mSnd 182 98 (a_goto 115) := snd_goto (by decide +kernel : decode (mBc 182) 98 = .ok (.goto 17, 3)) rfl
theorem s182_101 : mSnd 182 101 (a_aload 102 0) := snd_aload_n (by decide +kernel : decode (mBc 182) 101 = .ok (.aload_n 0, 1)) rfl rfl
theorem s182_102 : mSnd 182 102 (a_iload 104 6) := snd_iload (by decide +kernel : decode (mBc 182) 102 = .ok (.iload 6, 2)) rfl
theorem s182_104 : mSnd 182 104 (a_iload 105 1) := snd_iload_n (by decide +kernel : decode (mBc 182) 104 = .ok (.iload_n 1, 1)) rfl rfl
theorem s182_105 : mSnd 182 105 (a_iload 107 7) := snd_iload (by decide +kernel : decode (mBc 182) 105 = .ok (.iload 7, 2)) rfl
theorem s182_107 : mSnd 182 107 (a_push 108 (.int (iZ 1))) := snd_iconst (by decide +kernel : decode (mBc 182) 107 = .ok (.iconst 1, 1)) rfl rfl
theorem s182_108 : mSnd 182 108 (a_ii 109 (fun x y => x + y)) := snd_iadd (by decide +kernel : decode (mBc 182) 108 = .ok (.iadd, 1)) rfl
theorem s182_109 : mSnd 182 109 (a_invV 112 3 0 0 [(10, 178, 0, 0)]) := snd_invV v182_174 rfl rfl (by decide +kernel : decode (mBc 182) 109 = .ok (.invokevirtual 174, 3)) rfl
theorem s182_112 : mSnd 182 112 (a_iinc 115 6 (iZ 1)) := snd_iinc (by decide +kernel : decode (mBc 182) 112 = .ok (.iinc 6 1, 3)) rfl (by decide) rfl
theorem s182_115 : mSnd 182 115 (a_iinc 118 7 (iZ 1)) := snd_iinc (by decide +kernel : decode (mBc 182) 115 = .ok (.iinc 7 1, 3)) rfl (by decide) rfl
theorem s182_118 : mSnd 182 118 (a_goto 82) := snd_goto (by decide +kernel : decode (mBc 182) 118 = .ok (.goto (-36), 3)) rfl
theorem s182_121 : mSnd 182 121 (a_aload 122 0) := snd_aload_n (by decide +kernel : decode (mBc 182) 121 = .ok (.aload_n 0, 1)) rfl rfl
theorem s182_122 : mSnd 182 122 (a_iload 124 6) := snd_iload (by decide +kernel : decode (mBc 182) 122 = .ok (.iload 6, 2)) rfl
theorem s182_124 : mSnd 182 124 (a_iload 125 1) := snd_iload_n (by decide +kernel : decode (mBc 182) 124 = .ok (.iload_n 1, 1)) rfl rfl
theorem s182_125 : mSnd 182 125 (a_aload 126 0) := snd_aload_n (by decide +kernel : decode (mBc 182) 125 = .ok (.aload_n 0, 1)) rfl rfl
theorem s182_126 : mSnd 182 126 (a_iload 127 1) := snd_iload_n (by decide +kernel : decode (mBc 182) 126 = .ok (.iload_n 1, 1)) rfl rfl
theorem s182_127 : mSnd 182 127 (a_invV 130 1 0 0 [(10, 139, 0, 0)]) := snd_invV v182_80 rfl rfl (by decide +kernel : decode (mBc 182) 127 = .ok (.invokevirtual 80, 3)) rfl
theorem s182_130 : mSnd 182 130 (a_invV 133 3 0 0 [(10, 178, 0, 0)]) := snd_invV v182_174 rfl rfl (by decide +kernel : decode (mBc 182) 130 = .ok (.invokevirtual 174, 3)) rfl
theorem s182_133 : mSnd 182 133 (a_aload 134 0) := snd_aload_n (by decide +kernel : decode (mBc 182) 133 = .ok (.aload_n 0, 1)) rfl rfl
theorem s182_134 : mSnd 182 134 (a_iload 135 2) := snd_iload_n (by decide +kernel : decode (mBc 182) 134 = .ok (.iload_n 2, 1)) rfl rfl
theorem s182_135 : mSnd 182 135 (a_iload 136 2) := snd_iload_n (by decide +kernel : decode (mBc 182) 135 = .ok (.iload_n 2, 1)) rfl rfl
theorem s182_136 : mSnd 182 136 (a_invV 139 2 0 0 [(10, 176, 0, 0)]) := snd_invV v182_178 rfl rfl (by decide +kernel : decode (mBc 182) 136 = .ok (.invokevirtual 178, 3)) rfl
theorem s182_139 : mSnd 182 139 (a_if 142 155 (fun x => decide (x = 0))) := snd_if_eq (by decide +kernel : decode (mBc 182) 139 = .ok (.ifCond .eq 16, 3)) rfl rfl
theorem s182_142 : mSnd 182 142 (a_aload 143 0) := snd_aload_n (by decide +kernel : decode (mBc 182) 142 = .ok (.aload_n 0, 1)) rfl rfl
theorem s182_143 : mSnd 182 143 (a_iload 144 1) := snd_iload_n (by decide +kernel : decode (mBc 182) 143 = .ok (.iload_n 1, 1)) rfl rfl
theorem s182_144 : mSnd 182 144 (a_invV 147 1 0 0 [(10, 179, 0, 0)]) := snd_invV v182_181 rfl rfl (by decide +kernel : decode (mBc 182) 144 = .ok (.invokevirtual 181, 3)) rfl
theorem s182_147 : mSnd 182 147 (a_if 150 155 (fun x => decide (x = 0))) := snd_if_eq (by decide +kernel : decode (mBc 182) 147 = .ok (.ifCond .eq 8, 3)) rfl rfl
theorem s182_150 : mSnd 182 150 (a_aload 151 0) := snd_aload_n (by decide +kernel : decode (mBc 182) 150 = .ok (.aload_n 0, 1)) rfl rfl
theorem s182_151 : mSnd 182 151 (a_iload 152 2) := snd_iload_n (by decide +kernel : decode (mBc 182) 151 = .ok (.iload_n 2, 1)) rfl rfl
theorem s182_152 : mSnd 182 152 (a_invV 155 1 0 0 [(10, 181, 0, 0)]) := snd_invV v182_184 rfl rfl (by decide +kernel : decode (mBc 182) 152 = .ok (.invokevirtual 184, 3)) rfl
theorem s182_155 : mSnd 182 155 (a_iinc 158 4 (iZ 1)) := snd_iinc (by decide +kernel : decode (mBc 182) 155 = .ok (.iinc 4 1, 3)) rfl (by decide) rfl
theorem s182_158 : mSnd 182 158 (a_goto 23) := snd_goto (by decide +kernel : decode (mBc 182) 158 = .ok (.goto (-135), 3)) rfl
theorem s182_161 : mSnd 182 161 (a_vret 0 0) := snd_vret rfl rfl rfl (by decide +kernel : decode (mBc 182) 161 = .ok (.return_, 1))
theorem ok182 : mOkl2 182 ct182 := ⟨⟨s182_0, s182_1, s182_2, s182_5, s182_6, s182_9, s182_10, s182_11, s182_12, s182_13, s182_14, s182_17, trivial⟩, ⟨s182_18, s182_19, s182_20, s182_21, s182_23, s182_25, s182_26, s182_27, s182_28, s182_31, s182_32, s182_34, trivial⟩, ⟨s182_35, s182_37, s182_39, s182_40, s182_43, s182_45, s182_47, s182_49, s182_50, s182_51, s182_52, s182_53, trivial⟩, ⟨s182_55, s182_58, s182_61, s182_63, s182_64, s182_65, s182_66, s182_69, s182_72, s182_73, s182_76, s182_77, trivial⟩, ⟨s182_79, s182_80, s182_82, s182_84, s182_85, s182_88, s182_90, s182_92, s182_93, s182_94, s182_95, s182_98, trivial⟩, ⟨s182_101, s182_102, s182_104, s182_105, s182_107, s182_108, s182_109, s182_112, s182_115, s182_118, s182_121, s182_122, trivial⟩, ⟨s182_124, s182_125, s182_126, s182_127, s182_130, s182_133, s182_134, s182_135, s182_136, s182_139, s182_142, s182_143, trivial⟩, ⟨s182_144, s182_147, s182_150, s182_151, s182_152, s182_155, s182_158, s182_161, trivial⟩, trivial⟩
theorem s183_0 : mSnd 183 0 (a_aload 1 0) := snd_aload_n (by decide +kernel : decode (mBc 183) 0 = .ok (.aload_n 0, 1)) rfl rfl
theorem s183_1 : mSnd 183 1 (a_iload 2 1) := snd_iload_n (by decide +kernel : decode (mBc 183) 1 = .ok (.iload_n 1, 1)) rfl rfl
theorem s183_2 : mSnd 183 2 (a_invV 5 1 0 0 [(10, 138, 0, 0)]) := snd_invV v183_92 rfl rfl (by decide +kernel : decode (mBc 183) 2 = .ok (.invokevirtual 92, 3)) rfl
theorem s183_5 : mSnd 183 5 (a_if 8 32 (fun x => decide (x = 0))) := snd_if_eq (by decide +kernel : decode (mBc 183) 5 = .ok (.ifCond .eq 27, 3)) rfl rfl
theorem s183_8 : mSnd 183 8 (a_iload 9 2) := snd_iload_n (by decide +kernel : decode (mBc 183) 8 = .ok (.iload_n 2, 1)) rfl rfl
theorem s183_9 : mSnd 183 9 (a_if 12 32 (fun x => decide (x < 0))) := snd_if_lt (by decide +kernel : decode (mBc 183) 9 = .ok (.ifCond .lt 23, 3)) rfl rfl
theorem s183_12 : mSnd 183 12 (a_aload 13 0) := snd_aload_n (by decide +kernel : decode (mBc 183) 12 = .ok (.aload_n 0, 1)) rfl rfl
theorem s183_13 : mSnd 183 13 (a_iload 14 1) := snd_iload_n (by decide +kernel : decode (mBc 183) 13 = .ok (.iload_n 1, 1)) rfl rfl
theorem s183_14 : mSnd 183 14 (a_iload 15 3) := snd_iload_n (by decide +kernel : decode (mBc 183) 14 = .ok (.iload_n 3, 1)) rfl rfl
theorem s183_15 : mSnd 183 15 (a_invV 18 2 0 0 [(10, 143, 0, 0)]) := snd_invV v183_114 rfl rfl (by decide +kernel : decode (mBc 183) 15 = .ok (.invokevirtual 114, 3)) rfl
theorem s183_18 : mSnd 183 18 (a_if 21 32 (fun x => decide (x = 0))) := snd_if_eq (by decide +kernel : decode (mBc 183) 18 = .ok (.ifCond .eq 14, 3)) rfl rfl
theorem s183_21 : mSnd 183 21 (a_aload 22 0) := snd_aload_n (by decide +kernel : decode (mBc 183) 21 = .ok (.aload_n 0, 1)) rfl rfl
theorem s183_22 : mSnd 183 22 (a_iload 24 4) := snd_iload (by decide +kernel : decode (mBc 183) 22 = .ok (.iload 4, 2)) rfl
theorem s183_24 : mSnd 183 24 (a_push 25 (.int (iZ 0))) := snd_iconst (by decide +kernel : decode (mBc 183) 24 = .ok (.iconst 0, 1)) rfl rfl
theorem s183_25 : mSnd 183 25 (a_push 26 (.int (iZ 1))) := snd_iconst (by decide +kernel : decode (mBc 183) 25 = .ok (.iconst 1, 1)) rfl rfl
theorem s183_26 : mSnd 183 26 (a_invV 29 3 0 0 [(10, 137, 0, 0)]) := snd_invV v183_76 rfl rfl (by decide +kernel : decode (mBc 183) 26 = .ok (.invokevirtual 76, 3)) rfl
theorem s183_29 : mSnd 183 29 (a_if 32 36 (fun x => decide (¬ x = 0))) := snd_if_ne (by decide +kernel : decode (mBc 183) 29 = .ok (.ifCond .ne 7, 3)) rfl rfl
theorem s183_32 : mSnd 183 32 (a_push 35 (.long (lZ (-4611686018427387904)))) := snd_ldc2 q1060 (by decide +kernel : decode (mBc 183) 32 = .ok (.ldc2_w 128, 3)) rfl
theorem s183_35 : mSnd 183 35 (a_lret 0 0) := snd_lret rfl rfl rfl (by decide +kernel : decode (mBc 183) 35 = .ok (.lreturn, 1))
theorem s183_36 : mSnd 183 36 (a_aload 37 0) := snd_aload_n (by decide +kernel : decode (mBc 183) 36 = .ok (.aload_n 0, 1)) rfl rfl
theorem s183_37 : mSnd 183 37 (a_iload 38 1) := snd_iload_n (by decide +kernel : decode (mBc 183) 37 = .ok (.iload_n 1, 1)) rfl rfl
theorem s183_38 : mSnd 183 38 (a_invV 41 1 0 0 [(10, 182, 0, 0)]) := snd_invV v183_187 rfl rfl (by decide +kernel : decode (mBc 183) 38 = .ok (.invokevirtual 187, 3)) rfl
theorem s183_41 : mSnd 183 41 (a_iload 42 2) := snd_iload_n (by decide +kernel : decode (mBc 183) 41 = .ok (.iload_n 2, 1)) rfl rfl
theorem s183_42 : mSnd 183 42 (a_aload 43 0) := snd_aload_n (by decide +kernel : decode (mBc 183) 42 = .ok (.aload_n 0, 1)) rfl rfl
theorem s183_43 : mSnd 183 43 (a_getf 46 5 [10]) := snd_getf f32 q907 (Or.inl rfl) (by decide +kernel : decode (mBc 183) 43 = .ok (.getfield 27, 3)) rfl
theorem s183_46 : mSnd 183 46 (a_icmp 49 80 (fun x y => decide (y ≤ x))) := snd_icmp_ge (by decide +kernel : decode (mBc 183) 46 = .ok (.if_icmp .ge 34, 3)) rfl rfl
theorem s183_49 : mSnd 183 49 (a_iload 51 4) := snd_iload (by decide +kernel : decode (mBc 183) 49 = .ok (.iload 4, 2)) rfl
theorem s183_51 : mSnd 183 51 (a_if 54 67 (fun x => decide (¬ x = 0))) := snd_if_ne (by decide +kernel : decode (mBc 183) 51 = .ok (.ifCond .ne 16, 3)) rfl rfl
theorem s183_54 : mSnd 183 54 (a_aload 55 0) := snd_aload_n (by decide +kernel : decode (mBc 183) 54 = .ok (.aload_n 0, 1)) rfl rfl
theorem s183_55 : mSnd 183 55 (a_getf 58 6 [10]) := snd_getf f33 q908 (Or.inl rfl) (by decide +kernel : decode (mBc 183) 55 = .ok (.getfield 30, 3)) rfl
theorem s183_58 : mSnd 183 58 (a_push 59 (.int (iZ 4))) := snd_iconst (by decide +kernel : decode (mBc 183) 58 = .ok (.iconst 4, 1)) rfl rfl
theorem s183_59 : mSnd 183 59 (a_iload 60 2) := snd_iload_n (by decide +kernel : decode (mBc 183) 59 = .ok (.iload_n 2, 1)) rfl rfl
theorem s183_60 : mSnd 183 60 (a_ii 61 (fun x y => x * y)) := snd_imul (by decide +kernel : decode (mBc 183) 60 = .ok (.imul, 1)) rfl
theorem s183_61 : mSnd 183 61 (a_iload 62 3) := snd_iload_n (by decide +kernel : decode (mBc 183) 61 = .ok (.iload_n 3, 1)) rfl rfl
theorem s183_62 : mSnd 183 62 (a_ii 63 (fun x y => x + y)) := snd_iadd (by decide +kernel : decode (mBc 183) 62 = .ok (.iadd, 1)) rfl
theorem s183_63 : mSnd 183 63 (a_lald 64) := snd_lald (by decide +kernel : decode (mBc 183) 63 = .ok (.laload, 1)) rfl
theorem s183_64 : mSnd 183 64 (a_goto 83) := snd_goto (by decide +kernel : decode (mBc 183) 64 = .ok (.goto 19, 3)) rfl
theorem s183_67 : mSnd 183 67 (a_aload 68 0) := snd_aload_n (by decide +kernel : decode (mBc 183) 67 = .ok (.aload_n 0, 1)) rfl rfl
theorem s183_68 : mSnd 183 68 (a_getf 71 7 [10]) := snd_getf f34 q909 (Or.inl rfl) (by decide +kernel : decode (mBc 183) 68 = .ok (.getfield 33, 3)) rfl
theorem s183_71 : mSnd 183 71 (a_push 72 (.int (iZ 4))) := snd_iconst (by decide +kernel : decode (mBc 183) 71 = .ok (.iconst 4, 1)) rfl rfl
theorem s183_72 : mSnd 183 72 (a_iload 73 2) := snd_iload_n (by decide +kernel : decode (mBc 183) 72 = .ok (.iload_n 2, 1)) rfl rfl
theorem s183_73 : mSnd 183 73 (a_ii 74 (fun x y => x * y)) := snd_imul (by decide +kernel : decode (mBc 183) 73 = .ok (.imul, 1)) rfl
theorem s183_74 : mSnd 183 74 (a_iload 75 3) := snd_iload_n (by decide +kernel : decode (mBc 183) 74 = .ok (.iload_n 3, 1)) rfl rfl
theorem s183_75 : mSnd 183 75 (a_ii 76 (fun x y => x + y)) := snd_iadd (by decide +kernel : decode (mBc 183) 75 = .ok (.iadd, 1)) rfl
theorem s183_76 : mSnd 183 76 (a_lald 77) := snd_lald (by decide +kernel : decode (mBc 183) 76 = .ok (.laload, 1)) rfl
theorem s183_77 : mSnd 183 77 (a_goto 83) := snd_goto (by decide +kernel : decode (mBc 183) 77 = .ok (.goto 6, 3)) rfl
theorem s183_80 : mSnd 183 80 (a_push 83 (.long (lZ (-4611686018427387904)))) := snd_ldc2 q1060 (by decide +kernel : decode (mBc 183) 80 = .ok (.ldc2_w 128, 3)) rfl
theorem s183_83 : mSnd 183 83 (a_lret 0 0) := snd_lret rfl rfl rfl (by decide +kernel : decode (mBc 183) 83 = .ok (.lreturn, 1))
theorem ok183 : mOkl2 183 ct183 := ⟨⟨s183_0, s183_1, s183_2, s183_5, s183_8, s183_9, s183_12, s183_13, s183_14, s183_15, s183_18, s183_21, trivial⟩, ⟨s183_22, s183_24, s183_25, s183_26, s183_29, s183_32, s183_35, s183_36, s183_37, s183_38, s183_41, s183_42, trivial⟩, ⟨s183_43, s183_46, s183_49, s183_51, s183_54, s183_55, s183_58, s183_59, s183_60, s183_61, s183_62, s183_63, trivial⟩, ⟨s183_64, s183_67, s183_68, s183_71, s183_72, s183_73, s183_74, s183_75, s183_76, s183_77, s183_80, s183_83, trivial⟩, trivial⟩
theorem s184_0 : mSnd 184 0 (a_aload 1 0) := snd_aload_n (by decide +kernel : decode (mBc 184) 0 = .ok (.aload_n 0, 1)) rfl rfl
theorem s184_1 : mSnd 184 1 (a_iload 2 1) := snd_iload_n (by decide +kernel : decode (mBc 184) 1 = .ok (.iload_n 1, 1)) rfl rfl
theorem s184_2 : mSnd 184 2 (a_invV 5 1 0 0 [(10, 138, 0, 0)]) := snd_invV v184_92 rfl rfl (by decide +kernel : decode (mBc 184) 2 = .ok (.invokevirtual 92, 3)) rfl
theorem s184_5 : mSnd 184 5 (a_if 8 38 (fun x => decide (x = 0))) := snd_if_eq (by decide +kernel : decode (mBc 184) 5 = .ok (.ifCond .eq 33, 3)) rfl rfl
theorem s184_8 : mSnd 184 8 (a_aload 9 0) := snd_aload_n (by decide +kernel : decode (mBc 184) 8 = .ok (.aload_n 0, 1)) rfl rfl
theorem s184_9 : mSnd 184 9 (a_iload 10 1) := snd_iload_n (by decide +kernel : decode (mBc 184) 9 = .ok (.iload_n 1, 1)) rfl rfl
theorem s184_10 : mSnd 184 10 (a_iload 11 2) := snd_iload_n (by decide +kernel : decode (mBc 184) 10 = .ok (.iload_n 2, 1)) rfl rfl
theorem s184_11 : mSnd 184 11 (a_invV 14 2 0 0 [(10, 143, 0, 0)]) := snd_invV v184_114 rfl rfl (by decide +kernel : decode (mBc 184) 11 = .ok (.invokevirtual 114, 3)) rfl
theorem s184_14 : mSnd 184 14 (a_if 17 38 (fun x => decide (x = 0))) := snd_if_eq (by decide +kernel : decode (mBc 184) 14 = .ok (.ifCond .eq 24, 3)) rfl rfl
theorem s184_17 : mSnd 184 17 (a_aload 18 0) := snd_aload_n (by decide +kernel : decode (mBc 184) 17 = .ok (.aload_n 0, 1)) rfl rfl
theorem s184_18 : mSnd 184 18 (a_iload 19 3) := snd_iload_n (by decide +kernel : decode (mBc 184) 18 = .ok (.iload_n 3, 1)) rfl rfl
theorem s184_19 : mSnd 184 19 (a_push 20 (.int (iZ 0))) := snd_iconst (by decide +kernel : decode (mBc 184) 19 = .ok (.iconst 0, 1)) rfl rfl
theorem s184_20 : mSnd 184 20 (a_push 21 (.int (iZ 1))) := snd_iconst (by decide +kernel : decode (mBc 184) 20 = .ok (.iconst 1, 1)) rfl rfl
theorem s184_21 : mSnd 184 21 (a_invV 24 3 0 0 [(10, 137, 0, 0)]) := snd_invV v184_76 rfl rfl (by decide +kernel : decode (mBc 184) 21 = .ok (.invokevirtual 76, 3)) rfl
theorem s184_24 : mSnd 184 24 (a_if 27 38 (fun x => decide (x = 0))) := snd_if_eq (by decide +kernel : decode (mBc 184) 24 = .ok (.ifCond .eq 14, 3)) rfl rfl
theorem s184_27 : mSnd 184 27 (a_aload 28 0) := snd_aload_n (by decide +kernel : decode (mBc 184) 27 = .ok (.aload_n 0, 1)) rfl rfl
theorem s184_28 : mSnd 184 28 (a_iload 30 4) := snd_iload (by decide +kernel : decode (mBc 184) 28 = .ok (.iload 4, 2)) rfl
theorem s184_30 : mSnd 184 30 (a_push 31 (.int (iZ 0))) := snd_iconst (by decide +kernel : decode (mBc 184) 30 = .ok (.iconst 0, 1)) rfl rfl
theorem s184_31 : mSnd 184 31 (a_push 32 (.int (iZ 1))) := snd_iconst (by decide +kernel : decode (mBc 184) 31 = .ok (.iconst 1, 1)) rfl rfl
theorem s184_32 : mSnd 184 32 (a_invV 35 3 0 0 [(10, 137, 0, 0)]) := snd_invV v184_76 rfl rfl (by decide +kernel : decode (mBc 184) 32 = .ok (.invokevirtual 76, 3)) rfl
theorem s184_35 : mSnd 184 35 (a_if 38 42 (fun x => decide (¬ x = 0))) := snd_if_ne (by decide +kernel : decode (mBc 184) 35 = .ok (.ifCond .ne 7, 3)) rfl rfl
theorem s184_38 : mSnd 184 38 (a_push 41 (.long (lZ (-4611686018427387904)))) := snd_ldc2 q1060 (by decide +kernel : decode (mBc 184) 38 = .ok (.ldc2_w 128, 3)) rfl
theorem s184_41 : mSnd 184 41 (a_lret 0 0) := snd_lret rfl rfl rfl (by decide +kernel : decode (mBc 184) 41 = .ok (.lreturn, 1))
theorem s184_42 : mSnd 184 42 (a_aload 43 0) := snd_aload_n (by decide +kernel : decode (mBc 184) 42 = .ok (.aload_n 0, 1)) rfl rfl
theorem s184_43 : mSnd 184 43 (a_iload 44 1) := snd_iload_n (by decide +kernel : decode (mBc 184) 43 = .ok (.iload_n 1, 1)) rfl rfl
theorem s184_44 : mSnd 184 44 (a_invV 47 1 0 0 [(10, 182, 0, 0)]) := snd_invV v184_187 rfl rfl (by decide +kernel : decode (mBc 184) 44 = .ok (.invokevirtual 187, 3)) rfl
theorem s184_47 : mSnd 184 47 (a_aload 48 0) := snd_aload_n (by decide +kernel : decode (mBc 184) 47 = .ok (.aload_n 0, 1)) rfl rfl
theorem s184_48 : mSnd 184 48 (a_getf 51 5 [10]) := snd_getf f32 q907 (Or.inl rfl) (by decide +kernel : decode (mBc 184) 48 = .ok (.getfield 27, 3)) rfl
theorem s184_51 : mSnd 184 51 (a_if 54 58 (fun x => decide (¬ x = 0))) := snd_if_ne (by decide +kernel : decode (mBc 184) 51 = .ok (.ifCond .ne 7, 3)) rfl rfl
theorem s184_54 : mSnd 184 54 (a_push 57 (.long (lZ (-4611686018427387904)))) := snd_ldc2 q1060 (by decide +kernel : decode (mBc 184) 54 = .ok (.ldc2_w 128, 3)) rfl
theorem s184_57 : mSnd 184 57 (a_lret 0 0) := snd_lret rfl rfl rfl (by decide +kernel : decode (mBc 184) 57 = .ok (.lreturn, 1))
theorem s184_58 : mSnd 184 58 (a_push 59 (.int (iZ 0))) := snd_iconst (by decide +kernel : decode (mBc 184) 58 = .ok (.iconst 0, 1)) rfl rfl
theorem s184_59 : mSnd 184 59 (a_istore 61 5) := snd_istore (by decide +kernel : decode (mBc 184) 59 = .ok (.istore 5, 2)) (by decide) rfl
theorem s184_61 : mSnd 184 61 (a_push 62 (.int (iZ 1))) := snd_iconst (by decide +kernel : decode (mBc 184) 61 = .ok (.iconst 1, 1)) rfl rfl
theorem s184_62 : mSnd 184 62 (a_istore 64 6) := snd_istore (by decide +kernel : decode (mBc 184) 62 = .ok (.istore 6, 2)) (by decide) rfl
theorem s184_64 : mSnd 184 64 (a_iload 66 6) := snd_iload (by decide +kernel : decode (mBc 184) 64 = .ok (.iload 6, 2)) rfl
theorem s184_66 : mSnd 184 66 (a_aload 67 0) := snd_aload_n (by decide +kernel : decode (mBc 184) 66 = .ok (.aload_n 0, 1)) rfl rfl
theorem s184_67 : mSnd 184 67 (a_getf 70 5 [10]) := snd_getf f32 q907 (Or.inl rfl) (by decide +kernel : decode (mBc 184) 67 = .ok (.getfield 27, 3)) rfl
theorem s184_70 : mSnd 184 70 (a_icmp 73 153 (fun x y => decide (y ≤ x))) := snd_icmp_ge (by decide +kernel : decode (mBc 184) 70 = .ok (.if_icmp .ge 83, 3)) rfl rfl
theorem s184_73 : mSnd 184 73 (a_aload 74 0) := snd_aload_n (by decide +kernel : decode (mBc 184) 73 = .ok (.aload_n 0, 1)) rfl rfl
theorem s184_74 : mSnd 184 74 (a_getf 77 6 [10]) := snd_getf f33 q908 (Or.inl rfl) (by decide +kernel : decode (mBc 184) 74 = .ok (.getfield 30, 3)) rfl
theorem s184_77 : mSnd 184 77 (a_push 78 (.int (iZ 4))) := snd_iconst (by decide +kernel : decode (mBc 184) 77 = .ok (.iconst 4, 1)) rfl rfl
theorem s184_78 : mSnd 184 78 (a_iload 80 6) := snd_iload (by decide +kernel : decode (mBc 184) 78 = .ok (.iload 6, 2)) rfl
theorem s184_80 : mSnd 184 80 (a_ii 81 (fun x y => x * y)) := snd_imul (by decide +kernel : decode (mBc 184) 80 = .ok (.imul, 1)) rfl
theorem s184_81 : mSnd 184 81 (a_iload 82 2) := snd_iload_n (by decide +kernel : decode (mBc 184) 81 = .ok (.iload_n 2, 1)) rfl rfl
theorem s184_82 : mSnd 184 82 (a_ii 83 (fun x y => x + y)) := snd_iadd (by decide +kernel : decode (mBc 184) 82 = .ok (.iadd, 1)) rfl
theorem s184_83 : mSnd 184 83 (a_lald 84) := snd_lald (by decide +kernel : decode (mBc 184) 83 = .ok (.laload, 1)) rfl
theorem s184_84 : mSnd 184 84 (a_aload 85 0) := snd_aload_n (by decide +kernel : decode (mBc 184) 84 = .ok (.aload_n 0, 1)) rfl rfl
theorem s184_85 : mSnd 184 85 (a_getf 88 7 [10]) := snd_getf f34 q909 (Or.inl rfl) (by decide +kernel : decode (mBc 184) 85 = .ok (.getfield 33, 3)) rfl
theorem s184_88 : mSnd 184 88 (a_push 89 (.int (iZ 4))) := snd_iconst (by decide +kernel : decode (mBc 184) 88 = .ok (.iconst 4, 1)) rfl rfl
theorem s184_89 : mSnd 184 89 (a_iload 91 5) := snd_iload (by decide +kernel : decode (mBc 184) 89 = .ok (.iload 5, 2)) rfl
theorem s184_91 : mSnd 184 91 (a_ii 92 (fun x y => x * y)) := snd_imul (by decide +kernel : decode (mBc 184) 91 = .ok (.imul, 1)) rfl
theorem s184_92 : mSnd 184 92 (a_iload 93 2) := snd_iload_n (by decide +kernel : decode (mBc 184) 92 = .ok (.iload_n 2, 1)) rfl rfl
theorem s184_93 : mSnd 184 93 (a_ii 94 (fun x y => x + y)) := snd_iadd (by decide +kernel : decode (mBc 184) 93 = .ok (.iadd, 1)) rfl
theorem s184_94 : mSnd 184 94 (a_lald 95) := snd_lald (by decide +kernel : decode (mBc 184) 94 = .ok (.laload, 1)) rfl
theorem s184_95 : mSnd 184 95 (a_ll 96 (fun x y => x * y)) := snd_lmul (by decide +kernel : decode (mBc 184) 95 = .ok (.lmul, 1)) rfl
theorem s184_96 : mSnd 184 96 (a_aload 97 0) := snd_aload_n (by decide +kernel : decode (mBc 184) 96 = .ok (.aload_n 0, 1)) rfl rfl
theorem s184_97 : mSnd 184 97 (a_getf 100 6 [10]) := snd_getf f33 q908 (Or.inl rfl) (by decide +kernel : decode (mBc 184) 97 = .ok (.getfield 30, 3)) rfl
theorem s184_100 : mSnd 184 100 (a_push 101 (.int (iZ 4))) := snd_iconst (by decide +kernel : decode (mBc 184) 100 = .ok (.iconst 4, 1)) rfl rfl
theorem s184_101 : mSnd 184 101 (a_iload 103 5) := snd_iload (by decide +kernel : decode (mBc 184) 101 = .ok (.iload 5, 2)) rfl
theorem s184_103 : mSnd 184 103 (a_ii 104 (fun x y => x * y)) := snd_imul (by decide +kernel : decode (mBc 184) 103 = .ok (.imul, 1)) rfl
theorem s184_104 : mSnd 184 104 (a_iload 105 2) := snd_iload_n (by decide +kernel : decode (mBc 184) 104 = .ok (.iload_n 2, 1)) rfl rfl
theorem s184_105 : mSnd 184 105 (a_ii 106 (fun x y => x + y)) := snd_iadd (by decide +kernel : decode (mBc 184) 105 = .ok (.iadd, 1)) rfl
theorem s184_106 : mSnd 184 106 (a_lald 107) := snd_lald (by decide +kernel : decode (mBc 184) 106 = .ok (.laload, 1)) rfl
theorem s184_107 : mSnd 184 107 (a_aload 108 0) := snd_aload_n (by decide +kernel : decode (mBc 184) 107 = .ok (.aload_n 0, 1)) rfl rfl
theorem s184_108 : mSnd 184 108 (a_getf 111 7 [10]) := snd_getf f34 q909 (Or.inl rfl) (by decide +kernel : decode (mBc 184) 108 = .ok (.getfield 33, 3)) rfl
theorem s184_111 : mSnd 184 111 (a_push 112 (.int (iZ 4))) := snd_iconst (by decide +kernel : decode (mBc 184) 111 = .ok (.iconst 4, 1)) rfl rfl
theorem s184_112 : mSnd 184 112 (a_iload 114 6) := snd_iload (by decide +kernel : decode (mBc 184) 112 = .ok (.iload 6, 2)) rfl
theorem s184_114 : mSnd 184 114 (a_ii 115 (fun x y => x * y)) := snd_imul (by decide +kernel : decode (mBc 184) 114 = .ok (.imul, 1)) rfl
theorem s184_115 : mSnd 184 115 (a_iload 116 2) := snd_iload_n (by decide +kernel : decode (mBc 184) 115 = .ok (.iload_n 2, 1)) rfl rfl
theorem s184_116 : mSnd 184 116 (a_ii 117 (fun x y => x + y)) := snd_iadd (by decide +kernel : decode (mBc 184) 116 = .ok (.iadd, 1)) rfl
theorem s184_117 : mSnd 184 117 (a_lald 118) := snd_lald (by decide +kernel : decode (mBc 184) 117 = .ok (.laload, 1)) rfl
theorem s184_118 : mSnd 184 118 (a_ll 119 (fun x y => x * y)) := snd_lmul (by decide +kernel : decode (mBc 184) 118 = .ok (.lmul, 1)) rfl
theorem s184_119 : mSnd 184 119 (a_ll 120 (fun x y => x - y)) := snd_lsub (by decide +kernel : decode (mBc 184) 119 = .ok (.lsub, 1)) rfl
theorem s184_120 : mSnd 184 120 (a_lstore 122 7) := snd_lstore (by decide +kernel : decode (mBc 184) 120 = .ok (.lstore 7, 2)) (by decide) rfl
theorem s184_122 : mSnd 184 122 (a_iload 123 3) := snd_iload_n (by decide +kernel : decode (mBc 184) 122 = .ok (.iload_n 3, 1)) rfl rfl
theorem s184_123 : mSnd 184 123 (a_if 126 136 (fun x => decide (¬ x = 0))) := snd_if_ne (by decide +kernel : decode (mBc 184) 123 = .ok (.ifCond .ne 13, 3)) rfl rfl
theorem s184_126 : mSnd 184 126 (a_lload 128 7) := snd_lload (by decide +kernel : decode (mBc 184) 126 = .ok (.lload 7, 2)) rfl
theorem s184_128 : mSnd 184 128 (a_push 129 (.long (lZ 0))) := snd_lconst (by decide +kernel : decode (mBc 184) 128 = .ok (.lconst 0, 1)) (by decide +kernel) rfl
theorem s184_129 : mSnd 184 129 (a_lcmp 130) := snd_lcmp (by decide +kernel : decode (mBc 184) 129 = .ok (.lcmp, 1)) rfl
theorem s184_130 : mSnd 184 130 (a_if 133 147 (fun x => decide (0 ≤ x))) := snd_if_ge (by decide +kernel : decode (mBc 184) 130 = .ok (.ifCond .ge 17, 3)) rfl rfl
theorem s184_133 : mSnd 184 133 (a_goto 143) := snd_goto (by decide +kernel : decode (mBc 184) 133 = .ok (.goto 10, 3)) rfl
theorem s184_136 : mSnd 184 136 (a_lload 138 7) := snd_lload (by decide +kernel : decode (mBc 184) 136 = .ok (.lload 7, 2)) rfl
theorem s184_138 : mSnd 184 138 (a_push 139 (.long (lZ 0))) := snd_lconst (by decide +kernel : decode (mBc 184) 138 = .ok (.lconst 0, 1)) (by decide +kernel) rfl
theorem s184_139 : mSnd 184 139 (a_lcmp 140) := snd_lcmp (by decide +kernel : decode (mBc 184) 139 = .ok (.lcmp, 1)) rfl
theorem s184_140 : mSnd 184 140 (a_if 143 147 (fun x => decide (x ≤ 0))) := snd_if_le (by decide +kernel : decode (mBc 184) 140 = .ok (.ifCond .le 7, 3)) rfl rfl
theorem s184_143 : mSnd 184 143 (a_iload 145 6) := snd_iload (by decide +kernel : decode (mBc 184) 143 = .ok (.iload 6, 2)) rfl
theorem s184_145 : mSnd 184 145 (a_istore 147 5) := snd_istore (by decide +kernel : decode (mBc 184) 145 = .ok (.istore 5, 2)) (by decide) rfl
theorem s184_147 : mSnd 184 147 (a_iinc 150 6 (iZ 1)) := snd_iinc (by decide +kernel : decode (mBc 184) 147 = .ok (.iinc 6 1, 3)) rfl (by decide) rfl
theorem s184_150 : mSnd 184 150 (a_goto 64) := snd_goto (by decide +kernel : decode (mBc 184) 150 = .ok (.goto (-86), 3)) rfl
theorem s184_153 : mSnd 184 153 (a_iload 155 4) := snd_iload (by decide +kernel : decode (mBc 184) 153 = .ok (.iload 4, 2)) rfl
theorem s184_155 : mSnd 184 155 (a_if 158 172 (fun x => decide (¬ x = 0))) := snd_if_ne (by decide +kernel : decode (mBc 184) 155 = .ok (.ifCond .ne 17, 3)) rfl rfl
theorem s184_158 : mSnd 184 158 (a_aload 159 0) := snd_aload_n (by decide +kernel : decode (mBc 184) 158 = .ok (.aload_n 0, 1)) rfl rfl
theorem s184_159 : mSnd 184 159 (a_getf 162 6 [10]) := snd_getf f33 q908 (Or.inl rfl) (by decide +kernel : decode (mBc 184) 159 = .ok (.getfield 30, 3)) rfl
theorem s184_162 : mSnd 184 162 (a_push 163 (.int (iZ 4))) := snd_iconst (by decide +kernel : decode (mBc 184) 162 = .ok (.iconst 4, 1)) rfl rfl
theorem s184_163 : mSnd 184 163 (a_iload 165 5) := snd_iload (by decide +kernel : decode (mBc 184) 163 = .ok (.iload 5, 2)) rfl
theorem s184_165 : mSnd 184 165 (a_ii 166 (fun x y => x * y)) := snd_imul (by decide +kernel : decode (mBc 184) 165 = .ok (.imul, 1)) rfl
theorem s184_166 : mSnd 184 166 (a_iload 167 2) := snd_iload_n (by decide +kernel : decode (mBc 184) 166 = .ok (.iload_n 2, 1)) rfl rfl
theorem s184_167 : mSnd 184 167 (a_ii 168 (fun x y => x + y)) := snd_iadd (by decide +kernel : decode (mBc 184) 167 = .ok (.iadd, 1)) rfl
theorem s184_168 : mSnd 184 168 (a_lald 169) := snd_lald (by decide +kernel : decode (mBc 184) 168 = .ok (.laload, 1)) rfl
theorem s184_169 : mSnd 184 169 (a_goto 183) := snd_goto (by decide +kernel : decode (mBc 184) 169 = .ok (.goto 14, 3)) rfl
theorem s184_172 : mSnd 184 172 (a_aload 173 0) := snd_aload_n (by decide +kernel : decode (mBc 184) 172 = .ok (.aload_n 0, 1)) rfl rfl
theorem s184_173 : mSnd 184 173 (a_getf 176 7 [10]) := snd_getf f34 q909 (Or.inl rfl) (by decide +kernel : decode (mBc 184) 173 = .ok (.getfield 33, 3)) rfl
theorem s184_176 : mSnd 184 176 (a_push 177 (.int (iZ 4))) := snd_iconst (by decide +kernel : decode (mBc 184) 176 = .ok (.iconst 4, 1)) rfl rfl
theorem s184_177 : mSnd 184 177 (a_iload 179 5) := snd_iload (by decide +kernel : decode (mBc 184) 177 = .ok (.iload 5, 2)) rfl
theorem s184_179 : mSnd 184 179 (a_ii 180 (fun x y => x * y)) := snd_imul (by decide +kernel : decode (mBc 184) 179 = .ok (.imul, 1)) rfl
theorem s184_180 : mSnd 184 180 (a_iload 181 2) := snd_iload_n (by decide +kernel : decode (mBc 184) 180 = .ok (.iload_n 2, 1)) rfl rfl
theorem s184_181 : mSnd 184 181 (a_ii 182 (fun x y => x + y)) := snd_iadd (by decide +kernel : decode (mBc 184) 181 = .ok (.iadd, 1)) rfl
theorem s184_182 : mSnd 184 182 (a_lald 183) := snd_lald (by decide +kernel : decode (mBc 184) 182 = .ok (.laload, 1)) rfl
theorem s184_183 : mSnd 184 183 (a_lret 0 0) := snd_lret rfl rfl rfl (by decide +kernel : decode (mBc 184) 183 = .ok (.lreturn, 1))
theorem ok184 : mOkl2 184 ct184 := ⟨⟨s184_0, s184_1, s184_2, s184_5, s184_8, s184_9, s184_10, s184_11, s184_14, s184_17, s184_18, s184_19, trivial⟩, ⟨s184_20, s184_21, s184_24, s184_27, s184_28, s184_30, s184_31, s184_32, s184_35, s184_38, s184_41, s184_42, trivial⟩, ⟨s184_43, s184_44, s184_47, s184_48, s184_51, s184_54, s184_57, s184_58, s184_59, s184_61, s184_62, s184_64, trivial⟩, ⟨s184_66, s184_67, s184_70, s184_73, s184_74, s184_77, s184_78, s184_80, s184_81, s184_82, s184_83, s184_84, trivial⟩, ⟨s184_85, s184_88, s184_89, s184_91, s184_92, s184_93, s184_94, s184_95, s184_96, s184_97, s184_100, s184_101, trivial⟩, ⟨s184_103, s184_104, s184_105, s184_106, s184_107, s184_108, s184_111, s184_112, s184_114, s184_115, s184_116, s184_117, trivial⟩, ⟨s184_118, s184_119, s184_120, s184_122, s184_123, s184_126, s184_128, s184_129, s184_130, s184_133, s184_136, s184_138, trivial⟩, ⟨s184_139, s184_140, s184_143, s184_145, s184_147, s184_150, s184_153, s184_155, s184_158, s184_159, s184_162, s184_163, trivial⟩, ⟨s184_165, s184_166, s184_167, s184_168, s184_169, s184_172, s184_173, s184_176, s184_177, s184_179, s184_180, s184_181, trivial⟩, ⟨s184_182, s184_183, trivial⟩, trivial⟩
