theorem s136_0 : mSnd 136 0 (a_aload 1 0) := snd_aload_n (by decide +kernel : decode (mBc 136) 0 = .ok (.aload_n 0, 1)) rfl rfl
theorem s136_1 : mSnd 136 1 (a_obj 4) := snd_obj q901 q21 q22 (by decide) (by decide) (by decide +kernel : decode (mBc 136) 1 = .ok (.invokespecial 1, 3)) rfl
theorem s136_4 : mSnd 136 4 (a_aload 5 0) := snd_aload_n (by decide +kernel : decode (mBc 136) 4 = .ok (.aload_n 0, 1)) rfl rfl
theorem s136_5 : mSnd 136 5 (a_push 6 (.int (iZ 0))) := snd_iconst (by decide +kernel : decode (mBc 136) 5 = .ok (.iconst 0, 1)) rfl rfl
theorem s136_6 : mSnd 136 6 (a_putf 9 0 0 [10]) := snd_putf f27 (by decide +kernel) q902 (Or.inl rfl) (Or.inl rfl) (by decide +kernel : decode (mBc 136) 6 = .ok (.putfield 7, 3)) rfl
theorem s136_9 : mSnd 136 9 (a_aload 10 0) := snd_aload_n (by decide +kernel : decode (mBc 136) 9 = .ok (.aload_n 0, 1)) rfl rfl
theorem s136_10 : mSnd 136 10 (a_push 12 (.int (iZ 11))) := snd_bipush (by decide +kernel : decode (mBc 136) 10 = .ok (.bipush 11, 2)) (by decide +kernel) rfl
theorem s136_12 : mSnd 136 12 (a_newa 14 0 15 3762) := snd_newi rfl rfl q54 (by decide +kernel : decode (mBc 136) 12 = .ok (.newarray .int, 2)) rfl
theorem s136_14 : mSnd 136 14 (a_putf 17 1 2 [10]) := snd_putf f28 (by decide +kernel) q903 (Or.inl rfl) (Or.inr ⟨rfl, rfl⟩) (by decide +kernel : decode (mBc 136) 14 = .ok (.putfield 13, 3)) rfl
theorem s136_17 : mSnd 136 17 (a_aload 18 0) := snd_aload_n (by decide +kernel : decode (mBc 136) 17 = .ok (.aload_n 0, 1)) rfl rfl
theorem s136_18 : mSnd 136 18 (a_push 20 (.int (iZ 11))) := snd_bipush (by decide +kernel : decode (mBc 136) 18 = .ok (.bipush 11, 2)) (by decide +kernel) rfl
theorem s136_20 : mSnd 136 20 (a_newa 22 0 15 3762) := snd_newi rfl rfl q54 (by decide +kernel : decode (mBc 136) 20 = .ok (.newarray .int, 2)) rfl
theorem s136_22 : mSnd 136 22 (a_putf 25 2 2 [10]) := snd_putf f29 (by decide +kernel) q904 (Or.inl rfl) (Or.inr ⟨rfl, rfl⟩) (by decide +kernel : decode (mBc 136) 22 = .ok (.putfield 17, 3)) rfl
theorem s136_25 : mSnd 136 25 (a_aload 26 0) := snd_aload_n (by decide +kernel : decode (mBc 136) 25 = .ok (.aload_n 0, 1)) rfl rfl
theorem s136_26 : mSnd 136 26 (a_push 29 (.int (iZ 176))) := snd_sipush (by decide +kernel : decode (mBc 136) 26 = .ok (.sipush 176, 3)) (by decide +kernel) rfl
theorem s136_29 : mSnd 136 29 (a_newa 31 1 15 3762) := snd_newl rfl rfl q39 (by decide +kernel : decode (mBc 136) 29 = .ok (.newarray .long, 2)) rfl
theorem s136_31 : mSnd 136 31 (a_putf 34 3 2 [10]) := snd_putf f30 (by decide +kernel) q905 (Or.inl rfl) (Or.inr ⟨rfl, rfl⟩) (by decide +kernel : decode (mBc 136) 31 = .ok (.putfield 20, 3)) rfl
theorem s136_34 : mSnd 136 34 (a_aload 35 0) := snd_aload_n (by decide +kernel : decode (mBc 136) 34 = .ok (.aload_n 0, 1)) rfl rfl
theorem s136_35 : mSnd 136 35 (a_push 37 (.int (iZ 20))) := snd_bipush (by decide +kernel : decode (mBc 136) 35 = .ok (.bipush 20, 2)) (by decide +kernel) rfl
theorem s136_37 : mSnd 136 37 (a_newa 39 1 15 3762) := snd_newl rfl rfl q39 (by decide +kernel : decode (mBc 136) 37 = .ok (.newarray .long, 2)) rfl
theorem s136_39 : mSnd 136 39 (a_putf 42 4 2 [10]) := snd_putf f31 (by decide +kernel) q906 (Or.inl rfl) (Or.inr ⟨rfl, rfl⟩) (by decide +kernel : decode (mBc 136) 39 = .ok (.putfield 24, 3)) rfl
theorem s136_42 : mSnd 136 42 (a_aload 43 0) := snd_aload_n (by decide +kernel : decode (mBc 136) 42 = .ok (.aload_n 0, 1)) rfl rfl
theorem s136_43 : mSnd 136 43 (a_push 44 (.int (iZ 0))) := snd_iconst (by decide +kernel : decode (mBc 136) 43 = .ok (.iconst 0, 1)) rfl rfl
theorem s136_44 : mSnd 136 44 (a_putf 47 5 0 [10]) := snd_putf f32 (by decide +kernel) q907 (Or.inl rfl) (Or.inl rfl) (by decide +kernel : decode (mBc 136) 44 = .ok (.putfield 27, 3)) rfl
theorem s136_47 : mSnd 136 47 (a_aload 48 0) := snd_aload_n (by decide +kernel : decode (mBc 136) 47 = .ok (.aload_n 0, 1)) rfl rfl
theorem s136_48 : mSnd 136 48 (a_push 51 (.int (iZ 1600))) := snd_sipush (by decide +kernel : decode (mBc 136) 48 = .ok (.sipush 1600, 3)) (by decide +kernel) rfl
theorem s136_51 : mSnd 136 51 (a_newa 53 1 15 3762) := snd_newl rfl rfl q39 (by decide +kernel : decode (mBc 136) 51 = .ok (.newarray .long, 2)) rfl
theorem s136_53 : mSnd 136 53 (a_putf 56 6 2 [10]) := snd_putf f33 (by decide +kernel) q908 (Or.inl rfl) (Or.inr ⟨rfl, rfl⟩) (by decide +kernel : decode (mBc 136) 53 = .ok (.putfield 30, 3)) rfl
theorem s136_56 : mSnd 136 56 (a_aload 57 0) := snd_aload_n (by decide +kernel : decode (mBc 136) 56 = .ok (.aload_n 0, 1)) rfl rfl
theorem s136_57 : mSnd 136 57 (a_push 60 (.int (iZ 1600))) := snd_sipush (by decide +kernel : decode (mBc 136) 57 = .ok (.sipush 1600, 3)) (by decide +kernel) rfl
theorem s136_60 : mSnd 136 60 (a_newa 62 1 15 3762) := snd_newl rfl rfl q39 (by decide +kernel : decode (mBc 136) 60 = .ok (.newarray .long, 2)) rfl
theorem s136_62 : mSnd 136 62 (a_putf 65 7 2 [10]) := snd_putf f34 (by decide +kernel) q909 (Or.inl rfl) (Or.inr ⟨rfl, rfl⟩) (by decide +kernel : decode (mBc 136) 62 = .ok (.putfield 33, 3)) rfl
theorem s136_65 : mSnd 136 65 (a_aload 66 0) := snd_aload_n (by decide +kernel : decode (mBc 136) 65 = .ok (.aload_n 0, 1)) rfl rfl
theorem s136_66 : mSnd 136 66 (a_push 67 (.long (lZ 0))) := snd_lconst (by decide +kernel : decode (mBc 136) 66 = .ok (.lconst 0, 1)) (by decide +kernel) rfl
theorem s136_67 : mSnd 136 67 (a_putf 70 8 1 [10]) := snd_putf f35 (by decide +kernel) q910 (Or.inl rfl) (Or.inl rfl) (by decide +kernel : decode (mBc 136) 67 = .ok (.putfield 36, 3)) rfl
theorem s136_70 : mSnd 136 70 (a_aload 71 0) := snd_aload_n (by decide +kernel : decode (mBc 136) 70 = .ok (.aload_n 0, 1)) rfl rfl
theorem s136_71 : mSnd 136 71 (a_push 72 (.long (lZ 0))) := snd_lconst (by decide +kernel : decode (mBc 136) 71 = .ok (.lconst 0, 1)) (by decide +kernel) rfl
theorem s136_72 : mSnd 136 72 (a_putf 75 9 1 [10]) := snd_putf f36 (by decide +kernel) q911 (Or.inl rfl) (Or.inl rfl) (by decide +kernel : decode (mBc 136) 72 = .ok (.putfield 40, 3)) rfl
theorem s136_75 : mSnd 136 75 (a_aload 76 0) := snd_aload_n (by decide +kernel : decode (mBc 136) 75 = .ok (.aload_n 0, 1)) rfl rfl
theorem s136_76 : mSnd 136 76 (a_push 78 (.int (iZ 16))) := snd_bipush (by decide +kernel : decode (mBc 136) 76 = .ok (.bipush 16, 2)) (by decide +kernel) rfl
theorem s136_78 : mSnd 136 78 (a_newa 80 1 15 3762) := snd_newl rfl rfl q39 (by decide +kernel : decode (mBc 136) 78 = .ok (.newarray .long, 2)) rfl
theorem s136_80 : mSnd 136 80 (a_putf 83 10 2 [10]) := snd_putf f37 (by decide +kernel) q912 (Or.inl rfl) (Or.inr ⟨rfl, rfl⟩) (by decide +kernel : decode (mBc 136) 80 = .ok (.putfield 43, 3)) rfl
theorem s136_83 : mSnd 136 83 (a_aload 84 0) := snd_aload_n (by decide +kernel : decode (mBc 136) 83 = .ok (.aload_n 0, 1)) rfl rfl
theorem s136_84 : mSnd 136 84 (a_push 86 (.int (iZ 16))) := snd_bipush (by decide +kernel : decode (mBc 136) 84 = .ok (.bipush 16, 2)) (by decide +kernel) rfl
theorem s136_86 : mSnd 136 86 (a_newa 88 1 15 3762) := snd_newl rfl rfl q39 (by decide +kernel : decode (mBc 136) 86 = .ok (.newarray .long, 2)) rfl
theorem s136_88 : mSnd 136 88 (a_putf 91 11 2 [10]) := snd_putf f38 (by decide +kernel) q913 (Or.inl rfl) (Or.inr ⟨rfl, rfl⟩) (by decide +kernel : decode (mBc 136) 88 = .ok (.putfield 46, 3)) rfl
theorem s136_91 : mSnd 136 91 (a_aload 92 0) := snd_aload_n (by decide +kernel : decode (mBc 136) 91 = .ok (.aload_n 0, 1)) rfl rfl
theorem s136_92 : mSnd 136 92 (a_push 94 (.int (iZ 32))) := snd_bipush (by decide +kernel : decode (mBc 136) 92 = .ok (.bipush 32, 2)) (by decide +kernel) rfl
theorem s136_94 : mSnd 136 94 (a_newa 96 1 15 3762) := snd_newl rfl rfl q39 (by decide +kernel : decode (mBc 136) 94 = .ok (.newarray .long, 2)) rfl
theorem s136_96 : mSnd 136 96 (a_putf 99 12 2 [10]) := snd_putf f39 (by decide +kernel) q914 (Or.inl rfl) (Or.inr ⟨rfl, rfl⟩) (by decide +kernel : decode (mBc 136) 96 = .ok (.putfield 49, 3)) rfl
theorem s136_99 : mSnd 136 99 (a_aload 100 0) := snd_aload_n (by decide +kernel : decode (mBc 136) 99 = .ok (.aload_n 0, 1)) rfl rfl
theorem s136_100 : mSnd 136 100 (a_push 101 (.int (iZ 0))) := snd_iconst (by decide +kernel : decode (mBc 136) 100 = .ok (.iconst 0, 1)) rfl rfl
theorem s136_101 : mSnd 136 101 (a_putf 104 13 0 [10]) := snd_putf f40 (by decide +kernel) q915 (Or.inl rfl) (Or.inl rfl) (by decide +kernel : decode (mBc 136) 101 = .ok (.putfield 52, 3)) rfl
theorem s136_104 : mSnd 136 104 (a_aload 105 0) := snd_aload_n (by decide +kernel : decode (mBc 136) 104 = .ok (.aload_n 0, 1)) rfl rfl
theorem s136_105 : mSnd 136 105 (a_push 107 (.int (iZ 32))) := snd_bipush (by decide +kernel : decode (mBc 136) 105 = .ok (.bipush 32, 2)) (by decide +kernel) rfl
theorem s136_107 : mSnd 136 107 (a_newa 109 1 15 3762) := snd_newl rfl rfl q39 (by decide +kernel : decode (mBc 136) 107 = .ok (.newarray .long, 2)) rfl
theorem s136_109 : mSnd 136 109 (a_putf 112 14 2 [10]) := snd_putf f41 (by decide +kernel) q916 (Or.inl rfl) (Or.inr ⟨rfl, rfl⟩) (by decide +kernel : decode (mBc 136) 109 = .ok (.putfield 55, 3)) rfl
theorem s136_112 : mSnd 136 112 (a_aload 113 0) := snd_aload_n (by decide +kernel : decode (mBc 136) 112 = .ok (.aload_n 0, 1)) rfl rfl
theorem s136_113 : mSnd 136 113 (a_push 115 (.int (iZ 40))) := snd_bipush (by decide +kernel : decode (mBc 136) 113 = .ok (.bipush 40, 2)) (by decide +kernel) rfl
theorem s136_115 : mSnd 136 115 (a_newa 117 0 15 3762) := snd_newi rfl rfl q54 (by decide +kernel : decode (mBc 136) 115 = .ok (.newarray .int, 2)) rfl
theorem s136_117 : mSnd 136 117 (a_putf 120 15 2 [10]) := snd_putf f42 (by decide +kernel) q917 (Or.inl rfl) (Or.inr ⟨rfl, rfl⟩) (by decide +kernel : decode (mBc 136) 117 = .ok (.putfield 58, 3)) rfl
theorem s136_120 : mSnd 136 120 (a_aload 121 0) := snd_aload_n (by decide +kernel : decode (mBc 136) 120 = .ok (.aload_n 0, 1)) rfl rfl
theorem s136_121 : mSnd 136 121 (a_push 122 (.int (iZ 0))) := snd_iconst (by decide +kernel : decode (mBc 136) 121 = .ok (.iconst 0, 1)) rfl rfl
theorem s136_122 : mSnd 136 122 (a_putf 125 16 0 [10]) := snd_putf f43 (by decide +kernel) q918 (Or.inl rfl) (Or.inl rfl) (by decide +kernel : decode (mBc 136) 122 = .ok (.putfield 61, 3)) rfl
theorem s136_125 : mSnd 136 125 (a_aload 126 0) := snd_aload_n (by decide +kernel : decode (mBc 136) 125 = .ok (.aload_n 0, 1)) rfl rfl
theorem s136_126 : mSnd 136 126 (a_push 127 (.int (iZ 4))) := snd_iconst (by decide +kernel : decode (mBc 136) 126 = .ok (.iconst 4, 1)) rfl rfl
theorem s136_127 : mSnd 136 127 (a_newa 129 0 15 3762) := snd_newi rfl rfl q54 (by decide +kernel : decode (mBc 136) 127 = .ok (.newarray .int, 2)) rfl
theorem s136_129 : mSnd 136 129 (a_dup 130) := snd_dup (by decide +kernel : decode (mBc 136) 129 = .ok (.dup, 1)) rfl
theorem s136_130 : mSnd 136 130 (a_push 131 (.int (iZ 0))) := snd_iconst (by decide +kernel : decode (mBc 136) 130 = .ok (.iconst 0, 1)) rfl rfl
theorem s136_131 : mSnd 136 131 (a_push 132 (.int (iZ (-1)))) := snd_iconst (by decide +kernel : decode (mBc 136) 131 = .ok (.iconst (-1), 1)) rfl rfl
theorem s136_132 : mSnd 136 132 (a_iast 133) := snd_iast (by decide +kernel : decode (mBc 136) 132 = .ok (.iastore, 1)) rfl
theorem s136_133 : mSnd 136 133 (a_dup 134) := snd_dup (by decide +kernel : decode (mBc 136) 133 = .ok (.dup, 1)) rfl
theorem s136_134 : mSnd 136 134 (a_push 135 (.int (iZ 1))) := snd_iconst (by decide +kernel : decode (mBc 136) 134 = .ok (.iconst 1, 1)) rfl rfl
theorem s136_135 : mSnd 136 135 (a_push 136 (.int (iZ (-1)))) := snd_iconst (by decide +kernel : decode (mBc 136) 135 = .ok (.iconst (-1), 1)) rfl rfl
theorem s136_136 : mSnd 136 136 (a_iast 137) := snd_iast (by decide +kernel : decode (mBc 136) 136 = .ok (.iastore, 1)) rfl
theorem s136_137 : mSnd 136 137 (a_dup 138) := snd_dup (by decide +kernel : decode (mBc 136) 137 = .ok (.dup, 1)) rfl
theorem s136_138 : mSnd 136 138 (a_push 139 (.int (iZ 2))) := snd_iconst (by decide +kernel : decode (mBc 136) 138 = .ok (.iconst 2, 1)) rfl rfl
theorem s136_139 : mSnd 136 139 (a_push 140 (.int (iZ (-1)))) := snd_iconst (by decide +kernel : decode (mBc 136) 139 = .ok (.iconst (-1), 1)) rfl rfl
theorem s136_140 : mSnd 136 140 (a_iast 141) := snd_iast (by decide +kernel : decode (mBc 136) 140 = .ok (.iastore, 1)) rfl
theorem s136_141 : mSnd 136 141 (a_dup 142) := snd_dup (by decide +kernel : decode (mBc 136) 141 = .ok (.dup, 1)) rfl
theorem s136_142 : mSnd 136 142 (a_push 143 (.int (iZ 3))) := snd_iconst (by decide +kernel : decode (mBc 136) 142 = .ok (.iconst 3, 1)) rfl rfl
theorem s136_143 : mSnd 136 143 (a_push 144 (.int (iZ (-1)))) := snd_iconst (by decide +kernel : decode (mBc 136) 143 = .ok (.iconst (-1), 1)) rfl rfl
theorem s136_144 : mSnd 136 144 (a_iast 145) := snd_iast (by decide +kernel : decode (mBc 136) 144 = .ok (.iastore, 1)) rfl
theorem s136_145 : mSnd 136 145 (a_putf 148 17 2 [10]) := snd_putf f44 (by decide +kernel) q919 (Or.inl rfl) (Or.inr ⟨rfl, rfl⟩) (by decide +kernel : decode (mBc 136) 145 = .ok (.putfield 64, 3)) rfl
theorem s136_148 : mSnd 136 148 (a_aload 149 0) := snd_aload_n (by decide +kernel : decode (mBc 136) 148 = .ok (.aload_n 0, 1)) rfl rfl
theorem s136_149 : mSnd 136 149 (a_push 150 (.int (iZ 4))) := snd_iconst (by decide +kernel : decode (mBc 136) 149 = .ok (.iconst 4, 1)) rfl rfl
theorem s136_150 : mSnd 136 150 (a_newa 152 0 15 3762) := snd_newi rfl rfl q54 (by decide +kernel : decode (mBc 136) 150 = .ok (.newarray .int, 2)) rfl
theorem s136_152 : mSnd 136 152 (a_putf 155 18 2 [10]) := snd_putf f45 (by decide +kernel) q920 (Or.inl rfl) (Or.inr ⟨rfl, rfl⟩) (by decide +kernel : decode (mBc 136) 152 = .ok (.putfield 67, 3)) rfl
theorem s136_155 : mSnd 136 155 (a_aload 156 0) := snd_aload_n (by decide +kernel : decode (mBc 136) 155 = .ok (.aload_n 0, 1)) rfl rfl
theorem s136_156 : mSnd 136 156 (a_push 159 (.int (iZ 160))) := snd_sipush (by decide +kernel : decode (mBc 136) 156 = .ok (.sipush 160, 3)) (by decide +kernel) rfl
theorem s136_159 : mSnd 136 159 (a_newa 161 0 15 3762) := snd_newi rfl rfl q54 (by decide +kernel : decode (mBc 136) 159 = .ok (.newarray .int, 2)) rfl
theorem s136_161 : mSnd 136 161 (a_putf 164 19 2 [10]) := snd_putf f46 (by decide +kernel) q921 (Or.inl rfl) (Or.inr ⟨rfl, rfl⟩) (by decide +kernel : decode (mBc 136) 161 = .ok (.putfield 70, 3)) rfl
theorem s136_164 : mSnd 136 164 (a_aload 165 0) := snd_aload_n (by decide +kernel : decode (mBc 136) 164 = .ok (.aload_n 0, 1)) rfl rfl
theorem s136_165 : mSnd 136 165 (a_push 167 (.int (iZ 40))) := snd_bipush (by decide +kernel : decode (mBc 136) 165 = .ok (.bipush 40, 2)) (by decide +kernel) rfl
theorem s136_167 : mSnd 136 167 (a_newa 169 0 15 3762) := snd_newi rfl rfl q54 (by decide +kernel : decode (mBc 136) 167 = .ok (.newarray .int, 2)) rfl
theorem s136_169 : mSnd 136 169 (a_putf 172 20 2 [10]) := snd_putf f47 (by decide +kernel) q922 (Or.inl rfl) (Or.inr ⟨rfl, rfl⟩) (by decide +kernel : decode (mBc 136) 169 = .ok (.putfield 73, 3)) rfl
theorem s136_172 : mSnd 136 172 (a_vret 15 3762) := snd_vret rfl rfl rfl (by decide +kernel : decode (mBc 136) 172 = .ok (.return_, 1))
theorem ok136 : mOkl2 136 ct136 := ⟨⟨s136_0, s136_1, s136_4, s136_5, s136_6, s136_9, s136_10, s136_12, s136_14, s136_17, s136_18, s136_20, trivial⟩, ⟨s136_22, s136_25, s136_26, s136_29, s136_31, s136_34, s136_35, s136_37, s136_39, s136_42, s136_43, s136_44, trivial⟩, ⟨s136_47, s136_48, s136_51, s136_53, s136_56, s136_57, s136_60, s136_62, s136_65, s136_66, s136_67, s136_70, trivial⟩, ⟨s136_71, s136_72, s136_75, s136_76, s136_78, s136_80, s136_83, s136_84, s136_86, s136_88, s136_91, s136_92, trivial⟩, ⟨s136_94, s136_96, s136_99, s136_100, s136_101, s136_104, s136_105, s136_107, s136_109, s136_112, s136_113, s136_115, trivial⟩, ⟨s136_117, s136_120, s136_121, s136_122, s136_125, s136_126, s136_127, s136_129, s136_130, s136_131, s136_132, s136_133, trivial⟩, ⟨s136_134, s136_135, s136_136, s136_137, s136_138, s136_139, s136_140, s136_141, s136_142, s136_143, s136_144, s136_145, trivial⟩, ⟨s136_148, s136_149, s136_150, s136_152, s136_155, s136_156, s136_159, s136_161, s136_164, s136_165, s136_167, s136_169, trivial⟩, ⟨s136_172, trivial⟩, trivial⟩
theorem s137_0 : mSnd 137 0 (a_iload 1 1) := snd_iload_n (by decide +kernel : decode (mBc 137) 0 = .ok (.iload_n 1, 1)) rfl rfl
theorem s137_1 : mSnd 137 1 (a_iload 2 2) := snd_iload_n (by decide +kernel : decode (mBc 137) 1 = .ok (.iload_n 2, 1)) rfl rfl
theorem s137_2 : mSnd 137 2 (a_icmp 5 14 (fun x y => decide (x < y))) := snd_icmp_lt (by decide +kernel : decode (mBc 137) 2 = .ok (.if_icmp .lt 12, 3)) rfl rfl
theorem s137_5 : mSnd 137 5 (a_iload 6 1) := snd_iload_n (by decide +kernel : decode (mBc 137) 5 = .ok (.iload_n 1, 1)) rfl rfl
theorem s137_6 : mSnd 137 6 (a_iload 7 3) := snd_iload_n (by decide +kernel : decode (mBc 137) 6 = .ok (.iload_n 3, 1)) rfl rfl
theorem s137_7 : mSnd 137 7 (a_icmp 10 14 (fun x y => decide (y < x))) := snd_icmp_gt (by decide +kernel : decode (mBc 137) 7 = .ok (.if_icmp .gt 7, 3)) rfl rfl
theorem s137_10 : mSnd 137 10 (a_push 11 (.int (iZ 1))) := snd_iconst (by decide +kernel : decode (mBc 137) 10 = .ok (.iconst 1, 1)) rfl rfl
theorem s137_11 : mSnd 137 11 (a_goto 15) := snd_goto (by decide +kernel : decode (mBc 137) 11 = .ok (.goto 4, 3)) rfl
theorem s137_14 : mSnd 137 14 (a_push 15 (.int (iZ 0))) := snd_iconst (by decide +kernel : decode (mBc 137) 14 = .ok (.iconst 0, 1)) rfl rfl
theorem s137_15 : mSnd 137 15 (a_zret 0 0) := snd_zret rfl rfl rfl (by decide +kernel : decode (mBc 137) 15 = .ok (.ireturn, 1))
theorem ok137 : mOkl2 137 ct137 := ⟨⟨s137_0, s137_1, s137_2, s137_5, s137_6, s137_7, s137_10, s137_11, s137_14, s137_15, trivial⟩, trivial⟩
theorem s138_0 : mSnd 138 0 (a_aload 1 0) := snd_aload_n (by decide +kernel : decode (mBc 138) 0 = .ok (.aload_n 0, 1)) rfl rfl
theorem s138_1 : mSnd 138 1 (a_iload 2 1) := snd_iload_n (by decide +kernel : decode (mBc 138) 1 = .ok (.iload_n 1, 1)) rfl rfl
theorem s138_2 : mSnd 138 2 (a_push 3 (.int (iZ 0))) := snd_iconst (by decide +kernel : decode (mBc 138) 2 = .ok (.iconst 0, 1)) rfl rfl
theorem s138_3 : mSnd 138 3 (a_aload 4 0) := snd_aload_n (by decide +kernel : decode (mBc 138) 3 = .ok (.aload_n 0, 1)) rfl rfl
theorem s138_4 : mSnd 138 4 (a_getf 7 0 [10]) := snd_getf f27 q902 (Or.inl rfl) (by decide +kernel : decode (mBc 138) 4 = .ok (.getfield 7, 3)) rfl
theorem s138_7 : mSnd 138 7 (a_push 8 (.int (iZ 1))) := snd_iconst (by decide +kernel : decode (mBc 138) 7 = .ok (.iconst 1, 1)) rfl rfl
theorem s138_8 : mSnd 138 8 (a_ii 9 (fun x y => x - y)) := snd_isub (by decide +kernel : decode (mBc 138) 8 = .ok (.isub, 1)) rfl
theorem s138_9 : mSnd 138 9 (a_invV 12 3 0 0 [(10, 137, 0, 0)]) := snd_invV v138_76 rfl rfl (by decide +kernel : decode (mBc 138) 9 = .ok (.invokevirtual 76, 3)) rfl
theorem s138_12 : mSnd 138 12 (a_zret 0 0) := snd_zret rfl rfl rfl (by decide +kernel : decode (mBc 138) 12 = .ok (.ireturn, 1))
theorem ok138 : mOkl2 138 ct138 := ⟨⟨s138_0, s138_1, s138_2, s138_3, s138_4, s138_7, s138_8, s138_9, s138_12, trivial⟩, trivial⟩
theorem s139_0 : mSnd 139 0 (a_push 1 (.int (iZ 1))) := snd_iconst (by decide +kernel : decode (mBc 139) 0 = .ok (.iconst 1, 1)) rfl rfl
theorem s139_1 : mSnd 139 1 (a_aload 2 0) := snd_aload_n (by decide +kernel : decode (mBc 139) 1 = .ok (.aload_n 0, 1)) rfl rfl
theorem s139_2 : mSnd 139 2 (a_getf 5 2 [10]) := snd_getf f29 q904 (Or.inl rfl) (by decide +kernel : decode (mBc 139) 2 = .ok (.getfield 17, 3)) rfl
theorem s139_5 : mSnd 139 5 (a_iload 6 1) := snd_iload_n (by decide +kernel : decode (mBc 139) 5 = .ok (.iload_n 1, 1)) rfl rfl
theorem s139_6 : mSnd 139 6 (a_iald 7) := snd_iald (by decide +kernel : decode (mBc 139) 6 = .ok (.iaload, 1)) rfl
theorem s139_7 : mSnd 139 7 (a_ii 8 (fun x y => x <<< (y &&& 31))) := snd_ishl (by decide +kernel : decode (mBc 139) 7 = .ok (.ishl, 1)) rfl
theorem s139_8 : mSnd 139 8 (a_push 9 (.int (iZ 1))) := snd_iconst (by decide +kernel : decode (mBc 139) 8 = .ok (.iconst 1, 1)) rfl rfl
theorem s139_9 : mSnd 139 9 (a_ii 10 (fun x y => x - y)) := snd_isub (by decide +kernel : decode (mBc 139) 9 = .ok (.isub, 1)) rfl
theorem s139_10 : mSnd 139 10 (a_iret 0 0) := snd_iret rfl rfl rfl (by decide +kernel : decode (mBc 139) 10 = .ok (.ireturn, 1))
theorem ok139 : mOkl2 139 ct139 := ⟨⟨s139_0, s139_1, s139_2, s139_5, s139_6, s139_7, s139_8, s139_9, s139_10, trivial⟩, trivial⟩
theorem s140_0 : mSnd 140 0 (a_iload 1 1) := snd_iload_n (by decide +kernel : decode (mBc 140) 0 = .ok (.iload_n 1, 1)) rfl rfl
theorem s140_1 : mSnd 140 1 (a_push 2 (.int (iZ 1))) := snd_iconst (by decide +kernel : decode (mBc 140) 1 = .ok (.iconst 1, 1)) rfl rfl
theorem s140_2 : mSnd 140 2 (a_ii 3 (fun x y => x &&& y)) := snd_iand (by decide +kernel : decode (mBc 140) 2 = .ok (.iand, 1)) rfl
theorem s140_3 : mSnd 140 3 (a_iload 4 1) := snd_iload_n (by decide +kernel : decode (mBc 140) 3 = .ok (.iload_n 1, 1)) rfl rfl
theorem s140_4 : mSnd 140 4 (a_push 5 (.int (iZ 1))) := snd_iconst (by decide +kernel : decode (mBc 140) 4 = .ok (.iconst 1, 1)) rfl rfl
theorem s140_5 : mSnd 140 5 (a_ii 6 (fun x y => x >>> (y &&& 31))) := snd_ishr (by decide +kernel : decode (mBc 140) 5 = .ok (.ishr, 1)) rfl
theorem s140_6 : mSnd 140 6 (a_push 7 (.int (iZ 1))) := snd_iconst (by decide +kernel : decode (mBc 140) 6 = .ok (.iconst 1, 1)) rfl rfl
theorem s140_7 : mSnd 140 7 (a_ii 8 (fun x y => x &&& y)) := snd_iand (by decide +kernel : decode (mBc 140) 7 = .ok (.iand, 1)) rfl
theorem s140_8 : mSnd 140 8 (a_ii 9 (fun x y => x + y)) := snd_iadd (by decide +kernel : decode (mBc 140) 8 = .ok (.iadd, 1)) rfl
theorem s140_9 : mSnd 140 9 (a_iload 10 1) := snd_iload_n (by decide +kernel : decode (mBc 140) 9 = .ok (.iload_n 1, 1)) rfl rfl
theorem s140_10 : mSnd 140 10 (a_push 11 (.int (iZ 2))) := snd_iconst (by decide +kernel : decode (mBc 140) 10 = .ok (.iconst 2, 1)) rfl rfl
theorem s140_11 : mSnd 140 11 (a_ii 12 (fun x y => x >>> (y &&& 31))) := snd_ishr (by decide +kernel : decode (mBc 140) 11 = .ok (.ishr, 1)) rfl
theorem s140_12 : mSnd 140 12 (a_push 13 (.int (iZ 1))) := snd_iconst (by decide +kernel : decode (mBc 140) 12 = .ok (.iconst 1, 1)) rfl rfl
theorem s140_13 : mSnd 140 13 (a_ii 14 (fun x y => x &&& y)) := snd_iand (by decide +kernel : decode (mBc 140) 13 = .ok (.iand, 1)) rfl
theorem s140_14 : mSnd 140 14 (a_ii 15 (fun x y => x + y)) := snd_iadd (by decide +kernel : decode (mBc 140) 14 = .ok (.iadd, 1)) rfl
theorem s140_15 : mSnd 140 15 (a_iload 16 1) := snd_iload_n (by decide +kernel : decode (mBc 140) 15 = .ok (.iload_n 1, 1)) rfl rfl
theorem s140_16 : mSnd 140 16 (a_push 17 (.int (iZ 3))) := snd_iconst (by decide +kernel : decode (mBc 140) 16 = .ok (.iconst 3, 1)) rfl rfl
theorem s140_17 : mSnd 140 17 (a_ii 18 (fun x y => x >>> (y &&& 31))) := snd_ishr (by decide +kernel : decode (mBc 140) 17 = .ok (.ishr, 1)) rfl
theorem s140_18 : mSnd 140 18 (a_push 19 (.int (iZ 1))) := snd_iconst (by decide +kernel : decode (mBc 140) 18 = .ok (.iconst 1, 1)) rfl rfl
theorem s140_19 : mSnd 140 19 (a_ii 20 (fun x y => x &&& y)) := snd_iand (by decide +kernel : decode (mBc 140) 19 = .ok (.iand, 1)) rfl
theorem s140_20 : mSnd 140 20 (a_ii 21 (fun x y => x + y)) := snd_iadd (by decide +kernel : decode (mBc 140) 20 = .ok (.iadd, 1)) rfl
theorem s140_21 : mSnd 140 21 (a_iret 0 0) := snd_iret rfl rfl rfl (by decide +kernel : decode (mBc 140) 21 = .ok (.ireturn, 1))
theorem ok140 : mOkl2 140 ct140 := ⟨⟨s140_0, s140_1, s140_2, s140_3, s140_4, s140_5, s140_6, s140_7, s140_8, s140_9, s140_10, s140_11, trivial⟩, ⟨s140_12, s140_13, s140_14, s140_15, s140_16, s140_17, s140_18, s140_19, s140_20, s140_21, trivial⟩, trivial⟩
theorem s141_0 : mSnd 141 0 (a_aload 1 0) := snd_aload_n (by decide +kernel : decode (mBc 141) 0 = .ok (.aload_n 0, 1)) rfl rfl
theorem s141_1 : mSnd 141 1 (a_iload 2 2) := snd_iload_n (by decide +kernel : decode (mBc 141) 1 = .ok (.iload_n 2, 1)) rfl rfl
theorem s141_2 : mSnd 141 2 (a_push 3 (.int (iZ 0))) := snd_iconst (by decide +kernel : decode (mBc 141) 2 = .ok (.iconst 0, 1)) rfl rfl
theorem s141_3 : mSnd 141 3 (a_aload 4 0) := snd_aload_n (by decide +kernel : decode (mBc 141) 3 = .ok (.aload_n 0, 1)) rfl rfl
theorem s141_4 : mSnd 141 4 (a_iload 5 1) := snd_iload_n (by decide +kernel : decode (mBc 141) 4 = .ok (.iload_n 1, 1)) rfl rfl
theorem s141_5 : mSnd 141 5 (a_invV 8 1 0 0 [(10, 139, 0, 0)]) := snd_invV v141_80 rfl rfl (by decide +kernel : decode (mBc 141) 5 = .ok (.invokevirtual 80, 3)) rfl
theorem s141_8 : mSnd 141 8 (a_invV 11 3 0 0 [(10, 137, 0, 0)]) := snd_invV v141_76 rfl rfl (by decide +kernel : decode (mBc 141) 8 = .ok (.invokevirtual 76, 3)) rfl
theorem s141_11 : mSnd 141 11 (a_zret 0 0) := snd_zret rfl rfl rfl (by decide +kernel : decode (mBc 141) 11 = .ok (.ireturn, 1))
theorem ok141 : mOkl2 141 ct141 := ⟨⟨s141_0, s141_1, s141_2, s141_3, s141_4, s141_5, s141_8, s141_11, trivial⟩, trivial⟩
theorem s142_0 : mSnd 142 0 (a_aload 1 0) := snd_aload_n (by decide +kernel : decode (mBc 142) 0 = .ok (.aload_n 0, 1)) rfl rfl
theorem s142_1 : mSnd 142 1 (a_iload 2 2) := snd_iload_n (by decide +kernel : decode (mBc 142) 1 = .ok (.iload_n 2, 1)) rfl rfl
theorem s142_2 : mSnd 142 2 (a_push 3 (.int (iZ 1))) := snd_iconst (by decide +kernel : decode (mBc 142) 2 = .ok (.iconst 1, 1)) rfl rfl
theorem s142_3 : mSnd 142 3 (a_aload 4 0) := snd_aload_n (by decide +kernel : decode (mBc 142) 3 = .ok (.aload_n 0, 1)) rfl rfl
theorem s142_4 : mSnd 142 4 (a_iload 5 1) := snd_iload_n (by decide +kernel : decode (mBc 142) 4 = .ok (.iload_n 1, 1)) rfl rfl
theorem s142_5 : mSnd 142 5 (a_invV 8 1 0 0 [(10, 139, 0, 0)]) := snd_invV v142_80 rfl rfl (by decide +kernel : decode (mBc 142) 5 = .ok (.invokevirtual 80, 3)) rfl
theorem s142_8 : mSnd 142 8 (a_push 9 (.int (iZ 1))) := snd_iconst (by decide +kernel : decode (mBc 142) 8 = .ok (.iconst 1, 1)) rfl rfl
theorem s142_9 : mSnd 142 9 (a_ii 10 (fun x y => x - y)) := snd_isub (by decide +kernel : decode (mBc 142) 9 = .ok (.isub, 1)) rfl
theorem s142_10 : mSnd 142 10 (a_invV 13 3 0 0 [(10, 137, 0, 0)]) := snd_invV v142_76 rfl rfl (by decide +kernel : decode (mBc 142) 10 = .ok (.invokevirtual 76, 3)) rfl
theorem s142_13 : mSnd 142 13 (a_zret 0 0) := snd_zret rfl rfl rfl (by decide +kernel : decode (mBc 142) 13 = .ok (.ireturn, 1))
theorem ok142 : mOkl2 142 ct142 := ⟨⟨s142_0, s142_1, s142_2, s142_3, s142_4, s142_5, s142_8, s142_9, s142_10, s142_13, trivial⟩, trivial⟩
theorem s143_0 : mSnd 143 0 (a_aload 1 0) := snd_aload_n (by decide +kernel : decode (mBc 143) 0 = .ok (.aload_n 0, 1)) rfl rfl
theorem s143_1 : mSnd 143 1 (a_iload 2 2) := snd_iload_n (by decide +kernel : decode (mBc 143) 1 = .ok (.iload_n 2, 1)) rfl rfl
theorem s143_2 : mSnd 143 2 (a_push 3 (.int (iZ 0))) := snd_iconst (by decide +kernel : decode (mBc 143) 2 = .ok (.iconst 0, 1)) rfl rfl
theorem s143_3 : mSnd 143 3 (a_aload 4 0) := snd_aload_n (by decide +kernel : decode (mBc 143) 3 = .ok (.aload_n 0, 1)) rfl rfl
theorem s143_4 : mSnd 143 4 (a_getf 7 2 [10]) := snd_getf f29 q904 (Or.inl rfl) (by decide +kernel : decode (mBc 143) 4 = .ok (.getfield 17, 3)) rfl
theorem s143_7 : mSnd 143 7 (a_iload 8 1) := snd_iload_n (by decide +kernel : decode (mBc 143) 7 = .ok (.iload_n 1, 1)) rfl rfl
theorem s143_8 : mSnd 143 8 (a_iald 9) := snd_iald (by decide +kernel : decode (mBc 143) 8 = .ok (.iaload, 1)) rfl
theorem s143_9 : mSnd 143 9 (a_push 10 (.int (iZ 1))) := snd_iconst (by decide +kernel : decode (mBc 143) 9 = .ok (.iconst 1, 1)) rfl rfl
theorem s143_10 : mSnd 143 10 (a_ii 11 (fun x y => x - y)) := snd_isub (by decide +kernel : decode (mBc 143) 10 = .ok (.isub, 1)) rfl
theorem s143_11 : mSnd 143 11 (a_invV 14 3 0 0 [(10, 137, 0, 0)]) := snd_invV v143_76 rfl rfl (by decide +kernel : decode (mBc 143) 11 = .ok (.invokevirtual 76, 3)) rfl
theorem s143_14 : mSnd 143 14 (a_zret 0 0) := snd_zret rfl rfl rfl (by decide +kernel : decode (mBc 143) 14 = .ok (.ireturn, 1))
theorem ok143 : mOkl2 143 ct143 := ⟨⟨s143_0, s143_1, s143_2, s143_3, s143_4, s143_7, s143_8, s143_9, s143_10, s143_11, s143_14, trivial⟩, trivial⟩
theorem s144_0 : mSnd 144 0 (a_aload 1 0) := snd_aload_n (by decide +kernel : decode (mBc 144) 0 = .ok (.aload_n 0, 1)) rfl rfl
theorem s144_1 : mSnd 144 1 (a_getf 4 3 [10]) := snd_getf f30 q905 (Or.inl rfl) (by decide +kernel : decode (mBc 144) 1 = .ok (.getfield 20, 3)) rfl
theorem s144_4 : mSnd 144 4 (a_push 6 (.int (iZ 16))) := snd_bipush (by decide +kernel : decode (mBc 144) 4 = .ok (.bipush 16, 2)) (by decide +kernel) rfl
theorem s144_6 : mSnd 144 6 (a_iload 7 1) := snd_iload_n (by decide +kernel : decode (mBc 144) 6 = .ok (.iload_n 1, 1)) rfl rfl
theorem s144_7 : mSnd 144 7 (a_ii 8 (fun x y => x * y)) := snd_imul (by decide +kernel : decode (mBc 144) 7 = .ok (.imul, 1)) rfl
theorem s144_8 : mSnd 144 8 (a_iload 9 2) := snd_iload_n (by decide +kernel : decode (mBc 144) 8 = .ok (.iload_n 2, 1)) rfl rfl
theorem s144_9 : mSnd 144 9 (a_ii 10 (fun x y => x + y)) := snd_iadd (by decide +kernel : decode (mBc 144) 9 = .ok (.iadd, 1)) rfl
theorem s144_10 : mSnd 144 10 (a_lald 11) := snd_lald (by decide +kernel : decode (mBc 144) 10 = .ok (.laload, 1)) rfl
theorem s144_11 : mSnd 144 11 (a_lret 0 0) := snd_lret rfl rfl rfl (by decide +kernel : decode (mBc 144) 11 = .ok (.lreturn, 1))
theorem ok144 : mOkl2 144 ct144 := ⟨⟨s144_0, s144_1, s144_4, s144_6, s144_7, s144_8, s144_9, s144_10, s144_11, trivial⟩, trivial⟩
theorem s145_0 : mSnd 145 0 (a_aload 1 0) := snd_aload_n (by decide +kernel : decode (mBc 145) 0 = .ok (.aload_n 0, 1)) rfl rfl
theorem s145_1 : mSnd 145 1 (a_getf 4 1 [10]) := snd_getf f28 q903 (Or.inl rfl) (by decide +kernel : decode (mBc 145) 1 = .ok (.getfield 13, 3)) rfl
theorem s145_4 : mSnd 145 4 (a_aload 5 0) := snd_aload_n (by decide +kernel : decode (mBc 145) 4 = .ok (.aload_n 0, 1)) rfl rfl
theorem s145_5 : mSnd 145 5 (a_getf 8 0 [10]) := snd_getf f27 q902 (Or.inl rfl) (by decide +kernel : decode (mBc 145) 5 = .ok (.getfield 7, 3)) rfl
theorem s145_8 : mSnd 145 8 (a_iload 9 1) := snd_iload_n (by decide +kernel : decode (mBc 145) 8 = .ok (.iload_n 1, 1)) rfl rfl
theorem s145_9 : mSnd 145 9 (a_iast 10) := snd_iast (by decide +kernel : decode (mBc 145) 9 = .ok (.iastore, 1)) rfl
theorem s145_10 : mSnd 145 10 (a_aload 11 0) := snd_aload_n (by decide +kernel : decode (mBc 145) 10 = .ok (.aload_n 0, 1)) rfl rfl
theorem s145_11 : mSnd 145 11 (a_getf 14 2 [10]) := snd_getf f29 q904 (Or.inl rfl) (by decide +kernel : decode (mBc 145) 11 = .ok (.getfield 17, 3)) rfl
theorem s145_14 : mSnd 145 14 (a_aload 15 0) := snd_aload_n (by decide +kernel : decode (mBc 145) 14 = .ok (.aload_n 0, 1)) rfl rfl
theorem s145_15 : mSnd 145 15 (a_getf 18 0 [10]) := snd_getf f27 q902 (Or.inl rfl) (by decide +kernel : decode (mBc 145) 15 = .ok (.getfield 7, 3)) rfl
theorem s145_18 : mSnd 145 18 (a_iload 19 2) := snd_iload_n (by decide +kernel : decode (mBc 145) 18 = .ok (.iload_n 2, 1)) rfl rfl
theorem s145_19 : mSnd 145 19 (a_iast 20) := snd_iast (by decide +kernel : decode (mBc 145) 19 = .ok (.iastore, 1)) rfl
theorem s145_20 : mSnd 145 20 (a_push 21 (.int (iZ 0))) := snd_iconst (by decide +kernel : decode (mBc 145) 20 = .ok (.iconst 0, 1)) rfl rfl
theorem s145_21 : mSnd 145 21 (a_istore 22 3) := snd_istore_n (by decide +kernel : decode (mBc 145) 21 = .ok (.istore_n 3, 1)) rfl (by decide) rfl
theorem s145_22 : mSnd 145 22 (a_iload 23 3) := snd_iload_n (by decide +kernel : decode (mBc 145) 22 = .ok (.iload_n 3, 1)) rfl rfl
theorem s145_23 : mSnd 145 23 (a_push 25 (.int (iZ 16))) := snd_bipush (by decide +kernel : decode (mBc 145) 23 = .ok (.bipush 16, 2)) (by decide +kernel) rfl
theorem s145_25 : mSnd 145 25 (a_icmp 28 49 (fun x y => decide (y ≤ x))) := snd_icmp_ge (by decide +kernel : decode (mBc 145) 25 = .ok (.if_icmp .ge 24, 3)) rfl rfl
theorem s145_28 : mSnd 145 28 (a_aload 29 0) := snd_aload_n (by decide +kernel : decode (mBc 145) 28 = .ok (.aload_n 0, 1)) rfl rfl
theorem s145_29 : mSnd 145 29 (a_getf 32 3 [10]) := snd_getf f30 q905 (Or.inl rfl) (by decide +kernel : decode (mBc 145) 29 = .ok (.getfield 20, 3)) rfl
theorem s145_32 : mSnd 145 32 (a_push 34 (.int (iZ 16))) := snd_bipush (by decide +kernel : decode (mBc 145) 32 = .ok (.bipush 16, 2)) (by decide +kernel) rfl
theorem s145_34 : mSnd 145 34 (a_aload 35 0) := snd_aload_n (by decide +kernel : decode (mBc 145) 34 = .ok (.aload_n 0, 1)) rfl rfl
theorem s145_35 : mSnd 145 35 (a_getf 38 0 [10]) := snd_getf f27 q902 (Or.inl rfl) (by decide +kernel : decode (mBc 145) 35 = .ok (.getfield 7, 3)) rfl
theorem s145_38 : mSnd 145 38 (a_ii 39 (fun x y => x * y)) := snd_imul (by decide +kernel : decode (mBc 145) 38 = .ok (.imul, 1)) rfl
theorem s145_39 : mSnd 145 39 (a_iload 40 3) := snd_iload_n (by decide +kernel : decode (mBc 145) 39 = .ok (.iload_n 3, 1)) rfl rfl
theorem s145_40 : mSnd 145 40 (a_ii 41 (fun x y => x + y)) := snd_iadd (by decide +kernel : decode (mBc 145) 40 = .ok (.iadd, 1)) rfl
theorem s145_41 : mSnd 145 41 (a_push 42 (.long (lZ 0))) := snd_lconst (by decide +kernel : decode (mBc 145) 41 = .ok (.lconst 0, 1)) (by decide +kernel) rfl
theorem s145_42 : mSnd 145 42 (a_last 43) := snd_last (by decide +kernel : decode (mBc 145) 42 = .ok (.lastore, 1)) rfl
theorem s145_43 : mSnd 145 43 (a_iinc 46 3 (iZ 1)) := snd_iinc (by decide +kernel : decode (mBc 145) 43 = .ok (.iinc 3 1, 3)) rfl (by decide) rfl
theorem s145_46 : mSnd 145 46 (a_goto 22) := snd_goto (by decide +kernel : decode (mBc 145) 46 = .ok (.goto (-24), 3)) rfl
theorem s145_49 : mSnd 145 49 (a_aload 50 0) := snd_aload_n (by decide +kernel : decode (mBc 145) 49 = .ok (.aload_n 0, 1)) rfl rfl
theorem s145_50 : mSnd 145 50 (a_getf 53 0 [10]) := snd_getf f27 q902 (Or.inl rfl) (by decide +kernel : decode (mBc 145) 50 = .ok (.getfield 7, 3)) rfl
theorem s145_53 : mSnd 145 53 (a_iret 0 0) := snd_iret rfl rfl rfl (by decide +kernel : decode (mBc 145) 53 = .ok (.ireturn, 1))
theorem ok145 : mOkl2 145 ct145 := ⟨⟨s145_0, s145_1, s145_4, s145_5, s145_8, s145_9, s145_10, s145_11, s145_14, s145_15, s145_18, s145_19, trivial⟩, ⟨s145_20, s145_21, s145_22, s145_23, s145_25, s145_28, s145_29, s145_32, s145_34, s145_35, s145_38, s145_39, trivial⟩, ⟨s145_40, s145_41, s145_42, s145_43, s145_46, s145_49, s145_50, s145_53, trivial⟩, trivial⟩
theorem s146_0 : mSnd 146 0 (a_aload 1 0) := snd_aload_n (by decide +kernel : decode (mBc 146) 0 = .ok (.aload_n 0, 1)) rfl rfl
theorem s146_1 : mSnd 146 1 (a_dup 2) := snd_dup (by decide +kernel : decode (mBc 146) 1 = .ok (.dup, 1)) rfl
theorem s146_2 : mSnd 146 2 (a_getf 5 0 [10]) := snd_getf f27 q902 (Or.inl rfl) (by decide +kernel : decode (mBc 146) 2 = .ok (.getfield 7, 3)) rfl
theorem s146_5 : mSnd 146 5 (a_push 6 (.int (iZ 1))) := snd_iconst (by decide +kernel : decode (mBc 146) 5 = .ok (.iconst 1, 1)) rfl rfl
theorem s146_6 : mSnd 146 6 (a_ii 7 (fun x y => x + y)) := snd_iadd (by decide +kernel : decode (mBc 146) 6 = .ok (.iadd, 1)) rfl
theorem s146_7 : mSnd 146 7 (a_putf 10 0 0 [10]) := snd_putf f27 (by decide +kernel) q902 (Or.inl rfl) (Or.inl rfl) (by decide +kernel : decode (mBc 146) 7 = .ok (.putfield 7, 3)) rfl
theorem s146_10 : mSnd 146 10 (a_aload 11 0) := snd_aload_n (by decide +kernel : decode (mBc 146) 10 = .ok (.aload_n 0, 1)) rfl rfl
theorem s146_11 : mSnd 146 11 (a_getf 14 0 [10]) := snd_getf f27 q902 (Or.inl rfl) (by decide +kernel : decode (mBc 146) 11 = .ok (.getfield 7, 3)) rfl
theorem s146_14 : mSnd 146 14 (a_push 15 (.int (iZ 1))) := snd_iconst (by decide +kernel : decode (mBc 146) 14 = .ok (.iconst 1, 1)) rfl rfl
theorem s146_15 : mSnd 146 15 (a_ii 16 (fun x y => x - y)) := snd_isub (by decide +kernel : decode (mBc 146) 15 = .ok (.isub, 1)) rfl
theorem s146_16 : mSnd 146 16 (a_iret 0 0) := snd_iret rfl rfl rfl (by decide +kernel : decode (mBc 146) 16 = .ok (.ireturn, 1))
theorem ok146 : mOkl2 146 ct146 := ⟨⟨s146_0, s146_1, s146_2, s146_5, s146_6, s146_7, s146_10, s146_11, s146_14, s146_15, s146_16, trivial⟩, trivial⟩
theorem s147_0 : mSnd 147 0 (a_aload 1 0) := snd_aload_n (by decide +kernel : decode (mBc 147) 0 = .ok (.aload_n 0, 1)) rfl rfl
theorem s147_1 : mSnd 147 1 (a_iload 2 1) := snd_iload_n (by decide +kernel : decode (mBc 147) 1 = .ok (.iload_n 1, 1)) rfl rfl
theorem s147_2 : mSnd 147 2 (a_push 3 (.int (iZ 1))) := snd_iconst (by decide +kernel : decode (mBc 147) 2 = .ok (.iconst 1, 1)) rfl rfl
theorem s147_3 : mSnd 147 3 (a_push 4 (.int (iZ 4))) := snd_iconst (by decide +kernel : decode (mBc 147) 3 = .ok (.iconst 4, 1)) rfl rfl
theorem s147_4 : mSnd 147 4 (a_invV 7 3 0 0 [(10, 137, 0, 0)]) := snd_invV v147_76 rfl rfl (by decide +kernel : decode (mBc 147) 4 = .ok (.invokevirtual 76, 3)) rfl
theorem s147_7 : mSnd 147 7 (a_if 10 13 (fun x => decide (¬ x = 0))) := snd_if_ne (by decide +kernel : decode (mBc 147) 7 = .ok (.ifCond .ne 6, 3)) rfl rfl
theorem s147_10 : mSnd 147 10 (a_push 12 (.int (iZ (-2)))) := snd_bipush (by decide +kernel : decode (mBc 147) 10 = .ok (.bipush (-2), 2)) (by decide +kernel) rfl
theorem s147_12 : mSnd 147 12 (a_iret 0 0) := snd_iret rfl rfl rfl (by decide +kernel : decode (mBc 147) 12 = .ok (.ireturn, 1))
theorem s147_13 : mSnd 147 13 (a_aload 14 0) := snd_aload_n (by decide +kernel : decode (mBc 147) 13 = .ok (.aload_n 0, 1)) rfl rfl
theorem s147_14 : mSnd 147 14 (a_getf 17 0 [10]) := snd_getf f27 q902 (Or.inl rfl) (by decide +kernel : decode (mBc 147) 14 = .ok (.getfield 7, 3)) rfl
theorem s147_17 : mSnd 147 17 (a_push 19 (.int (iZ 10))) := snd_bipush (by decide +kernel : decode (mBc 147) 17 = .ok (.bipush 10, 2)) (by decide +kernel) rfl
theorem s147_19 : mSnd 147 19 (a_icmp 22 25 (fun x y => decide (¬ x = y))) := snd_icmp_ne (by decide +kernel : decode (mBc 147) 19 = .ok (.if_icmp .ne 6, 3)) rfl rfl
theorem s147_22 : mSnd 147 22 (a_push 24 (.int (iZ (-4)))) := snd_bipush (by decide +kernel : decode (mBc 147) 22 = .ok (.bipush (-4), 2)) (by decide +kernel) rfl
theorem s147_24 : mSnd 147 24 (a_iret 0 0) := snd_iret rfl rfl rfl (by decide +kernel : decode (mBc 147) 24 = .ok (.ireturn, 1))
theorem s147_25 : mSnd 147 25 (a_aload 26 0) := snd_aload_n (by decide +kernel : decode (mBc 147) 25 = .ok (.aload_n 0, 1)) rfl rfl
theorem s147_26 : mSnd 147 26 (a_push 27 (.int (iZ 0))) := snd_iconst (by decide +kernel : decode (mBc 147) 26 = .ok (.iconst 0, 1)) rfl rfl
theorem s147_27 : mSnd 147 27 (a_iload 28 1) := snd_iload_n (by decide +kernel : decode (mBc 147) 27 = .ok (.iload_n 1, 1)) rfl rfl
theorem s147_28 : mSnd 147 28 (a_invV 31 2 0 0 [(10, 145, 0, 0)]) := snd_invV v147_84 rfl rfl (by decide +kernel : decode (mBc 147) 28 = .ok (.invokevirtual 84, 3)) rfl
theorem s147_31 : mSnd 147 31 (a_istore 32 2) := snd_istore_n (by decide +kernel : decode (mBc 147) 31 = .ok (.istore_n 2, 1)) rfl (by decide) rfl
theorem s147_32 : mSnd 147 32 (a_aload 33 0) := snd_aload_n (by decide +kernel : decode (mBc 147) 32 = .ok (.aload_n 0, 1)) rfl rfl
theorem s147_33 : mSnd 147 33 (a_invV 36 0 0 0 [(10, 146, 0, 0)]) := snd_invV v147_88 rfl rfl (by decide +kernel : decode (mBc 147) 33 = .ok (.invokevirtual 88, 3)) rfl
theorem s147_36 : mSnd 147 36 (a_iret 0 0) := snd_iret rfl rfl rfl (by decide +kernel : decode (mBc 147) 36 = .ok (.ireturn, 1))
theorem ok147 : mOkl2 147 ct147 := ⟨⟨s147_0, s147_1, s147_2, s147_3, s147_4, s147_7, s147_10, s147_12, s147_13, s147_14, s147_17, s147_19, trivial⟩, ⟨s147_22, s147_24, s147_25, s147_26, s147_27, s147_28, s147_31, s147_32, s147_33, s147_36, trivial⟩, trivial⟩
theorem s148_0 : mSnd 148 0 (a_aload 1 0) := snd_aload_n (by decide +kernel : decode (mBc 148) 0 = .ok (.aload_n 0, 1)) rfl rfl
theorem s148_1 : mSnd 148 1 (a_iload 2 1) := snd_iload_n (by decide +kernel : decode (mBc 148) 1 = .ok (.iload_n 1, 1)) rfl rfl
theorem s148_2 : mSnd 148 2 (a_invV 5 1 0 0 [(10, 138, 0, 0)]) := snd_invV v148_92 rfl rfl (by decide +kernel : decode (mBc 148) 2 = .ok (.invokevirtual 92, 3)) rfl
theorem s148_5 : mSnd 148 5 (a_if 8 34 (fun x => decide (x = 0))) := snd_if_eq (by decide +kernel : decode (mBc 148) 5 = .ok (.ifCond .eq 29, 3)) rfl rfl
theorem s148_8 : mSnd 148 8 (a_aload 9 0) := snd_aload_n (by decide +kernel : decode (mBc 148) 8 = .ok (.aload_n 0, 1)) rfl rfl
theorem s148_9 : mSnd 148 9 (a_iload 10 2) := snd_iload_n (by decide +kernel : decode (mBc 148) 9 = .ok (.iload_n 2, 1)) rfl rfl
theorem s148_10 : mSnd 148 10 (a_push 11 (.int (iZ 1))) := snd_iconst (by decide +kernel : decode (mBc 148) 10 = .ok (.iconst 1, 1)) rfl rfl
theorem s148_11 : mSnd 148 11 (a_aload 12 0) := snd_aload_n (by decide +kernel : decode (mBc 148) 11 = .ok (.aload_n 0, 1)) rfl rfl
theorem s148_12 : mSnd 148 12 (a_iload 13 1) := snd_iload_n (by decide +kernel : decode (mBc 148) 12 = .ok (.iload_n 1, 1)) rfl rfl
theorem s148_13 : mSnd 148 13 (a_invV 16 1 0 0 [(10, 139, 0, 0)]) := snd_invV v148_80 rfl rfl (by decide +kernel : decode (mBc 148) 13 = .ok (.invokevirtual 80, 3)) rfl
theorem s148_16 : mSnd 148 16 (a_invV 19 3 0 0 [(10, 137, 0, 0)]) := snd_invV v148_76 rfl rfl (by decide +kernel : decode (mBc 148) 16 = .ok (.invokevirtual 76, 3)) rfl
theorem s148_19 : mSnd 148 19 (a_if 22 34 (fun x => decide (x = 0))) := snd_if_eq (by decide +kernel : decode (mBc 148) 19 = .ok (.ifCond .eq 15, 3)) rfl rfl
theorem s148_22 : mSnd 148 22 (a_aload 23 0) := snd_aload_n (by decide +kernel : decode (mBc 148) 22 = .ok (.aload_n 0, 1)) rfl rfl
theorem s148_23 : mSnd 148 23 (a_iload 24 3) := snd_iload_n (by decide +kernel : decode (mBc 148) 23 = .ok (.iload_n 3, 1)) rfl rfl
theorem s148_24 : mSnd 148 24 (a_push 26 (.int (iZ (-100)))) := snd_bipush (by decide +kernel : decode (mBc 148) 24 = .ok (.bipush (-100), 2)) (by decide +kernel) rfl
theorem s148_26 : mSnd 148 26 (a_push 28 (.int (iZ 100))) := snd_bipush (by decide +kernel : decode (mBc 148) 26 = .ok (.bipush 100, 2)) (by decide +kernel) rfl
theorem s148_28 : mSnd 148 28 (a_invV 31 3 0 0 [(10, 137, 0, 0)]) := snd_invV v148_76 rfl rfl (by decide +kernel : decode (mBc 148) 28 = .ok (.invokevirtual 76, 3)) rfl
theorem s148_31 : mSnd 148 31 (a_if 34 37 (fun x => decide (¬ x = 0))) := snd_if_ne (by decide +kernel : decode (mBc 148) 31 = .ok (.ifCond .ne 6, 3)) rfl rfl
theorem s148_34 : mSnd 148 34 (a_push 36 (.int (iZ (-2)))) := snd_bipush (by decide +kernel : decode (mBc 148) 34 = .ok (.bipush (-2), 2)) (by decide +kernel) rfl
theorem s148_36 : mSnd 148 36 (a_iret 0 0) := snd_iret rfl rfl rfl (by decide +kernel : decode (mBc 148) 36 = .ok (.ireturn, 1))
theorem s148_37 : mSnd 148 37 (a_aload 38 0) := snd_aload_n (by decide +kernel : decode (mBc 148) 37 = .ok (.aload_n 0, 1)) rfl rfl
theorem s148_38 : mSnd 148 38 (a_getf 41 1 [10]) := snd_getf f28 q903 (Or.inl rfl) (by decide +kernel : decode (mBc 148) 38 = .ok (.getfield 13, 3)) rfl
theorem s148_41 : mSnd 148 41 (a_iload 42 1) := snd_iload_n (by decide +kernel : decode (mBc 148) 41 = .ok (.iload_n 1, 1)) rfl rfl
theorem s148_42 : mSnd 148 42 (a_iald 43) := snd_iald (by decide +kernel : decode (mBc 148) 42 = .ok (.iaload, 1)) rfl
theorem s148_43 : mSnd 148 43 (a_if 46 49 (fun x => decide (x = 0))) := snd_if_eq (by decide +kernel : decode (mBc 148) 43 = .ok (.ifCond .eq 6, 3)) rfl rfl
theorem s148_46 : mSnd 148 46 (a_push 48 (.int (iZ (-3)))) := snd_bipush (by decide +kernel : decode (mBc 148) 46 = .ok (.bipush (-3), 2)) (by decide +kernel) rfl
theorem s148_48 : mSnd 148 48 (a_iret 0 0) := snd_iret rfl rfl rfl (by decide +kernel : decode (mBc 148) 48 = .ok (.ireturn, 1))
theorem s148_49 : mSnd 148 49 (a_aload 50 0) := snd_aload_n (by decide +kernel : decode (mBc 148) 49 = .ok (.aload_n 0, 1)) rfl rfl
theorem s148_50 : mSnd 148 50 (a_getf 53 3 [10]) := snd_getf f30 q905 (Or.inl rfl) (by decide +kernel : decode (mBc 148) 50 = .ok (.getfield 20, 3)) rfl
theorem s148_53 : mSnd 148 53 (a_push 55 (.int (iZ 16))) := snd_bipush (by decide +kernel : decode (mBc 148) 53 = .ok (.bipush 16, 2)) (by decide +kernel) rfl
theorem s148_55 : mSnd 148 55 (a_iload 56 1) := snd_iload_n (by decide +kernel : decode (mBc 148) 55 = .ok (.iload_n 1, 1)) rfl rfl
theorem s148_56 : mSnd 148 56 (a_ii 57 (fun x y => x * y)) := snd_imul (by decide +kernel : decode (mBc 148) 56 = .ok (.imul, 1)) rfl
theorem s148_57 : mSnd 148 57 (a_iload 58 2) := snd_iload_n (by decide +kernel : decode (mBc 148) 57 = .ok (.iload_n 2, 1)) rfl rfl
theorem s148_58 : mSnd 148 58 (a_ii 59 (fun x y => x + y)) := snd_iadd (by decide +kernel : decode (mBc 148) 58 = .ok (.iadd, 1)) rfl
theorem s148_59 : mSnd 148 59 (a_iload 60 3) := snd_iload_n (by decide +kernel : decode (mBc 148) 59 = .ok (.iload_n 3, 1)) rfl rfl
theorem s148_60 : mSnd 148 60 (a_i2l 61) := snd_i2l (by decide +kernel : decode (mBc 148) 60 = .ok (.i2l, 1)) rfl
theorem s148_61 : mSnd 148 61 (a_last 62) := snd_last (by decide +kernel : decode (mBc 148) 61 = .ok (.lastore, 1)) rfl
theorem s148_62 : mSnd 148 62 (a_push 63 (.int (iZ 1))) := snd_iconst (by decide +kernel : decode (mBc 148) 62 = .ok (.iconst 1, 1)) rfl rfl
theorem s148_63 : mSnd 148 63 (a_iret 0 0) := snd_iret rfl rfl rfl (by decide +kernel : decode (mBc 148) 63 = .ok (.ireturn, 1))
theorem ok148 : mOkl2 148 ct148 := ⟨⟨s148_0, s148_1, s148_2, s148_5, s148_8, s148_9, s148_10, s148_11, s148_12, s148_13, s148_16, s148_19, trivial⟩, ⟨s148_22, s148_23, s148_24, s148_26, s148_28, s148_31, s148_34, s148_36, s148_37, s148_38, s148_41, s148_42, trivial⟩, ⟨s148_43, s148_46, s148_48, s148_49, s148_50, s148_53, s148_55, s148_56, s148_57, s148_58, s148_59, s148_60, trivial⟩, ⟨s148_61, s148_62, s148_63, trivial⟩, trivial⟩
theorem s149_0 : mSnd 149 0 (a_push 1 (.int (iZ 1))) := snd_iconst (by decide +kernel : decode (mBc 149) 0 = .ok (.iconst 1, 1)) rfl rfl
theorem s149_1 : mSnd 149 1 (a_istore 2 3) := snd_istore_n (by decide +kernel : decode (mBc 149) 1 = .ok (.istore_n 3, 1)) rfl (by decide) rfl
theorem s149_2 : mSnd 149 2 (a_push 3 (.int (iZ 0))) := snd_iconst (by decide +kernel : decode (mBc 149) 2 = .ok (.iconst 0, 1)) rfl rfl
theorem s149_3 : mSnd 149 3 (a_istore 5 4) := snd_istore (by decide +kernel : decode (mBc 149) 3 = .ok (.istore 4, 2)) (by decide) rfl
theorem s149_5 : mSnd 149 5 (a_iload 7 4) := snd_iload (by decide +kernel : decode (mBc 149) 5 = .ok (.iload 4, 2)) rfl
theorem s149_7 : mSnd 149 7 (a_iload 8 2) := snd_iload_n (by decide +kernel : decode (mBc 149) 7 = .ok (.iload_n 2, 1)) rfl rfl
theorem s149_8 : mSnd 149 8 (a_icmp 11 21 (fun x y => decide (y ≤ x))) := snd_icmp_ge (by decide +kernel : decode (mBc 149) 8 = .ok (.if_icmp .ge 13, 3)) rfl rfl
theorem s149_11 : mSnd 149 11 (a_iload 12 3) := snd_iload_n (by decide +kernel : decode (mBc 149) 11 = .ok (.iload_n 3, 1)) rfl rfl
theorem s149_12 : mSnd 149 12 (a_iload 13 1) := snd_iload_n (by decide +kernel : decode (mBc 149) 12 = .ok (.iload_n 1, 1)) rfl rfl
theorem s149_13 : mSnd 149 13 (a_ii 14 (fun x y => x * y)) := snd_imul (by decide +kernel : decode (mBc 149) 13 = .ok (.imul, 1)) rfl
theorem s149_14 : mSnd 149 14 (a_istore 15 3) := snd_istore_n (by decide +kernel : decode (mBc 149) 14 = .ok (.istore_n 3, 1)) rfl (by decide) rfl
theorem s149_15 : mSnd 149 15 (a_iinc 18 4 (iZ 1)) := snd_iinc (by decide +kernel : decode (mBc 149) 15 = .ok (.iinc 4 1, 3)) rfl (by decide) rfl
theorem s149_18 : mSnd 149 18 (a_goto 5) := snd_goto (by decide +kernel : decode (mBc 149) 18 = .ok (.goto (-13), 3)) rfl
theorem s149_21 : mSnd 149 21 (a_iload 22 3) := snd_iload_n (by decide +kernel : decode (mBc 149) 21 = .ok (.iload_n 3, 1)) rfl rfl
theorem s149_22 : mSnd 149 22 (a_iret 0 0) := snd_iret rfl rfl rfl (by decide +kernel : decode (mBc 149) 22 = .ok (.ireturn, 1))
theorem ok149 : mOkl2 149 ct149 := ⟨⟨s149_0, s149_1, s149_2, s149_3, s149_5, s149_7, s149_8, s149_11, s149_12, s149_13, s149_14, s149_15, trivial⟩, ⟨s149_18, s149_21, s149_22, trivial⟩, trivial⟩
theorem s150_0 : mSnd 150 0 (a_iload 1 1) := snd_iload_n (by decide +kernel : decode (mBc 150) 0 = .ok (.iload_n 1, 1)) rfl rfl
theorem s150_1 : mSnd 150 1 (a_aload 2 0) := snd_aload_n (by decide +kernel : decode (mBc 150) 1 = .ok (.aload_n 0, 1)) rfl rfl
theorem s150_2 : mSnd 150 2 (a_iload 3 2) := snd_iload_n (by decide +kernel : decode (mBc 150) 2 = .ok (.iload_n 2, 1)) rfl rfl
theorem s150_3 : mSnd 150 3 (a_iload 4 3) := snd_iload_n (by decide +kernel : decode (mBc 150) 3 = .ok (.iload_n 3, 1)) rfl rfl
theorem s150_4 : mSnd 150 4 (a_invV 7 2 0 0 [(10, 149, 0, 0)]) := snd_invV v150_96 rfl rfl (by decide +kernel : decode (mBc 150) 4 = .ok (.invokevirtual 96, 3)) rfl
theorem s150_7 : mSnd 150 7 (a_iid 8 (fun x y => x / y)) := snd_idiv (by decide +kernel : decode (mBc 150) 7 = .ok (.idiv, 1)) rfl
theorem s150_8 : mSnd 150 8 (a_iload 9 2) := snd_iload_n (by decide +kernel : decode (mBc 150) 8 = .ok (.iload_n 2, 1)) rfl rfl
theorem s150_9 : mSnd 150 9 (a_iid 10 (fun x y => x - x / y * y)) := snd_irem (by decide +kernel : decode (mBc 150) 9 = .ok (.irem, 1)) rfl
theorem s150_10 : mSnd 150 10 (a_iret 0 0) := snd_iret rfl rfl rfl (by decide +kernel : decode (mBc 150) 10 = .ok (.ireturn, 1))
theorem ok150 : mOkl2 150 ct150 := ⟨⟨s150_0, s150_1, s150_2, s150_3, s150_4, s150_7, s150_8, s150_9, s150_10, trivial⟩, trivial⟩
theorem s151_0 : mSnd 151 0 (a_aload 1 0) := snd_aload_n (by decide +kernel : decode (mBc 151) 0 = .ok (.aload_n 0, 1)) rfl rfl
theorem s151_1 : mSnd 151 1 (a_iload 2 1) := snd_iload_n (by decide +kernel : decode (mBc 151) 1 = .ok (.iload_n 1, 1)) rfl rfl
theorem s151_2 : mSnd 151 2 (a_push 3 (.int (iZ 1))) := snd_iconst (by decide +kernel : decode (mBc 151) 2 = .ok (.iconst 1, 1)) rfl rfl
theorem s151_3 : mSnd 151 3 (a_push 4 (.int (iZ 4))) := snd_iconst (by decide +kernel : decode (mBc 151) 3 = .ok (.iconst 4, 1)) rfl rfl
theorem s151_4 : mSnd 151 4 (a_invV 7 3 0 0 [(10, 137, 0, 0)]) := snd_invV v151_76 rfl rfl (by decide +kernel : decode (mBc 151) 4 = .ok (.invokevirtual 76, 3)) rfl
theorem s151_7 : mSnd 151 7 (a_if 10 39 (fun x => decide (x = 0))) := snd_if_eq (by decide +kernel : decode (mBc 151) 7 = .ok (.ifCond .eq 32, 3)) rfl rfl
theorem s151_10 : mSnd 151 10 (a_aload 11 0) := snd_aload_n (by decide +kernel : decode (mBc 151) 10 = .ok (.aload_n 0, 1)) rfl rfl
theorem s151_11 : mSnd 151 11 (a_iload 12 2) := snd_iload_n (by decide +kernel : decode (mBc 151) 11 = .ok (.iload_n 2, 1)) rfl rfl
theorem s151_12 : mSnd 151 12 (a_push 13 (.int (iZ 0))) := snd_iconst (by decide +kernel : decode (mBc 151) 12 = .ok (.iconst 0, 1)) rfl rfl
theorem s151_13 : mSnd 151 13 (a_aload 14 0) := snd_aload_n (by decide +kernel : decode (mBc 151) 13 = .ok (.aload_n 0, 1)) rfl rfl
theorem s151_14 : mSnd 151 14 (a_push 16 (.int (iZ 21))) := snd_bipush (by decide +kernel : decode (mBc 151) 14 = .ok (.bipush 21, 2)) (by decide +kernel) rfl
theorem s151_16 : mSnd 151 16 (a_iload 17 1) := snd_iload_n (by decide +kernel : decode (mBc 151) 16 = .ok (.iload_n 1, 1)) rfl rfl
theorem s151_17 : mSnd 151 17 (a_invV 20 2 0 0 [(10, 149, 0, 0)]) := snd_invV v151_96 rfl rfl (by decide +kernel : decode (mBc 151) 17 = .ok (.invokevirtual 96, 3)) rfl
theorem s151_20 : mSnd 151 20 (a_push 21 (.int (iZ 1))) := snd_iconst (by decide +kernel : decode (mBc 151) 20 = .ok (.iconst 1, 1)) rfl rfl
theorem s151_21 : mSnd 151 21 (a_ii 22 (fun x y => x - y)) := snd_isub (by decide +kernel : decode (mBc 151) 21 = .ok (.isub, 1)) rfl
theorem s151_22 : mSnd 151 22 (a_invV 25 3 0 0 [(10, 137, 0, 0)]) := snd_invV v151_76 rfl rfl (by decide +kernel : decode (mBc 151) 22 = .ok (.invokevirtual 76, 3)) rfl
theorem s151_25 : mSnd 151 25 (a_if 28 39 (fun x => decide (x = 0))) := snd_if_eq (by decide +kernel : decode (mBc 151) 25 = .ok (.ifCond .eq 14, 3)) rfl rfl
theorem s151_28 : mSnd 151 28 (a_aload 29 0) := snd_aload_n (by decide +kernel : decode (mBc 151) 28 = .ok (.aload_n 0, 1)) rfl rfl
theorem s151_29 : mSnd 151 29 (a_iload 30 3) := snd_iload_n (by decide +kernel : decode (mBc 151) 29 = .ok (.iload_n 3, 1)) rfl rfl
theorem s151_30 : mSnd 151 30 (a_push 31 (.int (iZ 1))) := snd_iconst (by decide +kernel : decode (mBc 151) 30 = .ok (.iconst 1, 1)) rfl rfl
theorem s151_31 : mSnd 151 31 (a_push 33 (.int (iZ 80))) := snd_bipush (by decide +kernel : decode (mBc 151) 31 = .ok (.bipush 80, 2)) (by decide +kernel) rfl
theorem s151_33 : mSnd 151 33 (a_invV 36 3 0 0 [(10, 137, 0, 0)]) := snd_invV v151_76 rfl rfl (by decide +kernel : decode (mBc 151) 33 = .ok (.invokevirtual 76, 3)) rfl
theorem s151_36 : mSnd 151 36 (a_if 39 42 (fun x => decide (¬ x = 0))) := snd_if_ne (by decide +kernel : decode (mBc 151) 36 = .ok (.ifCond .ne 6, 3)) rfl rfl
theorem s151_39 : mSnd 151 39 (a_push 41 (.int (iZ (-2)))) := snd_bipush (by decide +kernel : decode (mBc 151) 39 = .ok (.bipush (-2), 2)) (by decide +kernel) rfl
theorem s151_41 : mSnd 151 41 (a_iret 0 0) := snd_iret rfl rfl rfl (by decide +kernel : decode (mBc 151) 41 = .ok (.ireturn, 1))
theorem s151_42 : mSnd 151 42 (a_aload 43 0) := snd_aload_n (by decide +kernel : decode (mBc 151) 42 = .ok (.aload_n 0, 1)) rfl rfl
theorem s151_43 : mSnd 151 43 (a_getf 46 0 [10]) := snd_getf f27 q902 (Or.inl rfl) (by decide +kernel : decode (mBc 151) 43 = .ok (.getfield 7, 3)) rfl
theorem s151_46 : mSnd 151 46 (a_push 48 (.int (iZ 10))) := snd_bipush (by decide +kernel : decode (mBc 151) 46 = .ok (.bipush 10, 2)) (by decide +kernel) rfl
theorem s151_48 : mSnd 151 48 (a_icmp 51 54 (fun x y => decide (¬ x = y))) := snd_icmp_ne (by decide +kernel : decode (mBc 151) 48 = .ok (.if_icmp .ne 6, 3)) rfl rfl
theorem s151_51 : mSnd 151 51 (a_push 53 (.int (iZ (-4)))) := snd_bipush (by decide +kernel : decode (mBc 151) 51 = .ok (.bipush (-4), 2)) (by decide +kernel) rfl
theorem s151_53 : mSnd 151 53 (a_iret 0 0) := snd_iret rfl rfl rfl (by decide +kernel : decode (mBc 151) 53 = .ok (.ireturn, 1))
theorem s151_54 : mSnd 151 54 (a_aload 55 0) := snd_aload_n (by decide +kernel : decode (mBc 151) 54 = .ok (.aload_n 0, 1)) rfl rfl
theorem s151_55 : mSnd 151 55 (a_push 56 (.int (iZ 1))) := snd_iconst (by decide +kernel : decode (mBc 151) 55 = .ok (.iconst 1, 1)) rfl rfl
theorem s151_56 : mSnd 151 56 (a_iload 57 1) := snd_iload_n (by decide +kernel : decode (mBc 151) 56 = .ok (.iload_n 1, 1)) rfl rfl
theorem s151_57 : mSnd 151 57 (a_invV 60 2 0 0 [(10, 145, 0, 0)]) := snd_invV v151_84 rfl rfl (by decide +kernel : decode (mBc 151) 57 = .ok (.invokevirtual 84, 3)) rfl
theorem s151_60 : mSnd 151 60 (a_istore 62 4) := snd_istore (by decide +kernel : decode (mBc 151) 60 = .ok (.istore 4, 2)) (by decide) rfl
theorem s151_62 : mSnd 151 62 (a_push 63 (.int (iZ 1))) := snd_iconst (by decide +kernel : decode (mBc 151) 62 = .ok (.iconst 1, 1)) rfl rfl
theorem s151_63 : mSnd 151 63 (a_istore 65 5) := snd_istore (by decide +kernel : decode (mBc 151) 63 = .ok (.istore 5, 2)) (by decide) rfl
theorem s151_65 : mSnd 151 65 (a_iload 67 5) := snd_iload (by decide +kernel : decode (mBc 151) 65 = .ok (.iload 5, 2)) rfl
theorem s151_67 : mSnd 151 67 (a_push 68 (.int (iZ 1))) := snd_iconst (by decide +kernel : decode (mBc 151) 67 = .ok (.iconst 1, 1)) rfl rfl
theorem s151_68 : mSnd 151 68 (a_iload 69 1) := snd_iload_n (by decide +kernel : decode (mBc 151) 68 = .ok (.iload_n 1, 1)) rfl rfl
theorem s151_69 : mSnd 151 69 (a_ii 70 (fun x y => x <<< (y &&& 31))) := snd_ishl (by decide +kernel : decode (mBc 151) 69 = .ok (.ishl, 1)) rfl
theorem s151_70 : mSnd 151 70 (a_icmp 73 143 (fun x y => decide (y ≤ x))) := snd_icmp_ge (by decide +kernel : decode (mBc 151) 70 = .ok (.if_icmp .ge 73, 3)) rfl rfl
theorem s151_73 : mSnd 151 73 (a_push 74 (.int (iZ 0))) := snd_iconst (by decide +kernel : decode (mBc 151) 73 = .ok (.iconst 0, 1)) rfl rfl
theorem s151_74 : mSnd 151 74 (a_istore 76 6) := snd_istore (by decide +kernel : decode (mBc 151) 74 = .ok (.istore 6, 2)) (by decide) rfl
theorem s151_76 : mSnd 151 76 (a_push 77 (.int (iZ 0))) := snd_iconst (by decide +kernel : decode (mBc 151) 76 = .ok (.iconst 0, 1)) rfl rfl
theorem s151_77 : mSnd 151 77 (a_istore 79 7) := snd_istore (by decide +kernel : decode (mBc 151) 77 = .ok (.istore 7, 2)) (by decide) rfl
theorem s151_79 : mSnd 151 79 (a_iload 81 7) := snd_iload (by decide +kernel : decode (mBc 151) 79 = .ok (.iload 7, 2)) rfl
theorem s151_81 : mSnd 151 81 (a_iload 82 1) := snd_iload_n (by decide +kernel : decode (mBc 151) 81 = .ok (.iload_n 1, 1)) rfl rfl
theorem s151_82 : mSnd 151 82 (a_icmp 85 113 (fun x y => decide (y ≤ x))) := snd_icmp_ge (by decide +kernel : decode (mBc 151) 82 = .ok (.if_icmp .ge 31, 3)) rfl rfl
theorem s151_85 : mSnd 151 85 (a_iload 87 6) := snd_iload (by decide +kernel : decode (mBc 151) 85 = .ok (.iload 6, 2)) rfl
theorem s151_87 : mSnd 151 87 (a_iload 89 5) := snd_iload (by decide +kernel : decode (mBc 151) 87 = .ok (.iload 5, 2)) rfl
theorem s151_89 : mSnd 151 89 (a_iload 91 7) := snd_iload (by decide +kernel : decode (mBc 151) 89 = .ok (.iload 7, 2)) rfl
theorem s151_91 : mSnd 151 91 (a_ii 92 (fun x y => x >>> (y &&& 31))) := snd_ishr (by decide +kernel : decode (mBc 151) 91 = .ok (.ishr, 1)) rfl
theorem s151_92 : mSnd 151 92 (a_push 93 (.int (iZ 1))) := snd_iconst (by decide +kernel : decode (mBc 151) 92 = .ok (.iconst 1, 1)) rfl rfl
theorem s151_93 : mSnd 151 93 (a_ii 94 (fun x y => x &&& y)) := snd_iand (by decide +kernel : decode (mBc 151) 93 = .ok (.iand, 1)) rfl
theorem s151_94 : mSnd 151 94 (a_aload 95 0) := snd_aload_n (by decide +kernel : decode (mBc 151) 94 = .ok (.aload_n 0, 1)) rfl rfl
theorem s151_95 : mSnd 151 95 (a_iload 96 2) := snd_iload_n (by decide +kernel : decode (mBc 151) 95 = .ok (.iload_n 2, 1)) rfl rfl
theorem s151_96 : mSnd 151 96 (a_push 98 (.int (iZ 21))) := snd_bipush (by decide +kernel : decode (mBc 151) 96 = .ok (.bipush 21, 2)) (by decide +kernel) rfl
theorem s151_98 : mSnd 151 98 (a_iload 100 7) := snd_iload (by decide +kernel : decode (mBc 151) 98 = .ok (.iload 7, 2)) rfl
theorem s151_100 : mSnd 151 100 (a_invV 103 3 0 0 [(10, 150, 0, 0)]) := snd_invV v151_99 rfl rfl (by decide +kernel : decode (mBc 151) 100 = .ok (.invokevirtual 99, 3)) rfl
theorem s151_103 : mSnd 151 103 (a_ii 104 (fun x y => x * y)) := snd_imul (by decide +kernel : decode (mBc 151) 103 = .ok (.imul, 1)) rfl
theorem s151_104 : mSnd 151 104 (a_ii 105 (fun x y => x + y)) := snd_iadd (by decide +kernel : decode (mBc 151) 104 = .ok (.iadd, 1)) rfl
theorem s151_105 : mSnd 151 105 (a_istore 107 6) := snd_istore (by decide +kernel : decode (mBc 151) 105 = .ok (.istore 6, 2)) (by decide) rfl
theorem s151_107 : mSnd 151 107 (a_iinc 110 7 (iZ 1)) := snd_iinc (by decide +kernel : decode (mBc 151) 107 = .ok (.iinc 7 1, 3)) rfl (by decide) rfl
theorem s151_110 : mSnd 151 110 (a_goto 79) := snd_goto (by decide +kernel : decode (mBc 151) 110 = .ok (.goto (-31), 3)) rfl
theorem s151_113 : mSnd 151 113 (a_aload 114 0) := snd_aload_n (by decide +kernel : decode (mBc 151) 113 = .ok (.aload_n 0, 1)) rfl rfl
theorem s151_114 : mSnd 151 114 (a_getf 117 3 [10]) := snd_getf f30 q905 (Or.inl rfl) (by decide +kernel : decode (mBc 151) 114 = .ok (.getfield 20, 3)) rfl
theorem s151_117 : mSnd 151 117 (a_push 119 (.int (iZ 16))) := snd_bipush (by decide +kernel : decode (mBc 151) 117 = .ok (.bipush 16, 2)) (by decide +kernel) rfl
theorem s151_119 : mSnd 151 119 (a_iload 121 4) := snd_iload (by decide +kernel : decode (mBc 151) 119 = .ok (.iload 4, 2)) rfl
theorem s151_121 : mSnd 151 121 (a_ii 122 (fun x y => x * y)) := snd_imul (by decide +kernel : decode (mBc 151) 121 = .ok (.imul, 1)) rfl
theorem s151_122 : mSnd 151 122 (a_iload 124 5) := snd_iload (by decide +kernel : decode (mBc 151) 122 = .ok (.iload 5, 2)) rfl
theorem s151_124 : mSnd 151 124 (a_ii 125 (fun x y => x + y)) := snd_iadd (by decide +kernel : decode (mBc 151) 124 = .ok (.iadd, 1)) rfl
theorem s151_125 : mSnd 151 125 (a_iload 127 6) := snd_iload (by decide +kernel : decode (mBc 151) 125 = .ok (.iload 6, 2)) rfl
theorem s151_127 : mSnd 151 127 (a_iload 128 3) := snd_iload_n (by decide +kernel : decode (mBc 151) 127 = .ok (.iload_n 3, 1)) rfl rfl
theorem s151_128 : mSnd 151 128 (a_icmp 131 135 (fun x y => decide (x < y))) := snd_icmp_lt (by decide +kernel : decode (mBc 151) 128 = .ok (.if_icmp .lt 7, 3)) rfl rfl
theorem s151_131 : mSnd 151 131 (a_push 132 (.long (lZ 1))) := snd_lconst (by decide +kernel : decode (mBc 151) 131 = .ok (.lconst 1, 1)) (by decide +kernel) rfl
theorem s151_132 : mSnd 151 132 (a_goto 136) := snd_goto (by decide +kernel : decode (mBc 151) 132 = .ok (.goto 4, 3)) rfl
theorem s151_135 : mSnd 151 135 (a_push 136 (.long (lZ 0))) := snd_lconst (by decide +kernel : decode (mBc 151) 135 = .ok (.lconst 0, 1)) (by decide +kernel) rfl
theorem s151_136 : mSnd 151 136 (a_last 137) := snd_last (by decide +kernel : decode (mBc 151) 136 = .ok (.lastore, 1)) rfl
theorem s151_137 : mSnd 151 137 (a_iinc 140 5 (iZ 1)) := snd_iinc (by decide +kernel : decode (mBc 151) 137 = .ok (.iinc 5 1, 3)) rfl (by decide) rfl
theorem s151_140 : mSnd 151 140 (a_goto 65) := snd_goto (by decide +kernel : decode (mBc 151) 140 = .ok (.goto (-75), 3)) rfl
theorem s151_143 : mSnd 151 143 (a_aload 144 0) := snd_aload_n (by decide +kernel : decode (mBc 151) 143 = .ok (.aload_n 0, 1)) rfl rfl
theorem s151_144 : mSnd 151 144 (a_invV 147 0 0 0 [(10, 146, 0, 0)]) := snd_invV v151_88 rfl rfl (by decide +kernel : decode (mBc 151) 144 = .ok (.invokevirtual 88, 3)) rfl
theorem s151_147 : mSnd 151 147 (a_iret 0 0) := snd_iret rfl rfl rfl (by decide +kernel : decode (mBc 151) 147 = .ok (.ireturn, 1))
theorem ok151 : mOkl2 151 ct151 := ⟨⟨s151_0, s151_1, s151_2, s151_3, s151_4, s151_7, s151_10, s151_11, s151_12, s151_13, s151_14, s151_16, trivial⟩, ⟨s151_17, s151_20, s151_21, s151_22, s151_25, s151_28, s151_29, s151_30, s151_31, s151_33, s151_36, s151_39, trivial⟩, ⟨s151_41, s151_42, s151_43, s151_46, s151_48, s151_51, s151_53, s151_54, s151_55, s151_56, s151_57, s151_60, trivial⟩, ⟨s151_62, s151_63, s151_65, s151_67, s151_68, s151_69, s151_70, s151_73, s151_74, s151_76, s151_77, s151_79, trivial⟩, ⟨s151_81, s151_82, s151_85, s151_87, s151_89, s151_91, s151_92, s151_93, s151_94, s151_95, s151_96, s151_98, trivial⟩, ⟨s151_100, s151_103, s151_104, s151_105, s151_107, s151_110, s151_113, s151_114, s151_117, s151_119, s151_121, s151_122, trivial⟩, ⟨s151_124, s151_125, s151_127, s151_128, s151_131, s151_132, s151_135, s151_136, s151_137, s151_140, s151_143, s151_144, trivial⟩, ⟨s151_147, trivial⟩, trivial⟩
theorem s152_0 : mSnd 152 0 (a_aload 1 0) := snd_aload_n (by decide +kernel : decode (mBc 152) 0 = .ok (.aload_n 0, 1)) rfl rfl
theorem s152_1 : mSnd 152 1 (a_iload 2 1) := snd_iload_n (by decide +kernel : decode (mBc 152) 1 = .ok (.iload_n 1, 1)) rfl rfl
theorem s152_2 : mSnd 152 2 (a_push 3 (.int (iZ 1))) := snd_iconst (by decide +kernel : decode (mBc 152) 2 = .ok (.iconst 1, 1)) rfl rfl
theorem s152_3 : mSnd 152 3 (a_push 4 (.int (iZ 4))) := snd_iconst (by decide +kernel : decode (mBc 152) 3 = .ok (.iconst 4, 1)) rfl rfl
theorem s152_4 : mSnd 152 4 (a_invV 7 3 0 0 [(10, 137, 0, 0)]) := snd_invV v152_76 rfl rfl (by decide +kernel : decode (mBc 152) 4 = .ok (.invokevirtual 76, 3)) rfl
theorem s152_7 : mSnd 152 7 (a_if 10 28 (fun x => decide (x = 0))) := snd_if_eq (by decide +kernel : decode (mBc 152) 7 = .ok (.ifCond .eq 21, 3)) rfl rfl
theorem s152_10 : mSnd 152 10 (a_aload 11 0) := snd_aload_n (by decide +kernel : decode (mBc 152) 10 = .ok (.aload_n 0, 1)) rfl rfl
theorem s152_11 : mSnd 152 11 (a_iload 12 2) := snd_iload_n (by decide +kernel : decode (mBc 152) 11 = .ok (.iload_n 2, 1)) rfl rfl
theorem s152_12 : mSnd 152 12 (a_push 13 (.int (iZ 0))) := snd_iconst (by decide +kernel : decode (mBc 152) 12 = .ok (.iconst 0, 1)) rfl rfl
theorem s152_13 : mSnd 152 13 (a_aload 14 0) := snd_aload_n (by decide +kernel : decode (mBc 152) 13 = .ok (.aload_n 0, 1)) rfl rfl
theorem s152_14 : mSnd 152 14 (a_push 16 (.int (iZ 51))) := snd_bipush (by decide +kernel : decode (mBc 152) 14 = .ok (.bipush 51, 2)) (by decide +kernel) rfl
theorem s152_16 : mSnd 152 16 (a_iload 17 1) := snd_iload_n (by decide +kernel : decode (mBc 152) 16 = .ok (.iload_n 1, 1)) rfl rfl
theorem s152_17 : mSnd 152 17 (a_invV 20 2 0 0 [(10, 149, 0, 0)]) := snd_invV v152_96 rfl rfl (by decide +kernel : decode (mBc 152) 17 = .ok (.invokevirtual 96, 3)) rfl
theorem s152_20 : mSnd 152 20 (a_push 21 (.int (iZ 1))) := snd_iconst (by decide +kernel : decode (mBc 152) 20 = .ok (.iconst 1, 1)) rfl rfl
theorem s152_21 : mSnd 152 21 (a_ii 22 (fun x y => x - y)) := snd_isub (by decide +kernel : decode (mBc 152) 21 = .ok (.isub, 1)) rfl
theorem s152_22 : mSnd 152 22 (a_invV 25 3 0 0 [(10, 137, 0, 0)]) := snd_invV v152_76 rfl rfl (by decide +kernel : decode (mBc 152) 22 = .ok (.invokevirtual 76, 3)) rfl
theorem s152_25 : mSnd 152 25 (a_if 28 31 (fun x => decide (¬ x = 0))) := snd_if_ne (by decide +kernel : decode (mBc 152) 25 = .ok (.ifCond .ne 6, 3)) rfl rfl
theorem s152_28 : mSnd 152 28 (a_push 30 (.int (iZ (-2)))) := snd_bipush (by decide +kernel : decode (mBc 152) 28 = .ok (.bipush (-2), 2)) (by decide +kernel) rfl
theorem s152_30 : mSnd 152 30 (a_iret 0 0) := snd_iret rfl rfl rfl (by decide +kernel : decode (mBc 152) 30 = .ok (.ireturn, 1))
theorem s152_31 : mSnd 152 31 (a_aload 32 0) := snd_aload_n (by decide +kernel : decode (mBc 152) 31 = .ok (.aload_n 0, 1)) rfl rfl
theorem s152_32 : mSnd 152 32 (a_getf 35 0 [10]) := snd_getf f27 q902 (Or.inl rfl) (by decide +kernel : decode (mBc 152) 32 = .ok (.getfield 7, 3)) rfl
theorem s152_35 : mSnd 152 35 (a_push 37 (.int (iZ 10))) := snd_bipush (by decide +kernel : decode (mBc 152) 35 = .ok (.bipush 10, 2)) (by decide +kernel) rfl
theorem s152_37 : mSnd 152 37 (a_icmp 40 43 (fun x y => decide (¬ x = y))) := snd_icmp_ne (by decide +kernel : decode (mBc 152) 37 = .ok (.if_icmp .ne 6, 3)) rfl rfl
theorem s152_40 : mSnd 152 40 (a_push 42 (.int (iZ (-4)))) := snd_bipush (by decide +kernel : decode (mBc 152) 40 = .ok (.bipush (-4), 2)) (by decide +kernel) rfl
theorem s152_42 : mSnd 152 42 (a_iret 0 0) := snd_iret rfl rfl rfl (by decide +kernel : decode (mBc 152) 42 = .ok (.ireturn, 1))
theorem s152_43 : mSnd 152 43 (a_aload 44 0) := snd_aload_n (by decide +kernel : decode (mBc 152) 43 = .ok (.aload_n 0, 1)) rfl rfl
theorem s152_44 : mSnd 152 44 (a_push 45 (.int (iZ 2))) := snd_iconst (by decide +kernel : decode (mBc 152) 44 = .ok (.iconst 2, 1)) rfl rfl
theorem s152_45 : mSnd 152 45 (a_iload 46 1) := snd_iload_n (by decide +kernel : decode (mBc 152) 45 = .ok (.iload_n 1, 1)) rfl rfl
theorem s152_46 : mSnd 152 46 (a_invV 49 2 0 0 [(10, 145, 0, 0)]) := snd_invV v152_84 rfl rfl (by decide +kernel : decode (mBc 152) 46 = .ok (.invokevirtual 84, 3)) rfl
theorem s152_49 : mSnd 152 49 (a_istore 50 3) := snd_istore_n (by decide +kernel : decode (mBc 152) 49 = .ok (.istore_n 3, 1)) rfl (by decide) rfl
theorem s152_50 : mSnd 152 50 (a_push 51 (.int (iZ 1))) := snd_iconst (by decide +kernel : decode (mBc 152) 50 = .ok (.iconst 1, 1)) rfl rfl
theorem s152_51 : mSnd 152 51 (a_istore 53 4) := snd_istore (by decide +kernel : decode (mBc 152) 51 = .ok (.istore 4, 2)) (by decide) rfl
theorem s152_53 : mSnd 152 53 (a_iload 55 4) := snd_iload (by decide +kernel : decode (mBc 152) 53 = .ok (.iload 4, 2)) rfl
theorem s152_55 : mSnd 152 55 (a_push 56 (.int (iZ 1))) := snd_iconst (by decide +kernel : decode (mBc 152) 55 = .ok (.iconst 1, 1)) rfl rfl
theorem s152_56 : mSnd 152 56 (a_iload 57 1) := snd_iload_n (by decide +kernel : decode (mBc 152) 56 = .ok (.iload_n 1, 1)) rfl rfl
theorem s152_57 : mSnd 152 57 (a_ii 58 (fun x y => x <<< (y &&& 31))) := snd_ishl (by decide +kernel : decode (mBc 152) 57 = .ok (.ishl, 1)) rfl
theorem s152_58 : mSnd 152 58 (a_icmp 61 137 (fun x y => decide (y ≤ x))) := snd_icmp_ge (by decide +kernel : decode (mBc 152) 58 = .ok (.if_icmp .ge 79, 3)) rfl rfl
theorem s152_61 : mSnd 152 61 (a_push 62 (.int (iZ 0))) := snd_iconst (by decide +kernel : decode (mBc 152) 61 = .ok (.iconst 0, 1)) rfl rfl
theorem s152_62 : mSnd 152 62 (a_istore 64 5) := snd_istore (by decide +kernel : decode (mBc 152) 62 = .ok (.istore 5, 2)) (by decide) rfl
theorem s152_64 : mSnd 152 64 (a_push 65 (.int (iZ 0))) := snd_iconst (by decide +kernel : decode (mBc 152) 64 = .ok (.iconst 0, 1)) rfl rfl
theorem s152_65 : mSnd 152 65 (a_istore 67 6) := snd_istore (by decide +kernel : decode (mBc 152) 65 = .ok (.istore 6, 2)) (by decide) rfl
theorem s152_67 : mSnd 152 67 (a_iload 69 6) := snd_iload (by decide +kernel : decode (mBc 152) 67 = .ok (.iload 6, 2)) rfl
theorem s152_69 : mSnd 152 69 (a_iload 70 1) := snd_iload_n (by decide +kernel : decode (mBc 152) 69 = .ok (.iload_n 1, 1)) rfl rfl
theorem s152_70 : mSnd 152 70 (a_icmp 73 115 (fun x y => decide (y ≤ x))) := snd_icmp_ge (by decide +kernel : decode (mBc 152) 70 = .ok (.if_icmp .ge 45, 3)) rfl rfl
theorem s152_73 : mSnd 152 73 (a_iload 75 4) := snd_iload (by decide +kernel : decode (mBc 152) 73 = .ok (.iload 4, 2)) rfl
theorem s152_75 : mSnd 152 75 (a_iload 77 6) := snd_iload (by decide +kernel : decode (mBc 152) 75 = .ok (.iload 6, 2)) rfl
theorem s152_77 : mSnd 152 77 (a_ii 78 (fun x y => x >>> (y &&& 31))) := snd_ishr (by decide +kernel : decode (mBc 152) 77 = .ok (.ishr, 1)) rfl
theorem s152_78 : mSnd 152 78 (a_push 79 (.int (iZ 1))) := snd_iconst (by decide +kernel : decode (mBc 152) 78 = .ok (.iconst 1, 1)) rfl rfl
theorem s152_79 : mSnd 152 79 (a_ii 80 (fun x y => x &&& y)) := snd_iand (by decide +kernel : decode (mBc 152) 79 = .ok (.iand, 1)) rfl
theorem s152_80 : mSnd 152 80 (a_push 81 (.int (iZ 1))) := snd_iconst (by decide +kernel : decode (mBc 152) 80 = .ok (.iconst 1, 1)) rfl rfl
theorem s152_81 : mSnd 152 81 (a_icmp 84 109 (fun x y => decide (¬ x = y))) := snd_icmp_ne (by decide +kernel : decode (mBc 152) 81 = .ok (.if_icmp .ne 28, 3)) rfl rfl
theorem s152_84 : mSnd 152 84 (a_aload 85 0) := snd_aload_n (by decide +kernel : decode (mBc 152) 84 = .ok (.aload_n 0, 1)) rfl rfl
theorem s152_85 : mSnd 152 85 (a_iload 86 2) := snd_iload_n (by decide +kernel : decode (mBc 152) 85 = .ok (.iload_n 2, 1)) rfl rfl
theorem s152_86 : mSnd 152 86 (a_push 88 (.int (iZ 51))) := snd_bipush (by decide +kernel : decode (mBc 152) 86 = .ok (.bipush 51, 2)) (by decide +kernel) rfl
theorem s152_88 : mSnd 152 88 (a_iload 90 6) := snd_iload (by decide +kernel : decode (mBc 152) 88 = .ok (.iload 6, 2)) rfl
theorem s152_90 : mSnd 152 90 (a_invV 93 3 0 0 [(10, 150, 0, 0)]) := snd_invV v152_99 rfl rfl (by decide +kernel : decode (mBc 152) 90 = .ok (.invokevirtual 99, 3)) rfl
theorem s152_93 : mSnd 152 93 (a_iload 95 5) := snd_iload (by decide +kernel : decode (mBc 152) 93 = .ok (.iload 5, 2)) rfl
theorem s152_95 : mSnd 152 95 (a_icmp 98 109 (fun x y => decide (x ≤ y))) := snd_icmp_le (by decide +kernel : decode (mBc 152) 95 = .ok (.if_icmp .le 14, 3)) rfl rfl
theorem s152_98 : mSnd 152 98 (a_aload 99 0) := snd_aload_n (by decide +kernel : decode (mBc 152) 98 = .ok (.aload_n 0, 1)) rfl rfl
theorem s152_99 : mSnd 152 99 (a_iload 100 2) := snd_iload_n (by decide +kernel : decode (mBc 152) 99 = .ok (.iload_n 2, 1)) rfl rfl
theorem s152_100 : mSnd 152 100 (a_push 102 (.int (iZ 51))) := snd_bipush (by decide +kernel : decode (mBc 152) 100 = .ok (.bipush 51, 2)) (by decide +kernel) rfl
theorem s152_102 : mSnd 152 102 (a_iload 104 6) := snd_iload (by decide +kernel : decode (mBc 152) 102 = .ok (.iload 6, 2)) rfl
theorem s152_104 : mSnd 152 104 (a_invV 107 3 0 0 [(10, 150, 0, 0)]) := snd_invV v152_99 rfl rfl (by decide +kernel : decode (mBc 152) 104 = .ok (.invokevirtual 99, 3)) rfl
theorem s152_107 : mSnd 152 107 (a_istore 109 5) := snd_istore (by decide +kernel : decode (mBc 152) 107 = .ok (.istore 5, 2)) (by decide) rfl
theorem s152_109 : mSnd 152 109 (a_iinc 112 6 (iZ 1)) := snd_iinc (by decide +kernel : decode (mBc 152) 109 = .ok (.iinc 6 1, 3)) rfl (by decide) rfl
theorem s152_112 : mSnd 152 112 (a_goto 67) := snd_goto (by decide +kernel : decode (mBc 152) 112 = .ok (.goto (-45), 3)) rfl
theorem s152_115 : mSnd 152 115 (a_aload 116 0) := snd_aload_n (by decide +kernel : decode (mBc 152) 115 = .ok (.aload_n 0, 1)) rfl rfl
theorem s152_116 : mSnd 152 116 (a_getf 119 3 [10]) := snd_getf f30 q905 (Or.inl rfl) (by decide +kernel : decode (mBc 152) 116 = .ok (.getfield 20, 3)) rfl
theorem s152_119 : mSnd 152 119 (a_push 121 (.int (iZ 16))) := snd_bipush (by decide +kernel : decode (mBc 152) 119 = .ok (.bipush 16, 2)) (by decide +kernel) rfl
theorem s152_121 : mSnd 152 121 (a_iload 122 3) := snd_iload_n (by decide +kernel : decode (mBc 152) 121 = .ok (.iload_n 3, 1)) rfl rfl
theorem s152_122 : mSnd 152 122 (a_ii 123 (fun x y => x * y)) := snd_imul (by decide +kernel : decode (mBc 152) 122 = .ok (.imul, 1)) rfl
theorem s152_123 : mSnd 152 123 (a_iload 125 4) := snd_iload (by decide +kernel : decode (mBc 152) 123 = .ok (.iload 4, 2)) rfl
theorem s152_125 : mSnd 152 125 (a_ii 126 (fun x y => x + y)) := snd_iadd (by decide +kernel : decode (mBc 152) 125 = .ok (.iadd, 1)) rfl
theorem s152_126 : mSnd 152 126 (a_iload 128 5) := snd_iload (by decide +kernel : decode (mBc 152) 126 = .ok (.iload 5, 2)) rfl
theorem s152_128 : mSnd 152 128 (a_i 129 (fun x => -x)) := snd_ineg (by decide +kernel : decode (mBc 152) 128 = .ok (.ineg, 1)) rfl
theorem s152_129 : mSnd 152 129 (a_i2l 130) := snd_i2l (by decide +kernel : decode (mBc 152) 129 = .ok (.i2l, 1)) rfl
theorem s152_130 : mSnd 152 130 (a_last 131) := snd_last (by decide +kernel : decode (mBc 152) 130 = .ok (.lastore, 1)) rfl
theorem s152_131 : mSnd 152 131 (a_iinc 134 4 (iZ 1)) := snd_iinc (by decide +kernel : decode (mBc 152) 131 = .ok (.iinc 4 1, 3)) rfl (by decide) rfl
theorem s152_134 : mSnd 152 134 (a_goto 53) := snd_goto (by decide +kernel : decode (mBc 152) 134 = .ok (.goto (-81), 3)) rfl
theorem s152_137 : mSnd 152 137 (a_aload 138 0) := snd_aload_n (by decide +kernel : decode (mBc 152) 137 = .ok (.aload_n 0, 1)) rfl rfl
theorem s152_138 : mSnd 152 138 (a_invV 141 0 0 0 [(10, 146, 0, 0)]) := snd_invV v152_88 rfl rfl (by decide +kernel : decode (mBc 152) 138 = .ok (.invokevirtual 88, 3)) rfl
theorem s152_141 : mSnd 152 141 (a_iret 0 0) := snd_iret rfl rfl rfl (by decide +kernel : decode (mBc 152) 141 = .ok (.ireturn, 1))
theorem ok152 : mOkl2 152 ct152 := ⟨⟨s152_0, s152_1, s152_2, s152_3, s152_4, s152_7, s152_10, s152_11, s152_12, s152_13, s152_14, s152_16, trivial⟩, ⟨s152_17, s152_20, s152_21, s152_22, s152_25, s152_28, s152_30, s152_31, s152_32, s152_35, s152_37, s152_40, trivial⟩, ⟨s152_42, s152_43, s152_44, s152_45, s152_46, s152_49, s152_50, s152_51, s152_53, s152_55, s152_56, s152_57, trivial⟩, ⟨s152_58, s152_61, s152_62, s152_64, s152_65, s152_67, s152_69, s152_70, s152_73, s152_75, s152_77, s152_78, trivial⟩, ⟨s152_79, s152_80, s152_81, s152_84, s152_85, s152_86, s152_88, s152_90, s152_93, s152_95, s152_98, s152_99, trivial⟩, ⟨s152_100, s152_102, s152_104, s152_107, s152_109, s152_112, s152_115, s152_116, s152_119, s152_121, s152_122, s152_123, trivial⟩, ⟨s152_125, s152_126, s152_128, s152_129, s152_130, s152_131, s152_134, s152_137, s152_138, s152_141, trivial⟩, trivial⟩
theorem s153_0 : mSnd 153 0 (a_aload 1 0) := snd_aload_n (by decide +kernel : decode (mBc 153) 0 = .ok (.aload_n 0, 1)) rfl rfl
theorem s153_1 : mSnd 153 1 (a_iload 2 1) := snd_iload_n (by decide +kernel : decode (mBc 153) 1 = .ok (.iload_n 1, 1)) rfl rfl
theorem s153_2 : mSnd 153 2 (a_push 3 (.int (iZ 1))) := snd_iconst (by decide +kernel : decode (mBc 153) 2 = .ok (.iconst 1, 1)) rfl rfl
theorem s153_3 : mSnd 153 3 (a_push 4 (.int (iZ 4))) := snd_iconst (by decide +kernel : decode (mBc 153) 3 = .ok (.iconst 4, 1)) rfl rfl
theorem s153_4 : mSnd 153 4 (a_invV 7 3 0 0 [(10, 137, 0, 0)]) := snd_invV v153_76 rfl rfl (by decide +kernel : decode (mBc 153) 4 = .ok (.invokevirtual 76, 3)) rfl
theorem s153_7 : mSnd 153 7 (a_if 10 24 (fun x => decide (x = 0))) := snd_if_eq (by decide +kernel : decode (mBc 153) 7 = .ok (.ifCond .eq 17, 3)) rfl rfl
theorem s153_10 : mSnd 153 10 (a_aload 11 0) := snd_aload_n (by decide +kernel : decode (mBc 153) 10 = .ok (.aload_n 0, 1)) rfl rfl
theorem s153_11 : mSnd 153 11 (a_iload 12 2) := snd_iload_n (by decide +kernel : decode (mBc 153) 11 = .ok (.iload_n 2, 1)) rfl rfl
theorem s153_12 : mSnd 153 12 (a_push 13 (.int (iZ 0))) := snd_iconst (by decide +kernel : decode (mBc 153) 12 = .ok (.iconst 0, 1)) rfl rfl
theorem s153_13 : mSnd 153 13 (a_push 14 (.int (iZ 1))) := snd_iconst (by decide +kernel : decode (mBc 153) 13 = .ok (.iconst 1, 1)) rfl rfl
theorem s153_14 : mSnd 153 14 (a_iload 15 1) := snd_iload_n (by decide +kernel : decode (mBc 153) 14 = .ok (.iload_n 1, 1)) rfl rfl
theorem s153_15 : mSnd 153 15 (a_ii 16 (fun x y => x <<< (y &&& 31))) := snd_ishl (by decide +kernel : decode (mBc 153) 15 = .ok (.ishl, 1)) rfl
theorem s153_16 : mSnd 153 16 (a_push 17 (.int (iZ 1))) := snd_iconst (by decide +kernel : decode (mBc 153) 16 = .ok (.iconst 1, 1)) rfl rfl
theorem s153_17 : mSnd 153 17 (a_ii 18 (fun x y => x - y)) := snd_isub (by decide +kernel : decode (mBc 153) 17 = .ok (.isub, 1)) rfl
theorem s153_18 : mSnd 153 18 (a_invV 21 3 0 0 [(10, 137, 0, 0)]) := snd_invV v153_76 rfl rfl (by decide +kernel : decode (mBc 153) 18 = .ok (.invokevirtual 76, 3)) rfl
theorem s153_21 : mSnd 153 21 (a_if 24 27 (fun x => decide (¬ x = 0))) := snd_if_ne (by decide +kernel : decode (mBc 153) 21 = .ok (.ifCond .ne 6, 3)) rfl rfl
theorem s153_24 : mSnd 153 24 (a_push 26 (.int (iZ (-2)))) := snd_bipush (by decide +kernel : decode (mBc 153) 24 = .ok (.bipush (-2), 2)) (by decide +kernel) rfl
theorem s153_26 : mSnd 153 26 (a_iret 0 0) := snd_iret rfl rfl rfl (by decide +kernel : decode (mBc 153) 26 = .ok (.ireturn, 1))
theorem s153_27 : mSnd 153 27 (a_aload 28 0) := snd_aload_n (by decide +kernel : decode (mBc 153) 27 = .ok (.aload_n 0, 1)) rfl rfl
theorem s153_28 : mSnd 153 28 (a_getf 31 0 [10]) := snd_getf f27 q902 (Or.inl rfl) (by decide +kernel : decode (mBc 153) 28 = .ok (.getfield 7, 3)) rfl
theorem s153_31 : mSnd 153 31 (a_push 33 (.int (iZ 10))) := snd_bipush (by decide +kernel : decode (mBc 153) 31 = .ok (.bipush 10, 2)) (by decide +kernel) rfl
theorem s153_33 : mSnd 153 33 (a_icmp 36 39 (fun x y => decide (¬ x = y))) := snd_icmp_ne (by decide +kernel : decode (mBc 153) 33 = .ok (.if_icmp .ne 6, 3)) rfl rfl
theorem s153_36 : mSnd 153 36 (a_push 38 (.int (iZ (-4)))) := snd_bipush (by decide +kernel : decode (mBc 153) 36 = .ok (.bipush (-4), 2)) (by decide +kernel) rfl
theorem s153_38 : mSnd 153 38 (a_iret 0 0) := snd_iret rfl rfl rfl (by decide +kernel : decode (mBc 153) 38 = .ok (.ireturn, 1))
theorem s153_39 : mSnd 153 39 (a_aload 40 0) := snd_aload_n (by decide +kernel : decode (mBc 153) 39 = .ok (.aload_n 0, 1)) rfl rfl
theorem s153_40 : mSnd 153 40 (a_push 41 (.int (iZ 3))) := snd_iconst (by decide +kernel : decode (mBc 153) 40 = .ok (.iconst 3, 1)) rfl rfl
theorem s153_41 : mSnd 153 41 (a_iload 42 1) := snd_iload_n (by decide +kernel : decode (mBc 153) 41 = .ok (.iload_n 1, 1)) rfl rfl
theorem s153_42 : mSnd 153 42 (a_invV 45 2 0 0 [(10, 145, 0, 0)]) := snd_invV v153_84 rfl rfl (by decide +kernel : decode (mBc 153) 42 = .ok (.invokevirtual 84, 3)) rfl
theorem s153_45 : mSnd 153 45 (a_istore 46 3) := snd_istore_n (by decide +kernel : decode (mBc 153) 45 = .ok (.istore_n 3, 1)) rfl (by decide) rfl
theorem s153_46 : mSnd 153 46 (a_push 47 (.int (iZ 1))) := snd_iconst (by decide +kernel : decode (mBc 153) 46 = .ok (.iconst 1, 1)) rfl rfl
theorem s153_47 : mSnd 153 47 (a_istore 49 4) := snd_istore (by decide +kernel : decode (mBc 153) 47 = .ok (.istore 4, 2)) (by decide) rfl
theorem s153_49 : mSnd 153 49 (a_iload 51 4) := snd_iload (by decide +kernel : decode (mBc 153) 49 = .ok (.iload 4, 2)) rfl
theorem s153_51 : mSnd 153 51 (a_push 52 (.int (iZ 1))) := snd_iconst (by decide +kernel : decode (mBc 153) 51 = .ok (.iconst 1, 1)) rfl rfl
theorem s153_52 : mSnd 153 52 (a_iload 53 1) := snd_iload_n (by decide +kernel : decode (mBc 153) 52 = .ok (.iload_n 1, 1)) rfl rfl
theorem s153_53 : mSnd 153 53 (a_ii 54 (fun x y => x <<< (y &&& 31))) := snd_ishl (by decide +kernel : decode (mBc 153) 53 = .ok (.ishl, 1)) rfl
theorem s153_54 : mSnd 153 54 (a_icmp 57 113 (fun x y => decide (y ≤ x))) := snd_icmp_ge (by decide +kernel : decode (mBc 153) 54 = .ok (.if_icmp .ge 59, 3)) rfl rfl
theorem s153_57 : mSnd 153 57 (a_aload 58 0) := snd_aload_n (by decide +kernel : decode (mBc 153) 57 = .ok (.aload_n 0, 1)) rfl rfl
theorem s153_58 : mSnd 153 58 (a_iload 60 4) := snd_iload (by decide +kernel : decode (mBc 153) 58 = .ok (.iload 4, 2)) rfl
theorem s153_60 : mSnd 153 60 (a_iload 61 2) := snd_iload_n (by decide +kernel : decode (mBc 153) 60 = .ok (.iload_n 2, 1)) rfl rfl
theorem s153_61 : mSnd 153 61 (a_ii 62 (fun x y => x &&& y)) := snd_iand (by decide +kernel : decode (mBc 153) 61 = .ok (.iand, 1)) rfl
theorem s153_62 : mSnd 153 62 (a_invV 65 1 0 0 [(10, 140, 0, 0)]) := snd_invV v153_103 rfl rfl (by decide +kernel : decode (mBc 153) 62 = .ok (.invokevirtual 103, 3)) rfl
theorem s153_65 : mSnd 153 65 (a_istore 67 5) := snd_istore (by decide +kernel : decode (mBc 153) 65 = .ok (.istore 5, 2)) (by decide) rfl
theorem s153_67 : mSnd 153 67 (a_aload 68 0) := snd_aload_n (by decide +kernel : decode (mBc 153) 67 = .ok (.aload_n 0, 1)) rfl rfl
theorem s153_68 : mSnd 153 68 (a_iload 70 4) := snd_iload (by decide +kernel : decode (mBc 153) 68 = .ok (.iload 4, 2)) rfl
theorem s153_70 : mSnd 153 70 (a_iload 71 2) := snd_iload_n (by decide +kernel : decode (mBc 153) 70 = .ok (.iload_n 2, 1)) rfl rfl
theorem s153_71 : mSnd 153 71 (a_push 72 (.int (iZ (-1)))) := snd_iconst (by decide +kernel : decode (mBc 153) 71 = .ok (.iconst (-1), 1)) rfl rfl
theorem s153_72 : mSnd 153 72 (a_ii 73 (fun x y => x ^^^ y)) := snd_ixor (by decide +kernel : decode (mBc 153) 72 = .ok (.ixor, 1)) rfl
theorem s153_73 : mSnd 153 73 (a_ii 74 (fun x y => x &&& y)) := snd_iand (by decide +kernel : decode (mBc 153) 73 = .ok (.iand, 1)) rfl
theorem s153_74 : mSnd 153 74 (a_invV 77 1 0 0 [(10, 140, 0, 0)]) := snd_invV v153_103 rfl rfl (by decide +kernel : decode (mBc 153) 74 = .ok (.invokevirtual 103, 3)) rfl
theorem s153_77 : mSnd 153 77 (a_istore 79 6) := snd_istore (by decide +kernel : decode (mBc 153) 77 = .ok (.istore 6, 2)) (by decide) rfl
theorem s153_79 : mSnd 153 79 (a_aload 80 0) := snd_aload_n (by decide +kernel : decode (mBc 153) 79 = .ok (.aload_n 0, 1)) rfl rfl
theorem s153_80 : mSnd 153 80 (a_getf 83 3 [10]) := snd_getf f30 q905 (Or.inl rfl) (by decide +kernel : decode (mBc 153) 80 = .ok (.getfield 20, 3)) rfl
theorem s153_83 : mSnd 153 83 (a_push 85 (.int (iZ 16))) := snd_bipush (by decide +kernel : decode (mBc 153) 83 = .ok (.bipush 16, 2)) (by decide +kernel) rfl
theorem s153_85 : mSnd 153 85 (a_iload 86 3) := snd_iload_n (by decide +kernel : decode (mBc 153) 85 = .ok (.iload_n 3, 1)) rfl rfl
theorem s153_86 : mSnd 153 86 (a_ii 87 (fun x y => x * y)) := snd_imul (by decide +kernel : decode (mBc 153) 86 = .ok (.imul, 1)) rfl
theorem s153_87 : mSnd 153 87 (a_iload 89 4) := snd_iload (by decide +kernel : decode (mBc 153) 87 = .ok (.iload 4, 2)) rfl
theorem s153_89 : mSnd 153 89 (a_ii 90 (fun x y => x + y)) := snd_iadd (by decide +kernel : decode (mBc 153) 89 = .ok (.iadd, 1)) rfl
theorem s153_90 : mSnd 153 90 (a_iload 92 5) := snd_iload (by decide +kernel : decode (mBc 153) 90 = .ok (.iload 5, 2)) rfl
theorem s153_92 : mSnd 153 92 (a_iload 94 6) := snd_iload (by decide +kernel : decode (mBc 153) 92 = .ok (.iload 6, 2)) rfl
theorem s153_94 : mSnd 153 94 (a_icmp 97 103 (fun x y => decide (y ≤ x))) := snd_icmp_ge (by decide +kernel : decode (mBc 153) 94 = .ok (.if_icmp .ge 9, 3)) rfl rfl
theorem s153_97 : mSnd 153 97 (a_iload 99 5) := snd_iload (by decide +kernel : decode (mBc 153) 97 = .ok (.iload 5, 2)) rfl
theorem s153_99 : mSnd 153 99 (a_i2l 100) := snd_i2l (by decide +kernel : decode (mBc 153) 99 = .ok (.i2l, 1)) rfl
theorem s153_100 : mSnd 153 100 (a_goto 106) := snd_goto (by decide +kernel : decode (mBc 153) 100 = .ok (.goto 6, 3)) rfl
theorem s153_103 : mSnd 153 103 (a_iload 105 6) := snd_iload (by decide +kernel : decode (mBc 153) 103 = .ok (.iload 6, 2)) rfl
theorem s153_105 : mSnd 153 105 (a_i2l 106) := snd_i2l (by decide +kernel : decode (mBc 153) 105 = .ok (.i2l, 1)) rfl
theorem s153_106 : mSnd 153 106 (a_last 107) := snd_last (by decide +kernel : decode (mBc 153) 106 = .ok (.lastore, 1)) rfl
theorem s153_107 : mSnd 153 107 (a_iinc 110 4 (iZ 1)) := snd_iinc (by decide +kernel : decode (mBc 153) 107 = .ok (.iinc 4 1, 3)) rfl (by decide) rfl
theorem s153_110 : mSnd 153 110 (a_goto 49) := snd_goto (by decide +kernel : decode (mBc 153) 110 = .ok (.goto (-61), 3)) rfl
theorem s153_113 : mSnd 153 113 (a_aload 114 0) := snd_aload_n (by decide +kernel : decode (mBc 153) 113 = .ok (.aload_n 0, 1)) rfl rfl
theorem s153_114 : mSnd 153 114 (a_invV 117 0 0 0 [(10, 146, 0, 0)]) := snd_invV v153_88 rfl rfl (by decide +kernel : decode (mBc 153) 114 = .ok (.invokevirtual 88, 3)) rfl
theorem s153_117 : mSnd 153 117 (a_iret 0 0) := snd_iret rfl rfl rfl (by decide +kernel : decode (mBc 153) 117 = .ok (.ireturn, 1))
theorem ok153 : mOkl2 153 ct153 := ⟨⟨s153_0, s153_1, s153_2, s153_3, s153_4, s153_7, s153_10, s153_11, s153_12, s153_13, s153_14, s153_15, trivial⟩, ⟨s153_16, s153_17, s153_18, s153_21, s153_24, s153_26, s153_27, s153_28, s153_31, s153_33, s153_36, s153_38, trivial⟩, ⟨s153_39, s153_40, s153_41, s153_42, s153_45, s153_46, s153_47, s153_49, s153_51, s153_52, s153_53, s153_54, trivial⟩, ⟨s153_57, s153_58, s153_60, s153_61, s153_62, s153_65, s153_67, s153_68, s153_70, s153_71, s153_72, s153_73, trivial⟩, ⟨s153_74, s153_77, s153_79, s153_80, s153_83, s153_85, s153_86, s153_87, s153_89, s153_90, s153_92, s153_94, trivial⟩, ⟨s153_97, s153_99, s153_100, s153_103, s153_105, s153_106, s153_107, s153_110, s153_113, s153_114, s153_117, trivial⟩, trivial⟩
