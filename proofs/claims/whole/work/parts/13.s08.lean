theorem s167_0 : mSnd 167 0 (a_push 1 (.long (lZ 0))) := snd_lconst (by decide +kernel : decode (mBc 167) 0 = .ok (.lconst 0, 1)) (by decide +kernel) rfl
theorem s167_1 : mSnd 167 1 (a_lstore 2 2) := snd_lstore_n (by decide +kernel : decode (mBc 167) 1 = .ok (.lstore_n 2, 1)) rfl (by decide) rfl
theorem s167_2 : mSnd 167 2 (a_push 3 (.int (iZ 0))) := snd_iconst (by decide +kernel : decode (mBc 167) 2 = .ok (.iconst 0, 1)) rfl rfl
theorem s167_3 : mSnd 167 3 (a_istore 5 4) := snd_istore (by decide +kernel : decode (mBc 167) 3 = .ok (.istore 4, 2)) (by decide) rfl
theorem s167_5 : mSnd 167 5 (a_iload 7 4) := snd_iload (by decide +kernel : decode (mBc 167) 5 = .ok (.iload 4, 2)) rfl
theorem s167_7 : mSnd 167 7 (a_aload 8 0) := snd_aload_n (by decide +kernel : decode (mBc 167) 7 = .ok (.aload_n 0, 1)) rfl rfl
theorem s167_8 : mSnd 167 8 (a_getf 11 2 [10]) := snd_getf f29 q904 (Or.inl rfl) (by decide +kernel : decode (mBc 167) 8 = .ok (.getfield 17, 3)) rfl
theorem s167_11 : mSnd 167 11 (a_iload 12 1) := snd_iload_n (by decide +kernel : decode (mBc 167) 11 = .ok (.iload_n 1, 1)) rfl rfl
theorem s167_12 : mSnd 167 12 (a_iald 13) := snd_iald (by decide +kernel : decode (mBc 167) 12 = .ok (.iaload, 1)) rfl
theorem s167_13 : mSnd 167 13 (a_icmp 16 34 (fun x y => decide (y ≤ x))) := snd_icmp_ge (by decide +kernel : decode (mBc 167) 13 = .ok (.if_icmp .ge 21, 3)) rfl rfl
theorem s167_16 : mSnd 167 16 (a_lload 17 2) := snd_lload_n (by decide +kernel : decode (mBc 167) 16 = .ok (.lload_n 2, 1)) rfl rfl
theorem s167_17 : mSnd 167 17 (a_aload 18 0) := snd_aload_n (by decide +kernel : decode (mBc 167) 17 = .ok (.aload_n 0, 1)) rfl rfl
theorem s167_18 : mSnd 167 18 (a_iload 19 1) := snd_iload_n (by decide +kernel : decode (mBc 167) 18 = .ok (.iload_n 1, 1)) rfl rfl
theorem s167_19 : mSnd 167 19 (a_push 20 (.int (iZ 1))) := snd_iconst (by decide +kernel : decode (mBc 167) 19 = .ok (.iconst 1, 1)) rfl rfl
theorem s167_20 : mSnd 167 20 (a_iload 22 4) := snd_iload (by decide +kernel : decode (mBc 167) 20 = .ok (.iload 4, 2)) rfl
theorem s167_22 : mSnd 167 22 (a_ii 23 (fun x y => x <<< (y &&& 31))) := snd_ishl (by decide +kernel : decode (mBc 167) 22 = .ok (.ishl, 1)) rfl
theorem s167_23 : mSnd 167 23 (a_invV 26 2 0 0 [(10, 144, 0, 0)]) := snd_invV v167_106 rfl rfl (by decide +kernel : decode (mBc 167) 23 = .ok (.invokevirtual 106, 3)) rfl
theorem s167_26 : mSnd 167 26 (a_ll 27 (fun x y => x + y)) := snd_ladd (by decide +kernel : decode (mBc 167) 26 = .ok (.ladd, 1)) rfl
theorem s167_27 : mSnd 167 27 (a_lstore 28 2) := snd_lstore_n (by decide +kernel : decode (mBc 167) 27 = .ok (.lstore_n 2, 1)) rfl (by decide) rfl
theorem s167_28 : mSnd 167 28 (a_iinc 31 4 (iZ 1)) := snd_iinc (by decide +kernel : decode (mBc 167) 28 = .ok (.iinc 4 1, 3)) rfl (by decide) rfl
theorem s167_31 : mSnd 167 31 (a_goto 5) := snd_goto (by decide +kernel : decode (mBc 167) 31 = .ok (.goto (-26), 3)) rfl
theorem s167_34 : mSnd 167 34 (a_lload 35 2) := snd_lload_n (by decide +kernel : decode (mBc 167) 34 = .ok (.lload_n 2, 1)) rfl rfl
theorem s167_35 : mSnd 167 35 (a_lret 0 0) := snd_lret rfl rfl rfl (by decide +kernel : decode (mBc 167) 35 = .ok (.lreturn, 1))
theorem ok167 : mOkl2 167 ct167 := ⟨⟨s167_0, s167_1, s167_2, s167_3, s167_5, s167_7, s167_8, s167_11, s167_12, s167_13, s167_16, s167_17, trivial⟩, ⟨s167_18, s167_19, s167_20, s167_22, s167_23, s167_26, s167_27, s167_28, s167_31, s167_34, s167_35, trivial⟩, trivial⟩
theorem s168_0 : mSnd 168 0 (a_iload 1 2) := snd_iload_n (by decide +kernel : decode (mBc 168) 0 = .ok (.iload_n 2, 1)) rfl rfl
theorem s168_1 : mSnd 168 1 (a_if 4 17 (fun x => decide (¬ x = 0))) := snd_if_ne (by decide +kernel : decode (mBc 168) 1 = .ok (.ifCond .ne 16, 3)) rfl rfl
theorem s168_4 : mSnd 168 4 (a_aload 5 0) := snd_aload_n (by decide +kernel : decode (mBc 168) 4 = .ok (.aload_n 0, 1)) rfl rfl
theorem s168_5 : mSnd 168 5 (a_aload 6 0) := snd_aload_n (by decide +kernel : decode (mBc 168) 5 = .ok (.aload_n 0, 1)) rfl rfl
theorem s168_6 : mSnd 168 6 (a_getf 9 2 [10]) := snd_getf f29 q904 (Or.inl rfl) (by decide +kernel : decode (mBc 168) 6 = .ok (.getfield 17, 3)) rfl
theorem s168_9 : mSnd 168 9 (a_iload 10 1) := snd_iload_n (by decide +kernel : decode (mBc 168) 9 = .ok (.iload_n 1, 1)) rfl rfl
theorem s168_10 : mSnd 168 10 (a_iald 11) := snd_iald (by decide +kernel : decode (mBc 168) 10 = .ok (.iaload, 1)) rfl
theorem s168_11 : mSnd 168 11 (a_invV 14 1 0 0 [(10, 165, 0, 0)]) := snd_invV v168_134 rfl rfl (by decide +kernel : decode (mBc 168) 11 = .ok (.invokevirtual 134, 3)) rfl
theorem s168_14 : mSnd 168 14 (a_goto 24) := snd_goto (by decide +kernel : decode (mBc 168) 14 = .ok (.goto 10, 3)) rfl
theorem s168_17 : mSnd 168 17 (a_aload 18 0) := snd_aload_n (by decide +kernel : decode (mBc 168) 17 = .ok (.aload_n 0, 1)) rfl rfl
theorem s168_18 : mSnd 168 18 (a_getf 21 2 [10]) := snd_getf f29 q904 (Or.inl rfl) (by decide +kernel : decode (mBc 168) 18 = .ok (.getfield 17, 3)) rfl
theorem s168_21 : mSnd 168 21 (a_iload 22 1) := snd_iload_n (by decide +kernel : decode (mBc 168) 21 = .ok (.iload_n 1, 1)) rfl rfl
theorem s168_22 : mSnd 168 22 (a_iald 23) := snd_iald (by decide +kernel : decode (mBc 168) 22 = .ok (.iaload, 1)) rfl
theorem s168_23 : mSnd 168 23 (a_i2l 24) := snd_i2l (by decide +kernel : decode (mBc 168) 23 = .ok (.i2l, 1)) rfl
theorem s168_24 : mSnd 168 24 (a_lret 0 0) := snd_lret rfl rfl rfl (by decide +kernel : decode (mBc 168) 24 = .ok (.lreturn, 1))
theorem ok168 : mOkl2 168 ct168 := ⟨⟨s168_0, s168_1, s168_4, s168_5, s168_6, s168_9, s168_10, s168_11, s168_14, s168_17, s168_18, s168_21, trivial⟩, ⟨s168_22, s168_23, s168_24, trivial⟩, trivial⟩
theorem s169_0 : mSnd 169 0 (a_iload 1 2) := snd_iload_n (by decide +kernel : decode (mBc 169) 0 = .ok (.iload_n 2, 1)) rfl rfl
theorem s169_1 : mSnd 169 1 (a_if 4 13 (fun x => decide (¬ x = 0))) := snd_if_ne (by decide +kernel : decode (mBc 169) 1 = .ok (.ifCond .ne 12, 3)) rfl rfl
theorem s169_4 : mSnd 169 4 (a_aload 5 0) := snd_aload_n (by decide +kernel : decode (mBc 169) 4 = .ok (.aload_n 0, 1)) rfl rfl
theorem s169_5 : mSnd 169 5 (a_iload 6 1) := snd_iload_n (by decide +kernel : decode (mBc 169) 5 = .ok (.iload_n 1, 1)) rfl rfl
theorem s169_6 : mSnd 169 6 (a_iload 7 3) := snd_iload_n (by decide +kernel : decode (mBc 169) 6 = .ok (.iload_n 3, 1)) rfl rfl
theorem s169_7 : mSnd 169 7 (a_invV 10 2 0 0 [(10, 166, 0, 0)]) := snd_invV v169_138 rfl rfl (by decide +kernel : decode (mBc 169) 7 = .ok (.invokevirtual 138, 3)) rfl
theorem s169_10 : mSnd 169 10 (a_goto 46) := snd_goto (by decide +kernel : decode (mBc 169) 10 = .ok (.goto 36, 3)) rfl
theorem s169_13 : mSnd 169 13 (a_aload 14 0) := snd_aload_n (by decide +kernel : decode (mBc 169) 13 = .ok (.aload_n 0, 1)) rfl rfl
theorem s169_14 : mSnd 169 14 (a_getf 17 2 [10]) := snd_getf f29 q904 (Or.inl rfl) (by decide +kernel : decode (mBc 169) 14 = .ok (.getfield 17, 3)) rfl
theorem s169_17 : mSnd 169 17 (a_iload 18 1) := snd_iload_n (by decide +kernel : decode (mBc 169) 17 = .ok (.iload_n 1, 1)) rfl rfl
theorem s169_18 : mSnd 169 18 (a_iald 19) := snd_iald (by decide +kernel : decode (mBc 169) 18 = .ok (.iaload, 1)) rfl
theorem s169_19 : mSnd 169 19 (a_i2l 20) := snd_i2l (by decide +kernel : decode (mBc 169) 19 = .ok (.i2l, 1)) rfl
theorem s169_20 : mSnd 169 20 (a_aload 21 0) := snd_aload_n (by decide +kernel : decode (mBc 169) 20 = .ok (.aload_n 0, 1)) rfl rfl
theorem s169_21 : mSnd 169 21 (a_iload 22 1) := snd_iload_n (by decide +kernel : decode (mBc 169) 21 = .ok (.iload_n 1, 1)) rfl rfl
theorem s169_22 : mSnd 169 22 (a_push 23 (.int (iZ 1))) := snd_iconst (by decide +kernel : decode (mBc 169) 22 = .ok (.iconst 1, 1)) rfl rfl
theorem s169_23 : mSnd 169 23 (a_iload 24 3) := snd_iload_n (by decide +kernel : decode (mBc 169) 23 = .ok (.iload_n 3, 1)) rfl rfl
theorem s169_24 : mSnd 169 24 (a_ii 25 (fun x y => x <<< (y &&& 31))) := snd_ishl (by decide +kernel : decode (mBc 169) 24 = .ok (.ishl, 1)) rfl
theorem s169_25 : mSnd 169 25 (a_invV 28 2 0 0 [(10, 144, 0, 0)]) := snd_invV v169_106 rfl rfl (by decide +kernel : decode (mBc 169) 25 = .ok (.invokevirtual 106, 3)) rfl
theorem s169_28 : mSnd 169 28 (a_ll 29 (fun x y => x * y)) := snd_lmul (by decide +kernel : decode (mBc 169) 28 = .ok (.lmul, 1)) rfl
theorem s169_29 : mSnd 169 29 (a_aload 30 0) := snd_aload_n (by decide +kernel : decode (mBc 169) 29 = .ok (.aload_n 0, 1)) rfl rfl
theorem s169_30 : mSnd 169 30 (a_iload 31 1) := snd_iload_n (by decide +kernel : decode (mBc 169) 30 = .ok (.iload_n 1, 1)) rfl rfl
theorem s169_31 : mSnd 169 31 (a_aload 32 0) := snd_aload_n (by decide +kernel : decode (mBc 169) 31 = .ok (.aload_n 0, 1)) rfl rfl
theorem s169_32 : mSnd 169 32 (a_iload 33 1) := snd_iload_n (by decide +kernel : decode (mBc 169) 32 = .ok (.iload_n 1, 1)) rfl rfl
theorem s169_33 : mSnd 169 33 (a_invV 36 1 0 0 [(10, 139, 0, 0)]) := snd_invV v169_80 rfl rfl (by decide +kernel : decode (mBc 169) 33 = .ok (.invokevirtual 80, 3)) rfl
theorem s169_36 : mSnd 169 36 (a_invV 39 2 0 0 [(10, 144, 0, 0)]) := snd_invV v169_106 rfl rfl (by decide +kernel : decode (mBc 169) 36 = .ok (.invokevirtual 106, 3)) rfl
theorem s169_39 : mSnd 169 39 (a_ll 40 (fun x y => x + y)) := snd_ladd (by decide +kernel : decode (mBc 169) 39 = .ok (.ladd, 1)) rfl
theorem s169_40 : mSnd 169 40 (a_aload 41 0) := snd_aload_n (by decide +kernel : decode (mBc 169) 40 = .ok (.aload_n 0, 1)) rfl rfl
theorem s169_41 : mSnd 169 41 (a_iload 42 1) := snd_iload_n (by decide +kernel : decode (mBc 169) 41 = .ok (.iload_n 1, 1)) rfl rfl
theorem s169_42 : mSnd 169 42 (a_invV 45 1 0 0 [(10, 167, 0, 0)]) := snd_invV v169_141 rfl rfl (by decide +kernel : decode (mBc 169) 42 = .ok (.invokevirtual 141, 3)) rfl
theorem s169_45 : mSnd 169 45 (a_ll 46 (fun x y => x - y)) := snd_lsub (by decide +kernel : decode (mBc 169) 45 = .ok (.lsub, 1)) rfl
theorem s169_46 : mSnd 169 46 (a_lret 0 0) := snd_lret rfl rfl rfl (by decide +kernel : decode (mBc 169) 46 = .ok (.lreturn, 1))
theorem ok169 : mOkl2 169 ct169 := ⟨⟨s169_0, s169_1, s169_4, s169_5, s169_6, s169_7, s169_10, s169_13, s169_14, s169_17, s169_18, s169_19, trivial⟩, ⟨s169_20, s169_21, s169_22, s169_23, s169_24, s169_25, s169_28, s169_29, s169_30, s169_31, s169_32, s169_33, trivial⟩, ⟨s169_36, s169_39, s169_40, s169_41, s169_42, s169_45, s169_46, trivial⟩, trivial⟩
theorem s170_0 : mSnd 170 0 (a_aload 1 0) := snd_aload_n (by decide +kernel : decode (mBc 170) 0 = .ok (.aload_n 0, 1)) rfl rfl
theorem s170_1 : mSnd 170 1 (a_iload 2 1) := snd_iload_n (by decide +kernel : decode (mBc 170) 1 = .ok (.iload_n 1, 1)) rfl rfl
theorem s170_2 : mSnd 170 2 (a_invV 5 1 0 0 [(10, 138, 0, 0)]) := snd_invV v170_92 rfl rfl (by decide +kernel : decode (mBc 170) 2 = .ok (.invokevirtual 92, 3)) rfl
theorem s170_5 : mSnd 170 5 (a_if 8 38 (fun x => decide (x = 0))) := snd_if_eq (by decide +kernel : decode (mBc 170) 5 = .ok (.ifCond .eq 33, 3)) rfl rfl
theorem s170_8 : mSnd 170 8 (a_aload 9 0) := snd_aload_n (by decide +kernel : decode (mBc 170) 8 = .ok (.aload_n 0, 1)) rfl rfl
theorem s170_9 : mSnd 170 9 (a_iload 10 2) := snd_iload_n (by decide +kernel : decode (mBc 170) 9 = .ok (.iload_n 2, 1)) rfl rfl
theorem s170_10 : mSnd 170 10 (a_push 11 (.int (iZ 0))) := snd_iconst (by decide +kernel : decode (mBc 170) 10 = .ok (.iconst 0, 1)) rfl rfl
theorem s170_11 : mSnd 170 11 (a_push 12 (.int (iZ 1))) := snd_iconst (by decide +kernel : decode (mBc 170) 11 = .ok (.iconst 1, 1)) rfl rfl
theorem s170_12 : mSnd 170 12 (a_invV 15 3 0 0 [(10, 137, 0, 0)]) := snd_invV v170_76 rfl rfl (by decide +kernel : decode (mBc 170) 12 = .ok (.invokevirtual 76, 3)) rfl
theorem s170_15 : mSnd 170 15 (a_if 18 38 (fun x => decide (x = 0))) := snd_if_eq (by decide +kernel : decode (mBc 170) 15 = .ok (.ifCond .eq 23, 3)) rfl rfl
theorem s170_18 : mSnd 170 18 (a_aload 19 0) := snd_aload_n (by decide +kernel : decode (mBc 170) 18 = .ok (.aload_n 0, 1)) rfl rfl
theorem s170_19 : mSnd 170 19 (a_iload 20 1) := snd_iload_n (by decide +kernel : decode (mBc 170) 19 = .ok (.iload_n 1, 1)) rfl rfl
theorem s170_20 : mSnd 170 20 (a_iload 21 3) := snd_iload_n (by decide +kernel : decode (mBc 170) 20 = .ok (.iload_n 3, 1)) rfl rfl
theorem s170_21 : mSnd 170 21 (a_invV 24 2 0 0 [(10, 143, 0, 0)]) := snd_invV v170_114 rfl rfl (by decide +kernel : decode (mBc 170) 21 = .ok (.invokevirtual 114, 3)) rfl
theorem s170_24 : mSnd 170 24 (a_if 27 38 (fun x => decide (x = 0))) := snd_if_eq (by decide +kernel : decode (mBc 170) 24 = .ok (.ifCond .eq 14, 3)) rfl rfl
theorem s170_27 : mSnd 170 27 (a_aload 28 0) := snd_aload_n (by decide +kernel : decode (mBc 170) 27 = .ok (.aload_n 0, 1)) rfl rfl
theorem s170_28 : mSnd 170 28 (a_iload 30 4) := snd_iload (by decide +kernel : decode (mBc 170) 28 = .ok (.iload 4, 2)) rfl
theorem s170_30 : mSnd 170 30 (a_push 31 (.int (iZ 0))) := snd_iconst (by decide +kernel : decode (mBc 170) 30 = .ok (.iconst 0, 1)) rfl rfl
theorem s170_31 : mSnd 170 31 (a_push 32 (.int (iZ 1))) := snd_iconst (by decide +kernel : decode (mBc 170) 31 = .ok (.iconst 1, 1)) rfl rfl
theorem s170_32 : mSnd 170 32 (a_invV 35 3 0 0 [(10, 137, 0, 0)]) := snd_invV v170_76 rfl rfl (by decide +kernel : decode (mBc 170) 32 = .ok (.invokevirtual 76, 3)) rfl
theorem s170_35 : mSnd 170 35 (a_if 38 42 (fun x => decide (¬ x = 0))) := snd_if_ne (by decide +kernel : decode (mBc 170) 35 = .ok (.ifCond .ne 7, 3)) rfl rfl
theorem s170_38 : mSnd 170 38 (a_push 41 (.long (lZ (-4611686018427387904)))) := snd_ldc2 q1060 (by decide +kernel : decode (mBc 170) 38 = .ok (.ldc2_w 128, 3)) rfl
theorem s170_41 : mSnd 170 41 (a_lret 0 0) := snd_lret rfl rfl rfl (by decide +kernel : decode (mBc 170) 41 = .ok (.lreturn, 1))
theorem s170_42 : mSnd 170 42 (a_aload 43 0) := snd_aload_n (by decide +kernel : decode (mBc 170) 42 = .ok (.aload_n 0, 1)) rfl rfl
theorem s170_43 : mSnd 170 43 (a_aload 44 0) := snd_aload_n (by decide +kernel : decode (mBc 170) 43 = .ok (.aload_n 0, 1)) rfl rfl
theorem s170_44 : mSnd 170 44 (a_iload 45 1) := snd_iload_n (by decide +kernel : decode (mBc 170) 44 = .ok (.iload_n 1, 1)) rfl rfl
theorem s170_45 : mSnd 170 45 (a_iload 46 2) := snd_iload_n (by decide +kernel : decode (mBc 170) 45 = .ok (.iload_n 2, 1)) rfl rfl
theorem s170_46 : mSnd 170 46 (a_iload 47 3) := snd_iload_n (by decide +kernel : decode (mBc 170) 46 = .ok (.iload_n 3, 1)) rfl rfl
theorem s170_47 : mSnd 170 47 (a_invV 50 3 0 0 [(10, 169, 0, 0)]) := snd_invV v170_144 rfl rfl (by decide +kernel : decode (mBc 170) 47 = .ok (.invokevirtual 144, 3)) rfl
theorem s170_50 : mSnd 170 50 (a_aload 51 0) := snd_aload_n (by decide +kernel : decode (mBc 170) 50 = .ok (.aload_n 0, 1)) rfl rfl
theorem s170_51 : mSnd 170 51 (a_iload 52 1) := snd_iload_n (by decide +kernel : decode (mBc 170) 51 = .ok (.iload_n 1, 1)) rfl rfl
theorem s170_52 : mSnd 170 52 (a_iload 53 2) := snd_iload_n (by decide +kernel : decode (mBc 170) 52 = .ok (.iload_n 2, 1)) rfl rfl
theorem s170_53 : mSnd 170 53 (a_invV 56 2 0 0 [(10, 168, 0, 0)]) := snd_invV v170_147 rfl rfl (by decide +kernel : decode (mBc 170) 53 = .ok (.invokevirtual 147, 3)) rfl
theorem s170_56 : mSnd 170 56 (a_iload 58 4) := snd_iload (by decide +kernel : decode (mBc 170) 56 = .ok (.iload 4, 2)) rfl
theorem s170_58 : mSnd 170 58 (a_invV 61 3 0 0 [(10, 161, 0, 0)]) := snd_invV v170_150 rfl rfl (by decide +kernel : decode (mBc 170) 58 = .ok (.invokevirtual 150, 3)) rfl
theorem s170_61 : mSnd 170 61 (a_lret 0 0) := snd_lret rfl rfl rfl (by decide +kernel : decode (mBc 170) 61 = .ok (.lreturn, 1))
theorem ok170 : mOkl2 170 ct170 := ⟨⟨s170_0, s170_1, s170_2, s170_5, s170_8, s170_9, s170_10, s170_11, s170_12, s170_15, s170_18, s170_19, trivial⟩, ⟨s170_20, s170_21, s170_24, s170_27, s170_28, s170_30, s170_31, s170_32, s170_35, s170_38, s170_41, s170_42, trivial⟩, ⟨s170_43, s170_44, s170_45, s170_46, s170_47, s170_50, s170_51, s170_52, s170_53, s170_56, s170_58, s170_61, trivial⟩, trivial⟩
theorem s171_0 : mSnd 171 0 (a_aload 1 0) := snd_aload_n (by decide +kernel : decode (mBc 171) 0 = .ok (.aload_n 0, 1)) rfl rfl
theorem s171_1 : mSnd 171 1 (a_iload 2 1) := snd_iload_n (by decide +kernel : decode (mBc 171) 1 = .ok (.iload_n 1, 1)) rfl rfl
theorem s171_2 : mSnd 171 2 (a_iload 3 2) := snd_iload_n (by decide +kernel : decode (mBc 171) 2 = .ok (.iload_n 2, 1)) rfl rfl
theorem s171_3 : mSnd 171 3 (a_invV 6 2 0 0 [(10, 168, 0, 0)]) := snd_invV v171_147 rfl rfl (by decide +kernel : decode (mBc 171) 3 = .ok (.invokevirtual 147, 3)) rfl
theorem s171_6 : mSnd 171 6 (a_aload 7 0) := snd_aload_n (by decide +kernel : decode (mBc 171) 6 = .ok (.aload_n 0, 1)) rfl rfl
theorem s171_7 : mSnd 171 7 (a_iload 8 1) := snd_iload_n (by decide +kernel : decode (mBc 171) 7 = .ok (.iload_n 1, 1)) rfl rfl
theorem s171_8 : mSnd 171 8 (a_iload 9 3) := snd_iload_n (by decide +kernel : decode (mBc 171) 8 = .ok (.iload_n 3, 1)) rfl rfl
theorem s171_9 : mSnd 171 9 (a_invV 12 2 0 0 [(10, 144, 0, 0)]) := snd_invV v171_106 rfl rfl (by decide +kernel : decode (mBc 171) 9 = .ok (.invokevirtual 106, 3)) rfl
theorem s171_12 : mSnd 171 12 (a_ll 13 (fun x y => x * y)) := snd_lmul (by decide +kernel : decode (mBc 171) 12 = .ok (.lmul, 1)) rfl
theorem s171_13 : mSnd 171 13 (a_lstore 15 4) := snd_lstore (by decide +kernel : decode (mBc 171) 13 = .ok (.lstore 4, 2)) (by decide) rfl
theorem s171_15 : mSnd 171 15 (a_push 16 (.int (iZ 0))) := snd_iconst (by decide +kernel : decode (mBc 171) 15 = .ok (.iconst 0, 1)) rfl rfl
theorem s171_16 : mSnd 171 16 (a_istore 18 6) := snd_istore (by decide +kernel : decode (mBc 171) 16 = .ok (.istore 6, 2)) (by decide) rfl
theorem s171_18 : mSnd 171 18 (a_iload 20 6) := snd_iload (by decide +kernel : decode (mBc 171) 18 = .ok (.iload 6, 2)) rfl
theorem s171_20 : mSnd 171 20 (a_aload 21 0) := snd_aload_n (by decide +kernel : decode (mBc 171) 20 = .ok (.aload_n 0, 1)) rfl rfl
theorem s171_21 : mSnd 171 21 (a_getf 24 2 [10]) := snd_getf f29 q904 (Or.inl rfl) (by decide +kernel : decode (mBc 171) 21 = .ok (.getfield 17, 3)) rfl
theorem s171_24 : mSnd 171 24 (a_iload 25 1) := snd_iload_n (by decide +kernel : decode (mBc 171) 24 = .ok (.iload_n 1, 1)) rfl rfl
theorem s171_25 : mSnd 171 25 (a_iald 26) := snd_iald (by decide +kernel : decode (mBc 171) 25 = .ok (.iaload, 1)) rfl
theorem s171_26 : mSnd 171 26 (a_icmp 29 58 (fun x y => decide (y ≤ x))) := snd_icmp_ge (by decide +kernel : decode (mBc 171) 26 = .ok (.if_icmp .ge 32, 3)) rfl rfl
theorem s171_29 : mSnd 171 29 (a_iload 30 3) := snd_iload_n (by decide +kernel : decode (mBc 171) 29 = .ok (.iload_n 3, 1)) rfl rfl
theorem s171_30 : mSnd 171 30 (a_iload 32 6) := snd_iload (by decide +kernel : decode (mBc 171) 30 = .ok (.iload 6, 2)) rfl
theorem s171_32 : mSnd 171 32 (a_ii 33 (fun x y => x >>> (y &&& 31))) := snd_ishr (by decide +kernel : decode (mBc 171) 32 = .ok (.ishr, 1)) rfl
theorem s171_33 : mSnd 171 33 (a_push 34 (.int (iZ 1))) := snd_iconst (by decide +kernel : decode (mBc 171) 33 = .ok (.iconst 1, 1)) rfl rfl
theorem s171_34 : mSnd 171 34 (a_ii 35 (fun x y => x &&& y)) := snd_iand (by decide +kernel : decode (mBc 171) 34 = .ok (.iand, 1)) rfl
theorem s171_35 : mSnd 171 35 (a_push 36 (.int (iZ 1))) := snd_iconst (by decide +kernel : decode (mBc 171) 35 = .ok (.iconst 1, 1)) rfl rfl
theorem s171_36 : mSnd 171 36 (a_icmp 39 52 (fun x y => decide (¬ x = y))) := snd_icmp_ne (by decide +kernel : decode (mBc 171) 36 = .ok (.if_icmp .ne 16, 3)) rfl rfl
theorem s171_39 : mSnd 171 39 (a_lload 41 4) := snd_lload (by decide +kernel : decode (mBc 171) 39 = .ok (.lload 4, 2)) rfl
theorem s171_41 : mSnd 171 41 (a_aload 42 0) := snd_aload_n (by decide +kernel : decode (mBc 171) 41 = .ok (.aload_n 0, 1)) rfl rfl
theorem s171_42 : mSnd 171 42 (a_iload 43 1) := snd_iload_n (by decide +kernel : decode (mBc 171) 42 = .ok (.iload_n 1, 1)) rfl rfl
theorem s171_43 : mSnd 171 43 (a_iload 44 2) := snd_iload_n (by decide +kernel : decode (mBc 171) 43 = .ok (.iload_n 2, 1)) rfl rfl
theorem s171_44 : mSnd 171 44 (a_iload 46 6) := snd_iload (by decide +kernel : decode (mBc 171) 44 = .ok (.iload 6, 2)) rfl
theorem s171_46 : mSnd 171 46 (a_invV 49 3 0 0 [(10, 169, 0, 0)]) := snd_invV v171_144 rfl rfl (by decide +kernel : decode (mBc 171) 46 = .ok (.invokevirtual 144, 3)) rfl
theorem s171_49 : mSnd 171 49 (a_ll 50 (fun x y => x - y)) := snd_lsub (by decide +kernel : decode (mBc 171) 49 = .ok (.lsub, 1)) rfl
theorem s171_50 : mSnd 171 50 (a_lstore 52 4) := snd_lstore (by decide +kernel : decode (mBc 171) 50 = .ok (.lstore 4, 2)) (by decide) rfl
theorem s171_52 : mSnd 171 52 (a_iinc 55 6 (iZ 1)) := snd_iinc (by decide +kernel : decode (mBc 171) 52 = .ok (.iinc 6 1, 3)) rfl (by decide) rfl
theorem s171_55 : mSnd 171 55 (a_goto 18) := snd_goto (by decide +kernel : decode (mBc 171) 55 = .ok (.goto (-37), 3)) rfl
theorem s171_58 : mSnd 171 58 (a_lload 60 4) := snd_lload (by decide +kernel : decode (mBc 171) 58 = .ok (.lload 4, 2)) rfl
theorem s171_60 : mSnd 171 60 (a_lret 0 0) := snd_lret rfl rfl rfl (by decide +kernel : decode (mBc 171) 60 = .ok (.lreturn, 1))
theorem ok171 : mOkl2 171 ct171 := ⟨⟨s171_0, s171_1, s171_2, s171_3, s171_6, s171_7, s171_8, s171_9, s171_12, s171_13, s171_15, s171_16, trivial⟩, ⟨s171_18, s171_20, s171_21, s171_24, s171_25, s171_26, s171_29, s171_30, s171_32, s171_33, s171_34, s171_35, trivial⟩, ⟨s171_36, s171_39, s171_41, s171_42, s171_43, s171_44, s171_46, s171_49, s171_50, s171_52, s171_55, s171_58, trivial⟩, ⟨s171_60, trivial⟩, trivial⟩
theorem s172_0 : mSnd 172 0 (a_aload 1 0) := snd_aload_n (by decide +kernel : decode (mBc 172) 0 = .ok (.aload_n 0, 1)) rfl rfl
theorem s172_1 : mSnd 172 1 (a_iload 2 1) := snd_iload_n (by decide +kernel : decode (mBc 172) 1 = .ok (.iload_n 1, 1)) rfl rfl
theorem s172_2 : mSnd 172 2 (a_invV 5 1 0 0 [(10, 138, 0, 0)]) := snd_invV v172_92 rfl rfl (by decide +kernel : decode (mBc 172) 2 = .ok (.invokevirtual 92, 3)) rfl
theorem s172_5 : mSnd 172 5 (a_if 8 38 (fun x => decide (x = 0))) := snd_if_eq (by decide +kernel : decode (mBc 172) 5 = .ok (.ifCond .eq 33, 3)) rfl rfl
theorem s172_8 : mSnd 172 8 (a_aload 9 0) := snd_aload_n (by decide +kernel : decode (mBc 172) 8 = .ok (.aload_n 0, 1)) rfl rfl
theorem s172_9 : mSnd 172 9 (a_iload 10 2) := snd_iload_n (by decide +kernel : decode (mBc 172) 9 = .ok (.iload_n 2, 1)) rfl rfl
theorem s172_10 : mSnd 172 10 (a_push 11 (.int (iZ 0))) := snd_iconst (by decide +kernel : decode (mBc 172) 10 = .ok (.iconst 0, 1)) rfl rfl
theorem s172_11 : mSnd 172 11 (a_push 12 (.int (iZ 1))) := snd_iconst (by decide +kernel : decode (mBc 172) 11 = .ok (.iconst 1, 1)) rfl rfl
theorem s172_12 : mSnd 172 12 (a_invV 15 3 0 0 [(10, 137, 0, 0)]) := snd_invV v172_76 rfl rfl (by decide +kernel : decode (mBc 172) 12 = .ok (.invokevirtual 76, 3)) rfl
theorem s172_15 : mSnd 172 15 (a_if 18 38 (fun x => decide (x = 0))) := snd_if_eq (by decide +kernel : decode (mBc 172) 15 = .ok (.ifCond .eq 23, 3)) rfl rfl
theorem s172_18 : mSnd 172 18 (a_aload 19 0) := snd_aload_n (by decide +kernel : decode (mBc 172) 18 = .ok (.aload_n 0, 1)) rfl rfl
theorem s172_19 : mSnd 172 19 (a_iload 20 1) := snd_iload_n (by decide +kernel : decode (mBc 172) 19 = .ok (.iload_n 1, 1)) rfl rfl
theorem s172_20 : mSnd 172 20 (a_iload 21 3) := snd_iload_n (by decide +kernel : decode (mBc 172) 20 = .ok (.iload_n 3, 1)) rfl rfl
theorem s172_21 : mSnd 172 21 (a_invV 24 2 0 0 [(10, 142, 0, 0)]) := snd_invV v172_154 rfl rfl (by decide +kernel : decode (mBc 172) 21 = .ok (.invokevirtual 154, 3)) rfl
theorem s172_24 : mSnd 172 24 (a_if 27 38 (fun x => decide (x = 0))) := snd_if_eq (by decide +kernel : decode (mBc 172) 24 = .ok (.ifCond .eq 14, 3)) rfl rfl
theorem s172_27 : mSnd 172 27 (a_aload 28 0) := snd_aload_n (by decide +kernel : decode (mBc 172) 27 = .ok (.aload_n 0, 1)) rfl rfl
theorem s172_28 : mSnd 172 28 (a_iload 30 4) := snd_iload (by decide +kernel : decode (mBc 172) 28 = .ok (.iload 4, 2)) rfl
theorem s172_30 : mSnd 172 30 (a_push 31 (.int (iZ 0))) := snd_iconst (by decide +kernel : decode (mBc 172) 30 = .ok (.iconst 0, 1)) rfl rfl
theorem s172_31 : mSnd 172 31 (a_push 32 (.int (iZ 1))) := snd_iconst (by decide +kernel : decode (mBc 172) 31 = .ok (.iconst 1, 1)) rfl rfl
theorem s172_32 : mSnd 172 32 (a_invV 35 3 0 0 [(10, 137, 0, 0)]) := snd_invV v172_76 rfl rfl (by decide +kernel : decode (mBc 172) 32 = .ok (.invokevirtual 76, 3)) rfl
theorem s172_35 : mSnd 172 35 (a_if 38 42 (fun x => decide (¬ x = 0))) := snd_if_ne (by decide +kernel : decode (mBc 172) 35 = .ok (.ifCond .ne 7, 3)) rfl rfl
theorem s172_38 : mSnd 172 38 (a_push 41 (.long (lZ (-4611686018427387904)))) := snd_ldc2 q1060 (by decide +kernel : decode (mBc 172) 38 = .ok (.ldc2_w 128, 3)) rfl
theorem s172_41 : mSnd 172 41 (a_lret 0 0) := snd_lret rfl rfl rfl (by decide +kernel : decode (mBc 172) 41 = .ok (.lreturn, 1))
theorem s172_42 : mSnd 172 42 (a_aload 43 0) := snd_aload_n (by decide +kernel : decode (mBc 172) 42 = .ok (.aload_n 0, 1)) rfl rfl
theorem s172_43 : mSnd 172 43 (a_aload 44 0) := snd_aload_n (by decide +kernel : decode (mBc 172) 43 = .ok (.aload_n 0, 1)) rfl rfl
theorem s172_44 : mSnd 172 44 (a_iload 45 1) := snd_iload_n (by decide +kernel : decode (mBc 172) 44 = .ok (.iload_n 1, 1)) rfl rfl
theorem s172_45 : mSnd 172 45 (a_iload 46 2) := snd_iload_n (by decide +kernel : decode (mBc 172) 45 = .ok (.iload_n 2, 1)) rfl rfl
theorem s172_46 : mSnd 172 46 (a_iload 47 3) := snd_iload_n (by decide +kernel : decode (mBc 172) 46 = .ok (.iload_n 3, 1)) rfl rfl
theorem s172_47 : mSnd 172 47 (a_invV 50 3 0 0 [(10, 171, 0, 0)]) := snd_invV v172_157 rfl rfl (by decide +kernel : decode (mBc 172) 47 = .ok (.invokevirtual 157, 3)) rfl
theorem s172_50 : mSnd 172 50 (a_aload 51 0) := snd_aload_n (by decide +kernel : decode (mBc 172) 50 = .ok (.aload_n 0, 1)) rfl rfl
theorem s172_51 : mSnd 172 51 (a_iload 52 1) := snd_iload_n (by decide +kernel : decode (mBc 172) 51 = .ok (.iload_n 1, 1)) rfl rfl
theorem s172_52 : mSnd 172 52 (a_iload 53 2) := snd_iload_n (by decide +kernel : decode (mBc 172) 52 = .ok (.iload_n 2, 1)) rfl rfl
theorem s172_53 : mSnd 172 53 (a_invV 56 2 0 0 [(10, 168, 0, 0)]) := snd_invV v172_147 rfl rfl (by decide +kernel : decode (mBc 172) 53 = .ok (.invokevirtual 147, 3)) rfl
theorem s172_56 : mSnd 172 56 (a_iload 58 4) := snd_iload (by decide +kernel : decode (mBc 172) 56 = .ok (.iload 4, 2)) rfl
theorem s172_58 : mSnd 172 58 (a_invV 61 3 0 0 [(10, 161, 0, 0)]) := snd_invV v172_150 rfl rfl (by decide +kernel : decode (mBc 172) 58 = .ok (.invokevirtual 150, 3)) rfl
theorem s172_61 : mSnd 172 61 (a_lret 0 0) := snd_lret rfl rfl rfl (by decide +kernel : decode (mBc 172) 61 = .ok (.lreturn, 1))
theorem ok172 : mOkl2 172 ct172 := ⟨⟨s172_0, s172_1, s172_2, s172_5, s172_8, s172_9, s172_10, s172_11, s172_12, s172_15, s172_18, s172_19, trivial⟩, ⟨s172_20, s172_21, s172_24, s172_27, s172_28, s172_30, s172_31, s172_32, s172_35, s172_38, s172_41, s172_42, trivial⟩, ⟨s172_43, s172_44, s172_45, s172_46, s172_47, s172_50, s172_51, s172_52, s172_53, s172_56, s172_58, s172_61, trivial⟩, trivial⟩
theorem s173_0 : mSnd 173 0 (a_aload 1 0) := snd_aload_n (by decide +kernel : decode (mBc 173) 0 = .ok (.aload_n 0, 1)) rfl rfl
theorem s173_1 : mSnd 173 1 (a_iload 2 1) := snd_iload_n (by decide +kernel : decode (mBc 173) 1 = .ok (.iload_n 1, 1)) rfl rfl
theorem s173_2 : mSnd 173 2 (a_invV 5 1 0 0 [(10, 138, 0, 0)]) := snd_invV v173_92 rfl rfl (by decide +kernel : decode (mBc 173) 2 = .ok (.invokevirtual 92, 3)) rfl
theorem s173_5 : mSnd 173 5 (a_if 8 18 (fun x => decide (x = 0))) := snd_if_eq (by decide +kernel : decode (mBc 173) 5 = .ok (.ifCond .eq 13, 3)) rfl rfl
theorem s173_8 : mSnd 173 8 (a_aload 9 0) := snd_aload_n (by decide +kernel : decode (mBc 173) 8 = .ok (.aload_n 0, 1)) rfl rfl
theorem s173_9 : mSnd 173 9 (a_iload 10 2) := snd_iload_n (by decide +kernel : decode (mBc 173) 9 = .ok (.iload_n 2, 1)) rfl rfl
theorem s173_10 : mSnd 173 10 (a_push 11 (.int (iZ 0))) := snd_iconst (by decide +kernel : decode (mBc 173) 10 = .ok (.iconst 0, 1)) rfl rfl
theorem s173_11 : mSnd 173 11 (a_push 12 (.int (iZ 1))) := snd_iconst (by decide +kernel : decode (mBc 173) 11 = .ok (.iconst 1, 1)) rfl rfl
theorem s173_12 : mSnd 173 12 (a_invV 15 3 0 0 [(10, 137, 0, 0)]) := snd_invV v173_76 rfl rfl (by decide +kernel : decode (mBc 173) 12 = .ok (.invokevirtual 76, 3)) rfl
theorem s173_15 : mSnd 173 15 (a_if 18 21 (fun x => decide (¬ x = 0))) := snd_if_ne (by decide +kernel : decode (mBc 173) 15 = .ok (.ifCond .ne 6, 3)) rfl rfl
theorem s173_18 : mSnd 173 18 (a_push 20 (.int (iZ (-2)))) := snd_bipush (by decide +kernel : decode (mBc 173) 18 = .ok (.bipush (-2), 2)) (by decide +kernel) rfl
theorem s173_20 : mSnd 173 20 (a_iret 0 0) := snd_iret rfl rfl rfl (by decide +kernel : decode (mBc 173) 20 = .ok (.ireturn, 1))
theorem s173_21 : mSnd 173 21 (a_push 22 (.int (iZ (-1)))) := snd_iconst (by decide +kernel : decode (mBc 173) 21 = .ok (.iconst (-1), 1)) rfl rfl
theorem s173_22 : mSnd 173 22 (a_istore 23 3) := snd_istore_n (by decide +kernel : decode (mBc 173) 22 = .ok (.istore_n 3, 1)) rfl (by decide) rfl
theorem s173_23 : mSnd 173 23 (a_push 24 (.int (iZ 1))) := snd_iconst (by decide +kernel : decode (mBc 173) 23 = .ok (.iconst 1, 1)) rfl rfl
theorem s173_24 : mSnd 173 24 (a_istore 26 4) := snd_istore (by decide +kernel : decode (mBc 173) 24 = .ok (.istore 4, 2)) (by decide) rfl
theorem s173_26 : mSnd 173 26 (a_iload 28 4) := snd_iload (by decide +kernel : decode (mBc 173) 26 = .ok (.iload 4, 2)) rfl
theorem s173_28 : mSnd 173 28 (a_aload 29 0) := snd_aload_n (by decide +kernel : decode (mBc 173) 28 = .ok (.aload_n 0, 1)) rfl rfl
theorem s173_29 : mSnd 173 29 (a_iload 30 1) := snd_iload_n (by decide +kernel : decode (mBc 173) 29 = .ok (.iload_n 1, 1)) rfl rfl
theorem s173_30 : mSnd 173 30 (a_invV 33 1 0 0 [(10, 139, 0, 0)]) := snd_invV v173_80 rfl rfl (by decide +kernel : decode (mBc 173) 30 = .ok (.invokevirtual 80, 3)) rfl
theorem s173_33 : mSnd 173 33 (a_icmp 36 68 (fun x y => decide (y ≤ x))) := snd_icmp_ge (by decide +kernel : decode (mBc 173) 33 = .ok (.if_icmp .ge 35, 3)) rfl rfl
theorem s173_36 : mSnd 173 36 (a_iload 37 3) := snd_iload_n (by decide +kernel : decode (mBc 173) 36 = .ok (.iload_n 3, 1)) rfl rfl
theorem s173_37 : mSnd 173 37 (a_if 40 59 (fun x => decide (x < 0))) := snd_if_lt (by decide +kernel : decode (mBc 173) 37 = .ok (.ifCond .lt 22, 3)) rfl rfl
theorem s173_40 : mSnd 173 40 (a_aload 41 0) := snd_aload_n (by decide +kernel : decode (mBc 173) 40 = .ok (.aload_n 0, 1)) rfl rfl
theorem s173_41 : mSnd 173 41 (a_iload 42 1) := snd_iload_n (by decide +kernel : decode (mBc 173) 41 = .ok (.iload_n 1, 1)) rfl rfl
theorem s173_42 : mSnd 173 42 (a_iload 43 2) := snd_iload_n (by decide +kernel : decode (mBc 173) 42 = .ok (.iload_n 2, 1)) rfl rfl
theorem s173_43 : mSnd 173 43 (a_iload 45 4) := snd_iload (by decide +kernel : decode (mBc 173) 43 = .ok (.iload 4, 2)) rfl
theorem s173_45 : mSnd 173 45 (a_invV 48 3 0 0 [(10, 171, 0, 0)]) := snd_invV v173_157 rfl rfl (by decide +kernel : decode (mBc 173) 45 = .ok (.invokevirtual 157, 3)) rfl
theorem s173_48 : mSnd 173 48 (a_aload 49 0) := snd_aload_n (by decide +kernel : decode (mBc 173) 48 = .ok (.aload_n 0, 1)) rfl rfl
theorem s173_49 : mSnd 173 49 (a_iload 50 1) := snd_iload_n (by decide +kernel : decode (mBc 173) 49 = .ok (.iload_n 1, 1)) rfl rfl
theorem s173_50 : mSnd 173 50 (a_iload 51 2) := snd_iload_n (by decide +kernel : decode (mBc 173) 50 = .ok (.iload_n 2, 1)) rfl rfl
theorem s173_51 : mSnd 173 51 (a_iload 52 3) := snd_iload_n (by decide +kernel : decode (mBc 173) 51 = .ok (.iload_n 3, 1)) rfl rfl
theorem s173_52 : mSnd 173 52 (a_invV 55 3 0 0 [(10, 171, 0, 0)]) := snd_invV v173_157 rfl rfl (by decide +kernel : decode (mBc 173) 52 = .ok (.invokevirtual 157, 3)) rfl
theorem s173_55 : mSnd 173 55 (a_lcmp 56) := snd_lcmp (by decide +kernel : decode (mBc 173) 55 = .ok (.lcmp, 1)) rfl
theorem s173_56 : mSnd 173 56 (a_if 59 62 (fun x => decide (x ≤ 0))) := snd_if_le (by decide +kernel : decode (mBc 173) 56 = .ok (.ifCond .le 6, 3)) rfl rfl
theorem s173_59 : mSnd 173 59 (a_iload 61 4) := snd_iload (by decide +kernel : decode (mBc 173) 59 = .ok (.iload 4, 2)) rfl
theorem s173_61 : mSnd 173 61 (a_istore 62 3) := snd_istore_n (by decide +kernel : decode (mBc 173) 61 = .ok (.istore_n 3, 1)) rfl (by decide) rfl
theorem s173_62 : mSnd 173 62 (a_iinc 65 4 (iZ 1)) := snd_iinc (by decide +kernel : decode (mBc 173) 62 = .ok (.iinc 4 1, 3)) rfl (by decide) rfl
theorem s173_65 : mSnd 173 65 (a_goto 26) := snd_goto (by decide +kernel : decode (mBc 173) 65 = .ok (.goto (-39), 3)) rfl
theorem s173_68 : mSnd 173 68 (a_iload 69 3) := snd_iload_n (by decide +kernel : decode (mBc 173) 68 = .ok (.iload_n 3, 1)) rfl rfl
theorem s173_69 : mSnd 173 69 (a_iret 0 0) := snd_iret rfl rfl rfl (by decide +kernel : decode (mBc 173) 69 = .ok (.ireturn, 1))
theorem ok173 : mOkl2 173 ct173 := ⟨⟨s173_0, s173_1, s173_2, s173_5, s173_8, s173_9, s173_10, s173_11, s173_12, s173_15, s173_18, s173_20, trivial⟩, ⟨s173_21, s173_22, s173_23, s173_24, s173_26, s173_28, s173_29, s173_30, s173_33, s173_36, s173_37, s173_40, trivial⟩, ⟨s173_41, s173_42, s173_43, s173_45, s173_48, s173_49, s173_50, s173_51, s173_52, s173_55, s173_56, s173_59, trivial⟩, ⟨s173_61, s173_62, s173_65, s173_68, s173_69, trivial⟩, trivial⟩
theorem s174_0 : mSnd 174 0 (a_push 1 (.long (lZ 0))) := snd_lconst (by decide +kernel : decode (mBc 174) 0 = .ok (.lconst 0, 1)) (by decide +kernel) rfl
theorem s174_1 : mSnd 174 1 (a_lstore 2 2) := snd_lstore_n (by decide +kernel : decode (mBc 174) 1 = .ok (.lstore_n 2, 1)) rfl (by decide) rfl
theorem s174_2 : mSnd 174 2 (a_push 3 (.int (iZ 0))) := snd_iconst (by decide +kernel : decode (mBc 174) 2 = .ok (.iconst 0, 1)) rfl rfl
theorem s174_3 : mSnd 174 3 (a_istore 5 4) := snd_istore (by decide +kernel : decode (mBc 174) 3 = .ok (.istore 4, 2)) (by decide) rfl
theorem s174_5 : mSnd 174 5 (a_iload 7 4) := snd_iload (by decide +kernel : decode (mBc 174) 5 = .ok (.iload 4, 2)) rfl
theorem s174_7 : mSnd 174 7 (a_push 8 (.int (iZ 5))) := snd_iconst (by decide +kernel : decode (mBc 174) 7 = .ok (.iconst 5, 1)) rfl rfl
theorem s174_8 : mSnd 174 8 (a_icmp 11 34 (fun x y => decide (y ≤ x))) := snd_icmp_ge (by decide +kernel : decode (mBc 174) 8 = .ok (.if_icmp .ge 26, 3)) rfl rfl
theorem s174_11 : mSnd 174 11 (a_aload 12 0) := snd_aload_n (by decide +kernel : decode (mBc 174) 11 = .ok (.aload_n 0, 1)) rfl rfl
theorem s174_12 : mSnd 174 12 (a_aload 13 0) := snd_aload_n (by decide +kernel : decode (mBc 174) 12 = .ok (.aload_n 0, 1)) rfl rfl
theorem s174_13 : mSnd 174 13 (a_getf 16 4 [10]) := snd_getf f31 q906 (Or.inl rfl) (by decide +kernel : decode (mBc 174) 13 = .ok (.getfield 24, 3)) rfl
theorem s174_16 : mSnd 174 16 (a_push 17 (.int (iZ 5))) := snd_iconst (by decide +kernel : decode (mBc 174) 16 = .ok (.iconst 5, 1)) rfl rfl
theorem s174_17 : mSnd 174 17 (a_iload 18 1) := snd_iload_n (by decide +kernel : decode (mBc 174) 17 = .ok (.iload_n 1, 1)) rfl rfl
theorem s174_18 : mSnd 174 18 (a_ii 19 (fun x y => x * y)) := snd_imul (by decide +kernel : decode (mBc 174) 18 = .ok (.imul, 1)) rfl
theorem s174_19 : mSnd 174 19 (a_iload 21 4) := snd_iload (by decide +kernel : decode (mBc 174) 19 = .ok (.iload 4, 2)) rfl
theorem s174_21 : mSnd 174 21 (a_ii 22 (fun x y => x + y)) := snd_iadd (by decide +kernel : decode (mBc 174) 21 = .ok (.iadd, 1)) rfl
theorem s174_22 : mSnd 174 22 (a_lald 23) := snd_lald (by decide +kernel : decode (mBc 174) 22 = .ok (.laload, 1)) rfl
theorem s174_23 : mSnd 174 23 (a_lload 24 2) := snd_lload_n (by decide +kernel : decode (mBc 174) 23 = .ok (.lload_n 2, 1)) rfl rfl
theorem s174_24 : mSnd 174 24 (a_invV 27 2 0 0 [(10, 160, 0, 0)]) := snd_invV v174_121 rfl rfl (by decide +kernel : decode (mBc 174) 24 = .ok (.invokevirtual 121, 3)) rfl
theorem s174_27 : mSnd 174 27 (a_lstore 28 2) := snd_lstore_n (by decide +kernel : decode (mBc 174) 27 = .ok (.lstore_n 2, 1)) rfl (by decide) rfl
theorem s174_28 : mSnd 174 28 (a_iinc 31 4 (iZ 1)) := snd_iinc (by decide +kernel : decode (mBc 174) 28 = .ok (.iinc 4 1, 3)) rfl (by decide) rfl
theorem s174_31 : mSnd 174 31 (a_goto 5) := snd_goto (by decide +kernel : decode (mBc 174) 31 = .ok (.goto (-26), 3)) rfl
theorem s174_34 : mSnd 174 34 (a_push 35 (.int (iZ 0))) := snd_iconst (by decide +kernel : decode (mBc 174) 34 = .ok (.iconst 0, 1)) rfl rfl
theorem s174_35 : mSnd 174 35 (a_istore 37 4) := snd_istore (by decide +kernel : decode (mBc 174) 35 = .ok (.istore 4, 2)) (by decide) rfl
theorem s174_37 : mSnd 174 37 (a_iload 39 4) := snd_iload (by decide +kernel : decode (mBc 174) 37 = .ok (.iload 4, 2)) rfl
theorem s174_39 : mSnd 174 39 (a_push 40 (.int (iZ 5))) := snd_iconst (by decide +kernel : decode (mBc 174) 39 = .ok (.iconst 5, 1)) rfl rfl
theorem s174_40 : mSnd 174 40 (a_icmp 43 70 (fun x y => decide (y ≤ x))) := snd_icmp_ge (by decide +kernel : decode (mBc 174) 40 = .ok (.if_icmp .ge 30, 3)) rfl rfl
theorem s174_43 : mSnd 174 43 (a_lload 44 2) := snd_lload_n (by decide +kernel : decode (mBc 174) 43 = .ok (.lload_n 2, 1)) rfl rfl
theorem s174_44 : mSnd 174 44 (a_push 45 (.long (lZ 1))) := snd_lconst (by decide +kernel : decode (mBc 174) 44 = .ok (.lconst 1, 1)) (by decide +kernel) rfl
theorem s174_45 : mSnd 174 45 (a_lcmp 46) := snd_lcmp (by decide +kernel : decode (mBc 174) 45 = .ok (.lcmp, 1)) rfl
theorem s174_46 : mSnd 174 46 (a_if 49 70 (fun x => decide (x ≤ 0))) := snd_if_le (by decide +kernel : decode (mBc 174) 46 = .ok (.ifCond .le 24, 3)) rfl rfl
theorem s174_49 : mSnd 174 49 (a_aload 50 0) := snd_aload_n (by decide +kernel : decode (mBc 174) 49 = .ok (.aload_n 0, 1)) rfl rfl
theorem s174_50 : mSnd 174 50 (a_getf 53 4 [10]) := snd_getf f31 q906 (Or.inl rfl) (by decide +kernel : decode (mBc 174) 50 = .ok (.getfield 24, 3)) rfl
theorem s174_53 : mSnd 174 53 (a_push 54 (.int (iZ 5))) := snd_iconst (by decide +kernel : decode (mBc 174) 53 = .ok (.iconst 5, 1)) rfl rfl
theorem s174_54 : mSnd 174 54 (a_iload 55 1) := snd_iload_n (by decide +kernel : decode (mBc 174) 54 = .ok (.iload_n 1, 1)) rfl rfl
theorem s174_55 : mSnd 174 55 (a_ii 56 (fun x y => x * y)) := snd_imul (by decide +kernel : decode (mBc 174) 55 = .ok (.imul, 1)) rfl
theorem s174_56 : mSnd 174 56 (a_iload 58 4) := snd_iload (by decide +kernel : decode (mBc 174) 56 = .ok (.iload 4, 2)) rfl
theorem s174_58 : mSnd 174 58 (a_ii 59 (fun x y => x + y)) := snd_iadd (by decide +kernel : decode (mBc 174) 58 = .ok (.iadd, 1)) rfl
theorem s174_59 : mSnd 174 59 (a_dup2 60) := snd_dup2 (by decide +kernel : decode (mBc 174) 59 = .ok (.dup2, 1)) rfl
theorem s174_60 : mSnd 174 60 (a_lald 61) := snd_lald (by decide +kernel : decode (mBc 174) 60 = .ok (.laload, 1)) rfl
theorem s174_61 : mSnd 174 61 (a_lload 62 2) := snd_lload_n (by decide +kernel : decode (mBc 174) 61 = .ok (.lload_n 2, 1)) rfl rfl
theorem s174_62 : mSnd 174 62 (a_lld 63 (fun x y => x / y)) := snd_ldiv (by decide +kernel : decode (mBc 174) 62 = .ok (.ldiv, 1)) rfl
theorem s174_63 : mSnd 174 63 (a_last 64) := snd_last (by decide +kernel : decode (mBc 174) 63 = .ok (.lastore, 1)) rfl
theorem s174_64 : mSnd 174 64 (a_iinc 67 4 (iZ 1)) := snd_iinc (by decide +kernel : decode (mBc 174) 64 = .ok (.iinc 4 1, 3)) rfl (by decide) rfl
theorem s174_67 : mSnd 174 67 (a_goto 37) := snd_goto (by decide +kernel : decode (mBc 174) 67 = .ok (.goto (-30), 3)) rfl
theorem s174_70 : mSnd 174 70 (a_vret 0 0) := snd_vret rfl rfl rfl (by decide +kernel : decode (mBc 174) 70 = .ok (.return_, 1))
theorem ok174 : mOkl2 174 ct174 := ⟨⟨s174_0, s174_1, s174_2, s174_3, s174_5, s174_7, s174_8, s174_11, s174_12, s174_13, s174_16, s174_17, trivial⟩, ⟨s174_18, s174_19, s174_21, s174_22, s174_23, s174_24, s174_27, s174_28, s174_31, s174_34, s174_35, s174_37, trivial⟩, ⟨s174_39, s174_40, s174_43, s174_44, s174_45, s174_46, s174_49, s174_50, s174_53, s174_54, s174_55, s174_56, trivial⟩, ⟨s174_58, s174_59, s174_60, s174_61, s174_62, s174_63, s174_64, s174_67, s174_70, trivial⟩, trivial⟩
theorem s175_0 : mSnd 175 0 (a_push 1 (.int (iZ 0))) := snd_iconst (by decide +kernel : decode (mBc 175) 0 = .ok (.iconst 0, 1)) rfl rfl
theorem s175_1 : mSnd 175 1 (a_istore 2 3) := snd_istore_n (by decide +kernel : decode (mBc 175) 1 = .ok (.istore_n 3, 1)) rfl (by decide) rfl
theorem s175_2 : mSnd 175 2 (a_iload 3 3) := snd_iload_n (by decide +kernel : decode (mBc 175) 2 = .ok (.iload_n 3, 1)) rfl rfl
theorem s175_3 : mSnd 175 3 (a_push 4 (.int (iZ 5))) := snd_iconst (by decide +kernel : decode (mBc 175) 3 = .ok (.iconst 5, 1)) rfl rfl
theorem s175_4 : mSnd 175 4 (a_icmp 7 57 (fun x y => decide (y ≤ x))) := snd_icmp_ge (by decide +kernel : decode (mBc 175) 4 = .ok (.if_icmp .ge 53, 3)) rfl rfl
theorem s175_7 : mSnd 175 7 (a_aload 8 0) := snd_aload_n (by decide +kernel : decode (mBc 175) 7 = .ok (.aload_n 0, 1)) rfl rfl
theorem s175_8 : mSnd 175 8 (a_getf 11 4 [10]) := snd_getf f31 q906 (Or.inl rfl) (by decide +kernel : decode (mBc 175) 8 = .ok (.getfield 24, 3)) rfl
theorem s175_11 : mSnd 175 11 (a_push 12 (.int (iZ 5))) := snd_iconst (by decide +kernel : decode (mBc 175) 11 = .ok (.iconst 5, 1)) rfl rfl
theorem s175_12 : mSnd 175 12 (a_iload 13 1) := snd_iload_n (by decide +kernel : decode (mBc 175) 12 = .ok (.iload_n 1, 1)) rfl rfl
theorem s175_13 : mSnd 175 13 (a_ii 14 (fun x y => x * y)) := snd_imul (by decide +kernel : decode (mBc 175) 13 = .ok (.imul, 1)) rfl
theorem s175_14 : mSnd 175 14 (a_iload 15 3) := snd_iload_n (by decide +kernel : decode (mBc 175) 14 = .ok (.iload_n 3, 1)) rfl rfl
theorem s175_15 : mSnd 175 15 (a_ii 16 (fun x y => x + y)) := snd_iadd (by decide +kernel : decode (mBc 175) 15 = .ok (.iadd, 1)) rfl
theorem s175_16 : mSnd 175 16 (a_lald 17) := snd_lald (by decide +kernel : decode (mBc 175) 16 = .ok (.laload, 1)) rfl
theorem s175_17 : mSnd 175 17 (a_lstore 19 4) := snd_lstore (by decide +kernel : decode (mBc 175) 17 = .ok (.lstore 4, 2)) (by decide) rfl
theorem s175_19 : mSnd 175 19 (a_aload 20 0) := snd_aload_n (by decide +kernel : decode (mBc 175) 19 = .ok (.aload_n 0, 1)) rfl rfl
theorem s175_20 : mSnd 175 20 (a_getf 23 4 [10]) := snd_getf f31 q906 (Or.inl rfl) (by decide +kernel : decode (mBc 175) 20 = .ok (.getfield 24, 3)) rfl
theorem s175_23 : mSnd 175 23 (a_push 24 (.int (iZ 5))) := snd_iconst (by decide +kernel : decode (mBc 175) 23 = .ok (.iconst 5, 1)) rfl rfl
theorem s175_24 : mSnd 175 24 (a_iload 25 1) := snd_iload_n (by decide +kernel : decode (mBc 175) 24 = .ok (.iload_n 1, 1)) rfl rfl
theorem s175_25 : mSnd 175 25 (a_ii 26 (fun x y => x * y)) := snd_imul (by decide +kernel : decode (mBc 175) 25 = .ok (.imul, 1)) rfl
theorem s175_26 : mSnd 175 26 (a_iload 27 3) := snd_iload_n (by decide +kernel : decode (mBc 175) 26 = .ok (.iload_n 3, 1)) rfl rfl
theorem s175_27 : mSnd 175 27 (a_ii 28 (fun x y => x + y)) := snd_iadd (by decide +kernel : decode (mBc 175) 27 = .ok (.iadd, 1)) rfl
theorem s175_28 : mSnd 175 28 (a_aload 29 0) := snd_aload_n (by decide +kernel : decode (mBc 175) 28 = .ok (.aload_n 0, 1)) rfl rfl
theorem s175_29 : mSnd 175 29 (a_getf 32 4 [10]) := snd_getf f31 q906 (Or.inl rfl) (by decide +kernel : decode (mBc 175) 29 = .ok (.getfield 24, 3)) rfl
theorem s175_32 : mSnd 175 32 (a_push 33 (.int (iZ 5))) := snd_iconst (by decide +kernel : decode (mBc 175) 32 = .ok (.iconst 5, 1)) rfl rfl
theorem s175_33 : mSnd 175 33 (a_iload 34 2) := snd_iload_n (by decide +kernel : decode (mBc 175) 33 = .ok (.iload_n 2, 1)) rfl rfl
theorem s175_34 : mSnd 175 34 (a_ii 35 (fun x y => x * y)) := snd_imul (by decide +kernel : decode (mBc 175) 34 = .ok (.imul, 1)) rfl
theorem s175_35 : mSnd 175 35 (a_iload 36 3) := snd_iload_n (by decide +kernel : decode (mBc 175) 35 = .ok (.iload_n 3, 1)) rfl rfl
theorem s175_36 : mSnd 175 36 (a_ii 37 (fun x y => x + y)) := snd_iadd (by decide +kernel : decode (mBc 175) 36 = .ok (.iadd, 1)) rfl
theorem s175_37 : mSnd 175 37 (a_lald 38) := snd_lald (by decide +kernel : decode (mBc 175) 37 = .ok (.laload, 1)) rfl
theorem s175_38 : mSnd 175 38 (a_last 39) := snd_last (by decide +kernel : decode (mBc 175) 38 = .ok (.lastore, 1)) rfl
theorem s175_39 : mSnd 175 39 (a_aload 40 0) := snd_aload_n (by decide +kernel : decode (mBc 175) 39 = .ok (.aload_n 0, 1)) rfl rfl
theorem s175_40 : mSnd 175 40 (a_getf 43 4 [10]) := snd_getf f31 q906 (Or.inl rfl) (by decide +kernel : decode (mBc 175) 40 = .ok (.getfield 24, 3)) rfl
theorem s175_43 : mSnd 175 43 (a_push 44 (.int (iZ 5))) := snd_iconst (by decide +kernel : decode (mBc 175) 43 = .ok (.iconst 5, 1)) rfl rfl
theorem s175_44 : mSnd 175 44 (a_iload 45 2) := snd_iload_n (by decide +kernel : decode (mBc 175) 44 = .ok (.iload_n 2, 1)) rfl rfl
theorem s175_45 : mSnd 175 45 (a_ii 46 (fun x y => x * y)) := snd_imul (by decide +kernel : decode (mBc 175) 45 = .ok (.imul, 1)) rfl
theorem s175_46 : mSnd 175 46 (a_iload 47 3) := snd_iload_n (by decide +kernel : decode (mBc 175) 46 = .ok (.iload_n 3, 1)) rfl rfl
theorem s175_47 : mSnd 175 47 (a_ii 48 (fun x y => x + y)) := snd_iadd (by decide +kernel : decode (mBc 175) 47 = .ok (.iadd, 1)) rfl
theorem s175_48 : mSnd 175 48 (a_lload 50 4) := snd_lload (by decide +kernel : decode (mBc 175) 48 = .ok (.lload 4, 2)) rfl
theorem s175_50 : mSnd 175 50 (a_last 51) := snd_last (by decide +kernel : decode (mBc 175) 50 = .ok (.lastore, 1)) rfl
theorem s175_51 : mSnd 175 51 (a_iinc 54 3 (iZ 1)) := snd_iinc (by decide +kernel : decode (mBc 175) 51 = .ok (.iinc 3 1, 3)) rfl (by decide) rfl
theorem s175_54 : mSnd 175 54 (a_goto 2) := snd_goto (by decide +kernel : decode (mBc 175) 54 = .ok (.goto (-52), 3)) rfl
theorem s175_57 : mSnd 175 57 (a_vret 0 0) := snd_vret rfl rfl rfl (by decide +kernel : decode (mBc 175) 57 = .ok (.return_, 1))
theorem ok175 : mOkl2 175 ct175 := ⟨⟨s175_0, s175_1, s175_2, s175_3, s175_4, s175_7, s175_8, s175_11, s175_12, s175_13, s175_14, s175_15, trivial⟩, ⟨s175_16, s175_17, s175_19, s175_20, s175_23, s175_24, s175_25, s175_26, s175_27, s175_28, s175_29, s175_32, trivial⟩, ⟨s175_33, s175_34, s175_35, s175_36, s175_37, s175_38, s175_39, s175_40, s175_43, s175_44, s175_45, s175_46, trivial⟩, ⟨s175_47, s175_48, s175_50, s175_51, s175_54, s175_57, trivial⟩, trivial⟩
theorem s176_0 : mSnd 176 0 (a_push 1 (.int (iZ 0))) := snd_iconst (by decide +kernel : decode (mBc 176) 0 = .ok (.iconst 0, 1)) rfl rfl
theorem s176_1 : mSnd 176 1 (a_istore 2 3) := snd_istore_n (by decide +kernel : decode (mBc 176) 1 = .ok (.istore_n 3, 1)) rfl (by decide) rfl
theorem s176_2 : mSnd 176 2 (a_iload 3 3) := snd_iload_n (by decide +kernel : decode (mBc 176) 2 = .ok (.iload_n 3, 1)) rfl rfl
theorem s176_3 : mSnd 176 3 (a_iload 4 1) := snd_iload_n (by decide +kernel : decode (mBc 176) 3 = .ok (.iload_n 1, 1)) rfl rfl
theorem s176_4 : mSnd 176 4 (a_icmp 7 178 (fun x y => decide (y ≤ x))) := snd_icmp_ge (by decide +kernel : decode (mBc 176) 4 = .ok (.if_icmp .ge 174, 3)) rfl rfl
theorem s176_7 : mSnd 176 7 (a_iload 8 3) := snd_iload_n (by decide +kernel : decode (mBc 176) 7 = .ok (.iload_n 3, 1)) rfl rfl
theorem s176_8 : mSnd 176 8 (a_istore 10 4) := snd_istore (by decide +kernel : decode (mBc 176) 8 = .ok (.istore 4, 2)) (by decide) rfl
theorem s176_10 : mSnd 176 10 (a_iload 12 4) := snd_iload (by decide +kernel : decode (mBc 176) 10 = .ok (.iload 4, 2)) rfl
theorem s176_12 : mSnd 176 12 (a_iload 13 2) := snd_iload_n (by decide +kernel : decode (mBc 176) 12 = .ok (.iload_n 2, 1)) rfl rfl
theorem s176_13 : mSnd 176 13 (a_icmp 16 38 (fun x y => decide (y ≤ x))) := snd_icmp_ge (by decide +kernel : decode (mBc 176) 13 = .ok (.if_icmp .ge 25, 3)) rfl rfl
theorem s176_16 : mSnd 176 16 (a_aload 17 0) := snd_aload_n (by decide +kernel : decode (mBc 176) 16 = .ok (.aload_n 0, 1)) rfl rfl
theorem s176_17 : mSnd 176 17 (a_getf 20 4 [10]) := snd_getf f31 q906 (Or.inl rfl) (by decide +kernel : decode (mBc 176) 17 = .ok (.getfield 24, 3)) rfl
theorem s176_20 : mSnd 176 20 (a_push 21 (.int (iZ 5))) := snd_iconst (by decide +kernel : decode (mBc 176) 20 = .ok (.iconst 5, 1)) rfl rfl
theorem s176_21 : mSnd 176 21 (a_iload 23 4) := snd_iload (by decide +kernel : decode (mBc 176) 21 = .ok (.iload 4, 2)) rfl
theorem s176_23 : mSnd 176 23 (a_ii 24 (fun x y => x * y)) := snd_imul (by decide +kernel : decode (mBc 176) 23 = .ok (.imul, 1)) rfl
theorem s176_24 : mSnd 176 24 (a_iload 25 3) := snd_iload_n (by decide +kernel : decode (mBc 176) 24 = .ok (.iload_n 3, 1)) rfl rfl
theorem s176_25 : mSnd 176 25 (a_ii 26 (fun x y => x + y)) := snd_iadd (by decide +kernel : decode (mBc 176) 25 = .ok (.iadd, 1)) rfl
theorem s176_26 : mSnd 176 26 (a_lald 27) := snd_lald (by decide +kernel : decode (mBc 176) 26 = .ok (.laload, 1)) rfl
theorem s176_27 : mSnd 176 27 (a_push 28 (.long (lZ 0))) := snd_lconst (by decide +kernel : decode (mBc 176) 27 = .ok (.lconst 0, 1)) (by decide +kernel) rfl
theorem s176_28 : mSnd 176 28 (a_lcmp 29) := snd_lcmp (by decide +kernel : decode (mBc 176) 28 = .ok (.lcmp, 1)) rfl
theorem s176_29 : mSnd 176 29 (a_if 32 38 (fun x => decide (¬ x = 0))) := snd_if_ne (by decide +kernel : decode (mBc 176) 29 = .ok (.ifCond .ne 9, 3)) rfl rfl
theorem s176_32 : mSnd 176 32 (a_iinc 35 4 (iZ 1)) := snd_iinc (by decide +kernel : decode (mBc 176) 32 = .ok (.iinc 4 1, 3)) rfl (by decide) rfl
theorem s176_35 : mSnd 176 35 (a_goto 10) := snd_goto (by decide +kernel : decode (mBc 176) 35 = .ok (.goto (-25), 3)) rfl
theorem s176_38 : mSnd 176 38 (a_iload 40 4) := snd_iload (by decide +kernel : decode (mBc 176) 38 = .ok (.iload 4, 2)) rfl
theorem s176_40 : mSnd 176 40 (a_iload 41 2) := snd_iload_n (by decide +kernel : decode (mBc 176) 40 = .ok (.iload_n 2, 1)) rfl rfl
theorem s176_41 : mSnd 176 41 (a_icmp 44 46 (fun x y => decide (¬ x = y))) := snd_icmp_ne (by decide +kernel : decode (mBc 176) 41 = .ok (.if_icmp .ne 5, 3)) rfl rfl
theorem s176_44 : mSnd 176 44 (a_push 45 (.int (iZ 0))) := snd_iconst (by decide +kernel : decode (mBc 176) 44 = .ok (.iconst 0, 1)) rfl rfl
theorem s176_45 : mSnd 176 45 (a_zret 0 0) := snd_zret rfl rfl rfl (by decide +kernel : decode (mBc 176) 45 = .ok (.ireturn, 1))
theorem s176_46 : mSnd 176 46 (a_aload 47 0) := snd_aload_n (by decide +kernel : decode (mBc 176) 46 = .ok (.aload_n 0, 1)) rfl rfl
theorem s176_47 : mSnd 176 47 (a_iload 48 3) := snd_iload_n (by decide +kernel : decode (mBc 176) 47 = .ok (.iload_n 3, 1)) rfl rfl
theorem s176_48 : mSnd 176 48 (a_iload 50 4) := snd_iload (by decide +kernel : decode (mBc 176) 48 = .ok (.iload 4, 2)) rfl
theorem s176_50 : mSnd 176 50 (a_invV 53 2 0 0 [(10, 175, 0, 0)]) := snd_invV v176_160 rfl rfl (by decide +kernel : decode (mBc 176) 50 = .ok (.invokevirtual 160, 3)) rfl
theorem s176_53 : mSnd 176 53 (a_push 54 (.int (iZ 0))) := snd_iconst (by decide +kernel : decode (mBc 176) 53 = .ok (.iconst 0, 1)) rfl rfl
theorem s176_54 : mSnd 176 54 (a_istore 56 5) := snd_istore (by decide +kernel : decode (mBc 176) 54 = .ok (.istore 5, 2)) (by decide) rfl
theorem s176_56 : mSnd 176 56 (a_iload 58 5) := snd_iload (by decide +kernel : decode (mBc 176) 56 = .ok (.iload 5, 2)) rfl
theorem s176_58 : mSnd 176 58 (a_iload 59 2) := snd_iload_n (by decide +kernel : decode (mBc 176) 58 = .ok (.iload_n 2, 1)) rfl rfl
theorem s176_59 : mSnd 176 59 (a_icmp 62 172 (fun x y => decide (y ≤ x))) := snd_icmp_ge (by decide +kernel : decode (mBc 176) 59 = .ok (.if_icmp .ge 113, 3)) rfl rfl
theorem s176_62 : mSnd 176 62 (a_aload 63 0) := snd_aload_n (by decide +kernel : decode (mBc 176) 62 = .ok (.aload_n 0, 1)) rfl rfl
theorem s176_63 : mSnd 176 63 (a_getf 66 4 [10]) := snd_getf f31 q906 (Or.inl rfl) (by decide +kernel : decode (mBc 176) 63 = .ok (.getfield 24, 3)) rfl
theorem s176_66 : mSnd 176 66 (a_push 67 (.int (iZ 5))) := snd_iconst (by decide +kernel : decode (mBc 176) 66 = .ok (.iconst 5, 1)) rfl rfl
theorem s176_67 : mSnd 176 67 (a_iload 69 5) := snd_iload (by decide +kernel : decode (mBc 176) 67 = .ok (.iload 5, 2)) rfl
theorem s176_69 : mSnd 176 69 (a_ii 70 (fun x y => x * y)) := snd_imul (by decide +kernel : decode (mBc 176) 69 = .ok (.imul, 1)) rfl
theorem s176_70 : mSnd 176 70 (a_iload 71 3) := snd_iload_n (by decide +kernel : decode (mBc 176) 70 = .ok (.iload_n 3, 1)) rfl rfl
theorem s176_71 : mSnd 176 71 (a_ii 72 (fun x y => x + y)) := snd_iadd (by decide +kernel : decode (mBc 176) 71 = .ok (.iadd, 1)) rfl
theorem s176_72 : mSnd 176 72 (a_lald 73) := snd_lald (by decide +kernel : decode (mBc 176) 72 = .ok (.laload, 1)) rfl
theorem s176_73 : mSnd 176 73 (a_lstore 75 6) := snd_lstore (by decide +kernel : decode (mBc 176) 73 = .ok (.lstore 6, 2)) (by decide) rfl
theorem s176_75 : mSnd 176 75 (a_iload 77 5) := snd_iload (by decide +kernel : decode (mBc 176) 75 = .ok (.iload 5, 2)) rfl
theorem s176_77 : mSnd 176 77 (a_iload 78 3) := snd_iload_n (by decide +kernel : decode (mBc 176) 77 = .ok (.iload_n 3, 1)) rfl rfl
theorem s176_78 : mSnd 176 78 (a_icmp 81 166 (fun x y => decide (x = y))) := snd_icmp_eq (by decide +kernel : decode (mBc 176) 78 = .ok (.if_icmp .eq 88, 3)) rfl rfl
theorem s176_81 : mSnd 176 81 (a_lload 83 6) := snd_lload (by decide +kernel : decode (mBc 176) 81 = .ok (.lload 6, 2)) rfl
theorem s176_83 : mSnd 176 83 (a_push 84 (.long (lZ 0))) := snd_lconst (by decide +kernel : decode (mBc 176) 83 = .ok (.lconst 0, 1)) (by decide +kernel) rfl
theorem s176_84 : mSnd 176 84 (a_lcmp 85) := snd_lcmp (by decide +kernel : decode (mBc 176) 84 = .ok (.lcmp, 1)) rfl
theorem s176_85 : mSnd 176 85 (a_if 88 91 (fun x => decide (¬ x = 0))) := snd_if_ne (by decide +kernel : decode (mBc 176) 85 = .ok (.ifCond .ne 6, 3)) rfl rfl
theorem s176_88 : mSnd 176 88 (a_goto 166) := snd_goto (by decide +kernel : decode (mBc 176) 88 = .ok (.goto 78, 3)) rfl
theorem s176_91 : mSnd 176 91 (a_aload 92 0) := snd_aload_n (by decide +kernel : decode (mBc 176) 91 = .ok (.aload_n 0, 1)) rfl rfl
theorem s176_92 : mSnd 176 92 (a_getf 95 4 [10]) := snd_getf f31 q906 (Or.inl rfl) (by decide +kernel : decode (mBc 176) 92 = .ok (.getfield 24, 3)) rfl
theorem s176_95 : mSnd 176 95 (a_push 96 (.int (iZ 5))) := snd_iconst (by decide +kernel : decode (mBc 176) 95 = .ok (.iconst 5, 1)) rfl rfl
theorem s176_96 : mSnd 176 96 (a_iload 97 3) := snd_iload_n (by decide +kernel : decode (mBc 176) 96 = .ok (.iload_n 3, 1)) rfl rfl
theorem s176_97 : mSnd 176 97 (a_ii 98 (fun x y => x * y)) := snd_imul (by decide +kernel : decode (mBc 176) 97 = .ok (.imul, 1)) rfl
theorem s176_98 : mSnd 176 98 (a_iload 99 3) := snd_iload_n (by decide +kernel : decode (mBc 176) 98 = .ok (.iload_n 3, 1)) rfl rfl
theorem s176_99 : mSnd 176 99 (a_ii 100 (fun x y => x + y)) := snd_iadd (by decide +kernel : decode (mBc 176) 99 = .ok (.iadd, 1)) rfl
theorem s176_100 : mSnd 176 100 (a_lald 101) := snd_lald (by decide +kernel : decode (mBc 176) 100 = .ok (.laload, 1)) rfl
theorem s176_101 : mSnd 176 101 (a_lstore 103 8) := snd_lstore (by decide +kernel : decode (mBc 176) 101 = .ok (.lstore 8, 2)) (by decide) rfl
theorem s176_103 : mSnd 176 103 (a_push 104 (.int (iZ 0))) := snd_iconst (by decide +kernel : decode (mBc 176) 103 = .ok (.iconst 0, 1)) rfl rfl
theorem s176_104 : mSnd 176 104 (a_istore 106 10) := snd_istore (by decide +kernel : decode (mBc 176) 104 = .ok (.istore 10, 2)) (by decide) rfl
theorem s176_106 : mSnd 176 106 (a_iload 108 10) := snd_iload (by decide +kernel : decode (mBc 176) 106 = .ok (.iload 10, 2)) rfl
theorem s176_108 : mSnd 176 108 (a_push 109 (.int (iZ 5))) := snd_iconst (by decide +kernel : decode (mBc 176) 108 = .ok (.iconst 5, 1)) rfl rfl
theorem s176_109 : mSnd 176 109 (a_icmp 112 160 (fun x y => decide (y ≤ x))) := snd_icmp_ge (by decide +kernel : decode (mBc 176) 109 = .ok (.if_icmp .ge 51, 3)) rfl rfl
theorem s176_112 : mSnd 176 112 (a_aload 113 0) := snd_aload_n (by decide +kernel : decode (mBc 176) 112 = .ok (.aload_n 0, 1)) rfl rfl
theorem s176_113 : mSnd 176 113 (a_getf 116 4 [10]) := snd_getf f31 q906 (Or.inl rfl) (by decide +kernel : decode (mBc 176) 113 = .ok (.getfield 24, 3)) rfl
theorem s176_116 : mSnd 176 116 (a_push 117 (.int (iZ 5))) := snd_iconst (by decide +kernel : decode (mBc 176) 116 = .ok (.iconst 5, 1)) rfl rfl
theorem s176_117 : mSnd 176 117 (a_iload 119 5) := snd_iload (by decide +kernel : decode (mBc 176) 117 = .ok (.iload 5, 2)) rfl
theorem s176_119 : mSnd 176 119 (a_ii 120 (fun x y => x * y)) := snd_imul (by decide +kernel : decode (mBc 176) 119 = .ok (.imul, 1)) rfl
theorem s176_120 : mSnd 176 120 (a_iload 122 10) := snd_iload (by decide +kernel : decode (mBc 176) 120 = .ok (.iload 10, 2)) rfl
theorem s176_122 : mSnd 176 122 (a_ii 123 (fun x y => x + y)) := snd_iadd (by decide +kernel : decode (mBc 176) 122 = .ok (.iadd, 1)) rfl
theorem s176_123 : mSnd 176 123 (a_aload 124 0) := snd_aload_n (by decide +kernel : decode (mBc 176) 123 = .ok (.aload_n 0, 1)) rfl rfl
theorem s176_124 : mSnd 176 124 (a_getf 127 4 [10]) := snd_getf f31 q906 (Or.inl rfl) (by decide +kernel : decode (mBc 176) 124 = .ok (.getfield 24, 3)) rfl
theorem s176_127 : mSnd 176 127 (a_push 128 (.int (iZ 5))) := snd_iconst (by decide +kernel : decode (mBc 176) 127 = .ok (.iconst 5, 1)) rfl rfl
theorem s176_128 : mSnd 176 128 (a_iload 130 5) := snd_iload (by decide +kernel : decode (mBc 176) 128 = .ok (.iload 5, 2)) rfl
theorem s176_130 : mSnd 176 130 (a_ii 131 (fun x y => x * y)) := snd_imul (by decide +kernel : decode (mBc 176) 130 = .ok (.imul, 1)) rfl
theorem s176_131 : mSnd 176 131 (a_iload 133 10) := snd_iload (by decide +kernel : decode (mBc 176) 131 = .ok (.iload 10, 2)) rfl
theorem s176_133 : mSnd 176 133 (a_ii 134 (fun x y => x + y)) := snd_iadd (by decide +kernel : decode (mBc 176) 133 = .ok (.iadd, 1)) rfl
theorem s176_134 : mSnd 176 134 (a_lald 135) := snd_lald (by decide +kernel : decode (mBc 176) 134 = .ok (.laload, 1)) rfl
theorem s176_135 : mSnd 176 135 (a_lload 137 8) := snd_lload (by decide +kernel : decode (mBc 176) 135 = .ok (.lload 8, 2)) rfl
theorem s176_137 : mSnd 176 137 (a_ll 138 (fun x y => x * y)) := snd_lmul (by decide +kernel : decode (mBc 176) 137 = .ok (.lmul, 1)) rfl
theorem s176_138 : mSnd 176 138 (a_aload 139 0) := snd_aload_n (by decide +kernel : decode (mBc 176) 138 = .ok (.aload_n 0, 1)) rfl rfl
theorem s176_139 : mSnd 176 139 (a_getf 142 4 [10]) := snd_getf f31 q906 (Or.inl rfl) (by decide +kernel : decode (mBc 176) 139 = .ok (.getfield 24, 3)) rfl
theorem s176_142 : mSnd 176 142 (a_push 143 (.int (iZ 5))) := snd_iconst (by decide +kernel : decode (mBc 176) 142 = .ok (.iconst 5, 1)) rfl rfl
theorem s176_143 : mSnd 176 143 (a_iload 144 3) := snd_iload_n (by decide +kernel : decode (mBc 176) 143 = .ok (.iload_n 3, 1)) rfl rfl
theorem s176_144 : mSnd 176 144 (a_ii 145 (fun x y => x * y)) := snd_imul (by decide +kernel : decode (mBc 176) 144 = .ok (.imul, 1)) rfl
theorem s176_145 : mSnd 176 145 (a_iload 147 10) := snd_iload (by decide +kernel : decode (mBc 176) 145 = .ok (.iload 10, 2)) rfl
theorem s176_147 : mSnd 176 147 (a_ii 148 (fun x y => x + y)) := snd_iadd (by decide +kernel : decode (mBc 176) 147 = .ok (.iadd, 1)) rfl
theorem s176_148 : mSnd 176 148 (a_lald 149) := snd_lald (by decide +kernel : decode (mBc 176) 148 = .ok (.laload, 1)) rfl
theorem s176_149 : mSnd 176 149 (a_lload 151 6) := snd_lload (by decide +kernel : decode (mBc 176) 149 = .ok (.lload 6, 2)) rfl
theorem s176_151 : mSnd 176 151 (a_ll 152 (fun x y => x * y)) := snd_lmul (by decide +kernel : decode (mBc 176) 151 = .ok (.lmul, 1)) rfl
theorem s176_152 : mSnd 176 152 (a_ll 153 (fun x y => x - y)) := snd_lsub (by decide +kernel : decode (mBc 176) 152 = .ok (.lsub, 1)) rfl
theorem s176_153 : mSnd 176 153 (a_last 154) := snd_last (by decide +kernel : decode (mBc 176) 153 = .ok (.lastore, 1)) rfl
theorem s176_154 : mSnd 176 154 (a_iinc 157 10 (iZ 1)) := snd_iinc (by decide +kernel : decode (mBc 176) 154 = .ok (.iinc 10 1, 3)) rfl (by decide) rfl
theorem s176_157 : mSnd 176 157 (a_goto 106) := snd_goto (by decide +kernel : decode (mBc 176) 157 = .ok (.goto (-51), 3)) rfl
theorem s176_160 : mSnd 176 160 (a_aload 161 0) := snd_aload_n (by decide +kernel : decode (mBc 176) 160 = .ok (.aload_n 0, 1)) rfl rfl
theorem s176_161 : mSnd 176 161 (a_iload 163 5) := snd_iload (by decide +kernel : decode (mBc 176) 161 = .ok (.iload 5, 2)) rfl
theorem s176_163 : mSnd 176 163 (a_invV 166 1 0 0 [(10, 174, 0, 0)]) := snd_invV v176_164 rfl rfl (by decide +kernel : decode (mBc 176) 163 = .ok (.invokevirtual 164, 3)) rfl
theorem s176_166 : mSnd 176 166 (a_iinc 169 5 (iZ 1)) := snd_iinc (by decide +kernel : decode (mBc 176) 166 = .ok (.iinc 5 1, 3)) rfl (by decide) rfl
theorem s176_169 : mSnd 176 169 (a_goto 56) := snd_goto (by decide +kernel : decode (mBc 176) 169 = .ok (.goto (-113), 3)) rfl
theorem s176_172 : mSnd 176 172 (a_iinc 175 3 (iZ 1)) := snd_iinc (by decide +kernel : decode (mBc 176) 172 = .ok (.iinc 3 1, 3)) rfl (by decide) rfl
theorem s176_175 : mSnd 176 175 (a_goto 2) := snd_goto (by decide +kernel : decode (mBc 176) 175 = .ok (.goto (-173), 3)) rfl
theorem s176_178 : mSnd 176 178 (a_iload 179 1) := snd_iload_n (by decide +kernel : decode (mBc 176) 178 = .ok (.iload_n 1, 1)) rfl rfl
theorem s176_179 : mSnd 176 179 (a_istore 180 3) := snd_istore_n (by decide +kernel : decode (mBc 176) 179 = .ok (.istore_n 3, 1)) rfl (by decide) rfl
theorem s176_180 : mSnd 176 180 (a_iload 181 3) := snd_iload_n (by decide +kernel : decode (mBc 176) 180 = .ok (.iload_n 3, 1)) rfl rfl
theorem s176_181 : mSnd 176 181 (a_iload 182 2) := snd_iload_n (by decide +kernel : decode (mBc 176) 181 = .ok (.iload_n 2, 1)) rfl rfl
theorem s176_182 : mSnd 176 182 (a_icmp 185 208 (fun x y => decide (y ≤ x))) := snd_icmp_ge (by decide +kernel : decode (mBc 176) 182 = .ok (.if_icmp .ge 26, 3)) rfl rfl
theorem s176_185 : mSnd 176 185 (a_aload 186 0) := snd_aload_n (by decide +kernel : decode (mBc 176) 185 = .ok (.aload_n 0, 1)) rfl rfl
theorem s176_186 : mSnd 176 186 (a_getf 189 4 [10]) := snd_getf f31 q906 (Or.inl rfl) (by decide +kernel : decode (mBc 176) 186 = .ok (.getfield 24, 3)) rfl
theorem s176_189 : mSnd 176 189 (a_push 190 (.int (iZ 5))) := snd_iconst (by decide +kernel : decode (mBc 176) 189 = .ok (.iconst 5, 1)) rfl rfl
theorem s176_190 : mSnd 176 190 (a_iload 191 3) := snd_iload_n (by decide +kernel : decode (mBc 176) 190 = .ok (.iload_n 3, 1)) rfl rfl
theorem s176_191 : mSnd 176 191 (a_ii 192 (fun x y => x * y)) := snd_imul (by decide +kernel : decode (mBc 176) 191 = .ok (.imul, 1)) rfl
theorem s176_192 : mSnd 176 192 (a_push 193 (.int (iZ 4))) := snd_iconst (by decide +kernel : decode (mBc 176) 192 = .ok (.iconst 4, 1)) rfl rfl
theorem s176_193 : mSnd 176 193 (a_ii 194 (fun x y => x + y)) := snd_iadd (by decide +kernel : decode (mBc 176) 193 = .ok (.iadd, 1)) rfl
theorem s176_194 : mSnd 176 194 (a_lald 195) := snd_lald (by decide +kernel : decode (mBc 176) 194 = .ok (.laload, 1)) rfl
theorem s176_195 : mSnd 176 195 (a_push 196 (.long (lZ 0))) := snd_lconst (by decide +kernel : decode (mBc 176) 195 = .ok (.lconst 0, 1)) (by decide +kernel) rfl
theorem s176_196 : mSnd 176 196 (a_lcmp 197) := snd_lcmp (by decide +kernel : decode (mBc 176) 196 = .ok (.lcmp, 1)) rfl
theorem s176_197 : mSnd 176 197 (a_if 200 202 (fun x => decide (x = 0))) := snd_if_eq (by decide +kernel : decode (mBc 176) 197 = .ok (.ifCond .eq 5, 3)) rfl rfl
theorem s176_200 : mSnd 176 200 (a_push 201 (.int (iZ 0))) := snd_iconst (by decide +kernel : decode (mBc 176) 200 = .ok (.iconst 0, 1)) rfl rfl
theorem s176_201 : mSnd 176 201 (a_zret 0 0) := snd_zret rfl rfl rfl (by decide +kernel : decode (mBc 176) 201 = .ok (.ireturn, 1))
theorem s176_202 : mSnd 176 202 (a_iinc 205 3 (iZ 1)) := snd_iinc (by decide +kernel : decode (mBc 176) 202 = .ok (.iinc 3 1, 3)) rfl (by decide) rfl
theorem s176_205 : mSnd 176 205 (a_goto 180) := snd_goto (by decide +kernel : decode (mBc 176) 205 = .ok (.goto (-25), 3)) rfl
theorem s176_208 : mSnd 176 208 (a_push 209 (.int (iZ 0))) := snd_iconst (by decide +kernel : decode (mBc 176) 208 = .ok (.iconst 0, 1)) rfl rfl
theorem s176_209 : mSnd 176 209 (a_istore 210 3) := snd_istore_n (by decide +kernel : decode (mBc 176) 209 = .ok (.istore_n 3, 1)) rfl (by decide) rfl
theorem s176_210 : mSnd 176 210 (a_iload 211 3) := snd_iload_n (by decide +kernel : decode (mBc 176) 210 = .ok (.iload_n 3, 1)) rfl rfl
theorem s176_211 : mSnd 176 211 (a_iload 212 1) := snd_iload_n (by decide +kernel : decode (mBc 176) 211 = .ok (.iload_n 1, 1)) rfl rfl
theorem s176_212 : mSnd 176 212 (a_icmp 215 281 (fun x y => decide (y ≤ x))) := snd_icmp_ge (by decide +kernel : decode (mBc 176) 212 = .ok (.if_icmp .ge 69, 3)) rfl rfl
theorem s176_215 : mSnd 176 215 (a_aload 216 0) := snd_aload_n (by decide +kernel : decode (mBc 176) 215 = .ok (.aload_n 0, 1)) rfl rfl
theorem s176_216 : mSnd 176 216 (a_getf 219 4 [10]) := snd_getf f31 q906 (Or.inl rfl) (by decide +kernel : decode (mBc 176) 216 = .ok (.getfield 24, 3)) rfl
theorem s176_219 : mSnd 176 219 (a_push 220 (.int (iZ 5))) := snd_iconst (by decide +kernel : decode (mBc 176) 219 = .ok (.iconst 5, 1)) rfl rfl
theorem s176_220 : mSnd 176 220 (a_iload 221 3) := snd_iload_n (by decide +kernel : decode (mBc 176) 220 = .ok (.iload_n 3, 1)) rfl rfl
theorem s176_221 : mSnd 176 221 (a_ii 222 (fun x y => x * y)) := snd_imul (by decide +kernel : decode (mBc 176) 221 = .ok (.imul, 1)) rfl
theorem s176_222 : mSnd 176 222 (a_iload 223 3) := snd_iload_n (by decide +kernel : decode (mBc 176) 222 = .ok (.iload_n 3, 1)) rfl rfl
theorem s176_223 : mSnd 176 223 (a_ii 224 (fun x y => x + y)) := snd_iadd (by decide +kernel : decode (mBc 176) 223 = .ok (.iadd, 1)) rfl
theorem s176_224 : mSnd 176 224 (a_lald 225) := snd_lald (by decide +kernel : decode (mBc 176) 224 = .ok (.laload, 1)) rfl
theorem s176_225 : mSnd 176 225 (a_push 226 (.long (lZ 0))) := snd_lconst (by decide +kernel : decode (mBc 176) 225 = .ok (.lconst 0, 1)) (by decide +kernel) rfl
theorem s176_226 : mSnd 176 226 (a_lcmp 227) := snd_lcmp (by decide +kernel : decode (mBc 176) 226 = .ok (.lcmp, 1)) rfl
theorem s176_227 : mSnd 176 227 (a_if 230 233 (fun x => decide (x ≤ 0))) := snd_if_le (by decide +kernel : decode (mBc 176) 227 = .ok (.ifCond .le 6, 3)) rfl rfl
theorem s176_230 : mSnd 176 230 (a_goto 275) := snd_goto (by decide +kernel : decode (mBc 176) 230 = .ok (.goto 45, 3)) rfl
theorem s176_233 : mSnd 176 233 (a_aload 234 0) := snd_aload_n (by decide +kernel : decode (mBc 176) 233 = .ok (.aload_n 0, 1)) rfl rfl
theorem s176_234 : mSnd 176 234 (a_getf 237 4 [10]) := snd_getf f31 q906 (Or.inl rfl) (by decide +kernel : decode (mBc 176) 234 = .ok (.getfield 24, 3)) rfl
theorem s176_237 : mSnd 176 237 (a_push 238 (.int (iZ 5))) := snd_iconst (by decide +kernel : decode (mBc 176) 237 = .ok (.iconst 5, 1)) rfl rfl
theorem s176_238 : mSnd 176 238 (a_iload 239 3) := snd_iload_n (by decide +kernel : decode (mBc 176) 238 = .ok (.iload_n 3, 1)) rfl rfl
theorem s176_239 : mSnd 176 239 (a_ii 240 (fun x y => x * y)) := snd_imul (by decide +kernel : decode (mBc 176) 239 = .ok (.imul, 1)) rfl
theorem s176_240 : mSnd 176 240 (a_iload 241 3) := snd_iload_n (by decide +kernel : decode (mBc 176) 240 = .ok (.iload_n 3, 1)) rfl rfl
theorem s176_241 : mSnd 176 241 (a_ii 242 (fun x y => x + y)) := snd_iadd (by decide +kernel : decode (mBc 176) 241 = .ok (.iadd, 1)) rfl
theorem s176_242 : mSnd 176 242 (a_aload 243 0) := snd_aload_n (by decide +kernel : decode (mBc 176) 242 = .ok (.aload_n 0, 1)) rfl rfl
theorem s176_243 : mSnd 176 243 (a_getf 246 4 [10]) := snd_getf f31 q906 (Or.inl rfl) (by decide +kernel : decode (mBc 176) 243 = .ok (.getfield 24, 3)) rfl
theorem s176_246 : mSnd 176 246 (a_push 247 (.int (iZ 5))) := snd_iconst (by decide +kernel : decode (mBc 176) 246 = .ok (.iconst 5, 1)) rfl rfl
theorem s176_247 : mSnd 176 247 (a_iload 248 3) := snd_iload_n (by decide +kernel : decode (mBc 176) 247 = .ok (.iload_n 3, 1)) rfl rfl
theorem s176_248 : mSnd 176 248 (a_ii 249 (fun x y => x * y)) := snd_imul (by decide +kernel : decode (mBc 176) 248 = .ok (.imul, 1)) rfl
theorem s176_249 : mSnd 176 249 (a_iload 250 3) := snd_iload_n (by decide +kernel : decode (mBc 176) 249 = .ok (.iload_n 3, 1)) rfl rfl
theorem s176_250 : mSnd 176 250 (a_ii 251 (fun x y => x + y)) := snd_iadd (by decide +kernel : decode (mBc 176) 250 = .ok (.iadd, 1)) rfl
theorem s176_251 : mSnd 176 251 (a_lald 252) := snd_lald (by decide +kernel : decode (mBc 176) 251 = .ok (.laload, 1)) rfl
theorem s176_252 : mSnd 176 252 (a_l 253 (fun x => -x)) := snd_lneg (by decide +kernel : decode (mBc 176) 252 = .ok (.lneg, 1)) rfl
theorem s176_253 : mSnd 176 253 (a_last 254) := snd_last (by decide +kernel : decode (mBc 176) 253 = .ok (.lastore, 1)) rfl
theorem s176_254 : mSnd 176 254 (a_aload 255 0) := snd_aload_n (by decide +kernel : decode (mBc 176) 254 = .ok (.aload_n 0, 1)) rfl rfl
theorem s176_255 : mSnd 176 255 (a_getf 258 4 [10]) := snd_getf f31 q906 (Or.inl rfl) (by decide +kernel : decode (mBc 176) 255 = .ok (.getfield 24, 3)) rfl
theorem s176_258 : mSnd 176 258 (a_push 259 (.int (iZ 5))) := snd_iconst (by decide +kernel : decode (mBc 176) 258 = .ok (.iconst 5, 1)) rfl rfl
theorem s176_259 : mSnd 176 259 (a_iload 260 3) := snd_iload_n (by decide +kernel : decode (mBc 176) 259 = .ok (.iload_n 3, 1)) rfl rfl
theorem s176_260 : mSnd 176 260 (a_ii 261 (fun x y => x * y)) := snd_imul (by decide +kernel : decode (mBc 176) 260 = .ok (.imul, 1)) rfl
theorem s176_261 : mSnd 176 261 (a_push 262 (.int (iZ 4))) := snd_iconst (by decide +kernel : decode (mBc 176) 261 = .ok (.iconst 4, 1)) rfl rfl
theorem s176_262 : mSnd 176 262 (a_ii 263 (fun x y => x + y)) := snd_iadd (by decide +kernel : decode (mBc 176) 262 = .ok (.iadd, 1)) rfl
theorem s176_263 : mSnd 176 263 (a_aload 264 0) := snd_aload_n (by decide +kernel : decode (mBc 176) 263 = .ok (.aload_n 0, 1)) rfl rfl
theorem s176_264 : mSnd 176 264 (a_getf 267 4 [10]) := snd_getf f31 q906 (Or.inl rfl) (by decide +kernel : decode (mBc 176) 264 = .ok (.getfield 24, 3)) rfl
theorem s176_267 : mSnd 176 267 (a_push 268 (.int (iZ 5))) := snd_iconst (by decide +kernel : decode (mBc 176) 267 = .ok (.iconst 5, 1)) rfl rfl
theorem s176_268 : mSnd 176 268 (a_iload 269 3) := snd_iload_n (by decide +kernel : decode (mBc 176) 268 = .ok (.iload_n 3, 1)) rfl rfl
theorem s176_269 : mSnd 176 269 (a_ii 270 (fun x y => x * y)) := snd_imul (by decide +kernel : decode (mBc 176) 269 = .ok (.imul, 1)) rfl
theorem s176_270 : mSnd 176 270 (a_push 271 (.int (iZ 4))) := snd_iconst (by decide +kernel : decode (mBc 176) 270 = .ok (.iconst 4, 1)) rfl rfl
theorem s176_271 : mSnd 176 271 (a_ii 272 (fun x y => x + y)) := snd_iadd (by decide +kernel : decode (mBc 176) 271 = .ok (.iadd, 1)) rfl
theorem s176_272 : mSnd 176 272 (a_lald 273) := snd_lald (by decide +kernel : decode (mBc 176) 272 = .ok (.laload, 1)) rfl
theorem s176_273 : mSnd 176 273 (a_l 274 (fun x => -x)) := snd_lneg (by decide +kernel : decode (mBc 176) 273 = .ok (.lneg, 1)) rfl
theorem s176_274 : mSnd 176 274 (a_last 275) := snd_last (by decide +kernel : decode (mBc 176) 274 = .ok (.lastore, 1)) rfl
theorem s176_275 : mSnd 176 275 (a_iinc 278 3 (iZ 1)) := snd_iinc (by decide +kernel : decode (mBc 176) 275 = .ok (.iinc 3 1, 3)) rfl (by decide) rfl
theorem s176_278 : mSnd 176 278 (a_goto 210) := snd_goto (by decide +kernel : decode (mBc 176) 278 = .ok (.goto (-68), 3)) rfl
theorem s176_281 : mSnd 176 281 (a_push 282 (.int (iZ 1))) := snd_iconst (by decide +kernel : decode (mBc 176) 281 = .ok (.iconst 1, 1)) rfl rfl
theorem s176_282 : mSnd 176 282 (a_zret 0 0) := snd_zret rfl rfl rfl (by decide +kernel : decode (mBc 176) 282 = .ok (.ireturn, 1))
theorem ok176 : mOkl2 176 ct176 := ⟨⟨s176_0, s176_1, s176_2, s176_3, s176_4, s176_7, s176_8, s176_10, s176_12, s176_13, s176_16, s176_17, trivial⟩, ⟨s176_20, s176_21, s176_23, s176_24, s176_25, s176_26, s176_27, s176_28, s176_29, s176_32, s176_35, s176_38, trivial⟩, ⟨s176_40, s176_41, s176_44, s176_45, s176_46, s176_47, s176_48, s176_50, s176_53, s176_54, s176_56, s176_58, trivial⟩, ⟨s176_59, s176_62, s176_63, s176_66, s176_67, s176_69, s176_70, s176_71, s176_72, s176_73, s176_75, s176_77, trivial⟩, ⟨s176_78, s176_81, s176_83, s176_84, s176_85, s176_88, s176_91, s176_92, s176_95, s176_96, s176_97, s176_98, trivial⟩, ⟨s176_99, s176_100, s176_101, s176_103, s176_104, s176_106, s176_108, s176_109, s176_112, s176_113, s176_116, s176_117, trivial⟩, ⟨s176_119, s176_120, s176_122, s176_123, s176_124, s176_127, s176_128, s176_130, s176_131, s176_133, s176_134, s176_135, trivial⟩, ⟨s176_137, s176_138, s176_139, s176_142, s176_143, s176_144, s176_145, s176_147, s176_148, s176_149, s176_151, s176_152, trivial⟩, ⟨s176_153, s176_154, s176_157, s176_160, s176_161, s176_163, s176_166, s176_169, s176_172, s176_175, s176_178, s176_179, trivial⟩, ⟨s176_180, s176_181, s176_182, s176_185, s176_186, s176_189, s176_190, s176_191, s176_192, s176_193, s176_194, s176_195, trivial⟩, ⟨s176_196, s176_197, s176_200, s176_201, s176_202, s176_205, s176_208, s176_209, s176_210, s176_211, s176_212, s176_215, trivial⟩, ⟨s176_216, s176_219, s176_220, s176_221, s176_222, s176_223, s176_224, s176_225, s176_226, s176_227, s176_230, s176_233, trivial⟩, ⟨s176_234, s176_237, s176_238, s176_239, s176_240, s176_241, s176_242, s176_243, s176_246, s176_247, s176_248, s176_249, trivial⟩, ⟨s176_250, s176_251, s176_252, s176_253, s176_254, s176_255, s176_258, s176_259, s176_260, s176_261, s176_262, s176_263, trivial⟩, ⟨s176_264, s176_267, s176_268, s176_269, s176_270, s176_271, s176_272, s176_273, s176_274, s176_275, s176_278, s176_281, trivial⟩, ⟨s176_282, trivial⟩, trivial⟩
theorem s177_0 : mSnd 177 0 (a_push 1 (.int (iZ 0))) := snd_iconst (by decide +kernel : decode (mBc 177) 0 = .ok (.iconst 0, 1)) rfl rfl
theorem s177_1 : mSnd 177 1 (a_istore 2 1) := snd_istore_n (by decide +kernel : decode (mBc 177) 1 = .ok (.istore_n 1, 1)) rfl (by decide) rfl
theorem s177_2 : mSnd 177 2 (a_iload 3 1) := snd_iload_n (by decide +kernel : decode (mBc 177) 2 = .ok (.iload_n 1, 1)) rfl rfl
theorem s177_3 : mSnd 177 3 (a_push 5 (.int (iZ 20))) := snd_bipush (by decide +kernel : decode (mBc 177) 3 = .ok (.bipush 20, 2)) (by decide +kernel) rfl
theorem s177_5 : mSnd 177 5 (a_icmp 8 21 (fun x y => decide (y ≤ x))) := snd_icmp_ge (by decide +kernel : decode (mBc 177) 5 = .ok (.if_icmp .ge 16, 3)) rfl rfl
theorem s177_8 : mSnd 177 8 (a_aload 9 0) := snd_aload_n (by decide +kernel : decode (mBc 177) 8 = .ok (.aload_n 0, 1)) rfl rfl
theorem s177_9 : mSnd 177 9 (a_getf 12 4 [10]) := snd_getf f31 q906 (Or.inl rfl) (by decide +kernel : decode (mBc 177) 9 = .ok (.getfield 24, 3)) rfl
theorem s177_12 : mSnd 177 12 (a_iload 13 1) := snd_iload_n (by decide +kernel : decode (mBc 177) 12 = .ok (.iload_n 1, 1)) rfl rfl
theorem s177_13 : mSnd 177 13 (a_push 14 (.long (lZ 0))) := snd_lconst (by decide +kernel : decode (mBc 177) 13 = .ok (.lconst 0, 1)) (by decide +kernel) rfl
theorem s177_14 : mSnd 177 14 (a_last 15) := snd_last (by decide +kernel : decode (mBc 177) 14 = .ok (.lastore, 1)) rfl
theorem s177_15 : mSnd 177 15 (a_iinc 18 1 (iZ 1)) := snd_iinc (by decide +kernel : decode (mBc 177) 15 = .ok (.iinc 1 1, 3)) rfl (by decide) rfl
theorem s177_18 : mSnd 177 18 (a_goto 2) := snd_goto (by decide +kernel : decode (mBc 177) 18 = .ok (.goto (-16), 3)) rfl
theorem s177_21 : mSnd 177 21 (a_vret 0 0) := snd_vret rfl rfl rfl (by decide +kernel : decode (mBc 177) 21 = .ok (.return_, 1))
theorem ok177 : mOkl2 177 ct177 := ⟨⟨s177_0, s177_1, s177_2, s177_3, s177_5, s177_8, s177_9, s177_12, s177_13, s177_14, s177_15, s177_18, trivial⟩, ⟨s177_21, trivial⟩, trivial⟩
theorem s178_0 : mSnd 178 0 (a_push 1 (.int (iZ 0))) := snd_iconst (by decide +kernel : decode (mBc 178) 0 = .ok (.iconst 0, 1)) rfl rfl
theorem s178_1 : mSnd 178 1 (a_istore 3 4) := snd_istore (by decide +kernel : decode (mBc 178) 1 = .ok (.istore 4, 2)) (by decide) rfl
theorem s178_3 : mSnd 178 3 (a_iload 5 4) := snd_iload (by decide +kernel : decode (mBc 178) 3 = .ok (.iload 4, 2)) rfl
theorem s178_5 : mSnd 178 5 (a_aload 6 0) := snd_aload_n (by decide +kernel : decode (mBc 178) 5 = .ok (.aload_n 0, 1)) rfl rfl
theorem s178_6 : mSnd 178 6 (a_getf 9 2 [10]) := snd_getf f29 q904 (Or.inl rfl) (by decide +kernel : decode (mBc 178) 6 = .ok (.getfield 17, 3)) rfl
theorem s178_9 : mSnd 178 9 (a_iload 10 2) := snd_iload_n (by decide +kernel : decode (mBc 178) 9 = .ok (.iload_n 2, 1)) rfl rfl
theorem s178_10 : mSnd 178 10 (a_iald 11) := snd_iald (by decide +kernel : decode (mBc 178) 10 = .ok (.iaload, 1)) rfl
theorem s178_11 : mSnd 178 11 (a_icmp 14 38 (fun x y => decide (y ≤ x))) := snd_icmp_ge (by decide +kernel : decode (mBc 178) 11 = .ok (.if_icmp .ge 27, 3)) rfl rfl
theorem s178_14 : mSnd 178 14 (a_aload 15 0) := snd_aload_n (by decide +kernel : decode (mBc 178) 14 = .ok (.aload_n 0, 1)) rfl rfl
theorem s178_15 : mSnd 178 15 (a_getf 18 4 [10]) := snd_getf f31 q906 (Or.inl rfl) (by decide +kernel : decode (mBc 178) 15 = .ok (.getfield 24, 3)) rfl
theorem s178_18 : mSnd 178 18 (a_push 19 (.int (iZ 5))) := snd_iconst (by decide +kernel : decode (mBc 178) 18 = .ok (.iconst 5, 1)) rfl rfl
theorem s178_19 : mSnd 178 19 (a_iload 20 1) := snd_iload_n (by decide +kernel : decode (mBc 178) 19 = .ok (.iload_n 1, 1)) rfl rfl
theorem s178_20 : mSnd 178 20 (a_ii 21 (fun x y => x * y)) := snd_imul (by decide +kernel : decode (mBc 178) 20 = .ok (.imul, 1)) rfl
theorem s178_21 : mSnd 178 21 (a_iload 23 4) := snd_iload (by decide +kernel : decode (mBc 178) 21 = .ok (.iload 4, 2)) rfl
theorem s178_23 : mSnd 178 23 (a_ii 24 (fun x y => x + y)) := snd_iadd (by decide +kernel : decode (mBc 178) 23 = .ok (.iadd, 1)) rfl
theorem s178_24 : mSnd 178 24 (a_iload 25 3) := snd_iload_n (by decide +kernel : decode (mBc 178) 24 = .ok (.iload_n 3, 1)) rfl rfl
theorem s178_25 : mSnd 178 25 (a_iload 27 4) := snd_iload (by decide +kernel : decode (mBc 178) 25 = .ok (.iload 4, 2)) rfl
theorem s178_27 : mSnd 178 27 (a_ii 28 (fun x y => x >>> (y &&& 31))) := snd_ishr (by decide +kernel : decode (mBc 178) 27 = .ok (.ishr, 1)) rfl
theorem s178_28 : mSnd 178 28 (a_push 29 (.int (iZ 1))) := snd_iconst (by decide +kernel : decode (mBc 178) 28 = .ok (.iconst 1, 1)) rfl rfl
theorem s178_29 : mSnd 178 29 (a_ii 30 (fun x y => x &&& y)) := snd_iand (by decide +kernel : decode (mBc 178) 29 = .ok (.iand, 1)) rfl
theorem s178_30 : mSnd 178 30 (a_i2l 31) := snd_i2l (by decide +kernel : decode (mBc 178) 30 = .ok (.i2l, 1)) rfl
theorem s178_31 : mSnd 178 31 (a_last 32) := snd_last (by decide +kernel : decode (mBc 178) 31 = .ok (.lastore, 1)) rfl
theorem s178_32 : mSnd 178 32 (a_iinc 35 4 (iZ 1)) := snd_iinc (by decide +kernel : decode (mBc 178) 32 = .ok (.iinc 4 1, 3)) rfl (by decide) rfl
theorem s178_35 : mSnd 178 35 (a_goto 3) := snd_goto (by decide +kernel : decode (mBc 178) 35 = .ok (.goto (-32), 3)) rfl
theorem s178_38 : mSnd 178 38 (a_aload 39 0) := snd_aload_n (by decide +kernel : decode (mBc 178) 38 = .ok (.aload_n 0, 1)) rfl rfl
theorem s178_39 : mSnd 178 39 (a_getf 42 4 [10]) := snd_getf f31 q906 (Or.inl rfl) (by decide +kernel : decode (mBc 178) 39 = .ok (.getfield 24, 3)) rfl
theorem s178_42 : mSnd 178 42 (a_push 43 (.int (iZ 5))) := snd_iconst (by decide +kernel : decode (mBc 178) 42 = .ok (.iconst 5, 1)) rfl rfl
theorem s178_43 : mSnd 178 43 (a_iload 44 1) := snd_iload_n (by decide +kernel : decode (mBc 178) 43 = .ok (.iload_n 1, 1)) rfl rfl
theorem s178_44 : mSnd 178 44 (a_ii 45 (fun x y => x * y)) := snd_imul (by decide +kernel : decode (mBc 178) 44 = .ok (.imul, 1)) rfl
theorem s178_45 : mSnd 178 45 (a_push 46 (.int (iZ 4))) := snd_iconst (by decide +kernel : decode (mBc 178) 45 = .ok (.iconst 4, 1)) rfl rfl
theorem s178_46 : mSnd 178 46 (a_ii 47 (fun x y => x + y)) := snd_iadd (by decide +kernel : decode (mBc 178) 46 = .ok (.iadd, 1)) rfl
theorem s178_47 : mSnd 178 47 (a_aload 48 0) := snd_aload_n (by decide +kernel : decode (mBc 178) 47 = .ok (.aload_n 0, 1)) rfl rfl
theorem s178_48 : mSnd 178 48 (a_iload 49 2) := snd_iload_n (by decide +kernel : decode (mBc 178) 48 = .ok (.iload_n 2, 1)) rfl rfl
theorem s178_49 : mSnd 178 49 (a_iload 50 3) := snd_iload_n (by decide +kernel : decode (mBc 178) 49 = .ok (.iload_n 3, 1)) rfl rfl
theorem s178_50 : mSnd 178 50 (a_invV 53 2 0 0 [(10, 144, 0, 0)]) := snd_invV v178_106 rfl rfl (by decide +kernel : decode (mBc 178) 50 = .ok (.invokevirtual 106, 3)) rfl
theorem s178_53 : mSnd 178 53 (a_last 54) := snd_last (by decide +kernel : decode (mBc 178) 53 = .ok (.lastore, 1)) rfl
theorem s178_54 : mSnd 178 54 (a_vret 0 0) := snd_vret rfl rfl rfl (by decide +kernel : decode (mBc 178) 54 = .ok (.return_, 1))
theorem ok178 : mOkl2 178 ct178 := ⟨⟨s178_0, s178_1, s178_3, s178_5, s178_6, s178_9, s178_10, s178_11, s178_14, s178_15, s178_18, s178_19, trivial⟩, ⟨s178_20, s178_21, s178_23, s178_24, s178_25, s178_27, s178_28, s178_29, s178_30, s178_31, s178_32, s178_35, trivial⟩, ⟨s178_38, s178_39, s178_42, s178_43, s178_44, s178_45, s178_46, s178_47, s178_48, s178_49, s178_50, s178_53, trivial⟩, ⟨s178_54, trivial⟩, trivial⟩
