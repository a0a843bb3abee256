theorem s13_0 : mSnd 13 0 (a_push 1 (.int (iZ 0))) := snd_iconst (by decide +kernel : decode (mBc 13) 0 = .ok (.iconst 0, 1)) rfl rfl
theorem s13_1 : mSnd 13 1 (a_istore 2 2) := snd_istore_n (by decide +kernel : decode (mBc 13) 1 = .ok (.istore_n 2, 1)) rfl (by decide) rfl
theorem s13_2 : mSnd 13 2 (a_iload 3 2) := snd_iload_n (by decide +kernel : decode (mBc 13) 2 = .ok (.iload_n 2, 1)) rfl rfl
theorem s13_3 : mSnd 13 3 (a_push 4 (.int (iZ 4))) := snd_iconst (by decide +kernel : decode (mBc 13) 3 = .ok (.iconst 4, 1)) rfl rfl
theorem s13_4 : mSnd 13 4 (a_icmp 7 35 (fun x y => decide (y ≤ x))) := snd_icmp_ge (by decide +kernel : decode (mBc 13) 4 = .ok (.if_icmp .ge 31, 3)) rfl rfl
theorem s13_7 : mSnd 13 7 (a_aload 8 0) := snd_aload_n (by decide +kernel : decode (mBc 13) 7 = .ok (.aload_n 0, 1)) rfl rfl
theorem s13_8 : mSnd 13 8 (a_getf 11 2 [0]) := snd_getf f2 q101 (Or.inl rfl) (by decide +kernel : decode (mBc 13) 8 = .ok (.getfield 19, 3)) rfl
theorem s13_11 : mSnd 13 11 (a_iload 12 2) := snd_iload_n (by decide +kernel : decode (mBc 13) 11 = .ok (.iload_n 2, 1)) rfl rfl
theorem s13_12 : mSnd 13 12 (a_iald 13) := snd_iald (by decide +kernel : decode (mBc 13) 12 = .ok (.iaload, 1)) rfl
theorem s13_13 : mSnd 13 13 (a_aload 14 0) := snd_aload_n (by decide +kernel : decode (mBc 13) 13 = .ok (.aload_n 0, 1)) rfl rfl
theorem s13_14 : mSnd 13 14 (a_iload 15 1) := snd_iload_n (by decide +kernel : decode (mBc 13) 14 = .ok (.iload_n 1, 1)) rfl rfl
theorem s13_15 : mSnd 13 15 (a_iload 16 2) := snd_iload_n (by decide +kernel : decode (mBc 13) 15 = .ok (.iload_n 2, 1)) rfl rfl
theorem s13_16 : mSnd 13 16 (a_invV 19 2 0 0 [(0, 1, 0, 0)]) := snd_invV v13_34 rfl rfl (by decide +kernel : decode (mBc 13) 16 = .ok (.invokevirtual 34, 3)) rfl
theorem s13_19 : mSnd 13 19 (a_invS 22 216 2 0 0 0 0) := snd_invS k13_216 rfl rfl q446 q447 q11 (by decide +kernel) (by decide +kernel : decode (mBc 13) 19 = .ok (.invokestatic 104, 3)) rfl
theorem s13_22 : mSnd 13 22 (a_istore 23 3) := snd_istore_n (by decide +kernel : decode (mBc 13) 22 = .ok (.istore_n 3, 1)) rfl (by decide) rfl
theorem s13_23 : mSnd 13 23 (a_iload 24 3) := snd_iload_n (by decide +kernel : decode (mBc 13) 23 = .ok (.iload_n 3, 1)) rfl rfl
theorem s13_24 : mSnd 13 24 (a_if 27 29 (fun x => decide (x = 0))) := snd_if_eq (by decide +kernel : decode (mBc 13) 24 = .ok (.ifCond .eq 5, 3)) rfl rfl
theorem s13_27 : mSnd 13 27 (a_iload 28 3) := snd_iload_n (by decide +kernel : decode (mBc 13) 27 = .ok (.iload_n 3, 1)) rfl rfl
theorem s13_28 : mSnd 13 28 (a_iret 0 0) := snd_iret rfl rfl rfl (by decide +kernel : decode (mBc 13) 28 = .ok (.ireturn, 1))
theorem s13_29 : mSnd 13 29 (a_iinc 32 2 (iZ 1)) := snd_iinc (by decide +kernel : decode (mBc 13) 29 = .ok (.iinc 2 1, 3)) rfl (by decide) rfl
theorem s13_32 : mSnd 13 32 (a_goto 2) := snd_goto (by decide +kernel : decode (mBc 13) 32 = .ok (.goto (-30), 3)) rfl
theorem s13_35 : mSnd 13 35 (a_push 36 (.int (iZ 0))) := snd_iconst (by decide +kernel : decode (mBc 13) 35 = .ok (.iconst 0, 1)) rfl rfl
theorem s13_36 : mSnd 13 36 (a_iret 0 0) := snd_iret rfl rfl rfl (by decide +kernel : decode (mBc 13) 36 = .ok (.ireturn, 1))
theorem ok13 : mOkl2 13 ct13 := ⟨⟨s13_0, s13_1, s13_2, s13_3, s13_4, s13_7, s13_8, s13_11, s13_12, s13_13, s13_14, s13_15, trivial⟩, ⟨s13_16, s13_19, s13_22, s13_23, s13_24, s13_27, s13_28, s13_29, s13_32, s13_35, s13_36, trivial⟩, trivial⟩
theorem s14_0 : mSnd 14 0 (a_aload 1 0) := snd_aload_n (by decide +kernel : decode (mBc 14) 0 = .ok (.aload_n 0, 1)) rfl rfl
theorem s14_1 : mSnd 14 1 (a_iload 2 1) := snd_iload_n (by decide +kernel : decode (mBc 14) 1 = .ok (.iload_n 1, 1)) rfl rfl
theorem s14_2 : mSnd 14 2 (a_iload 3 2) := snd_iload_n (by decide +kernel : decode (mBc 14) 2 = .ok (.iload_n 2, 1)) rfl rfl
theorem s14_3 : mSnd 14 3 (a_invI 6 37 2 8 152 8 152) := snd_invI k14_37 rfl rfl rfl rfl q281 q89 q5 (by decide +kernel) (by decide +kernel : decode (mBc 14) 3 = .ok (.invokespecial 3, 3)) rfl
theorem s14_6 : mSnd 14 6 (a_push 7 (.int (iZ 1))) := snd_iconst (by decide +kernel : decode (mBc 14) 6 = .ok (.iconst 1, 1)) rfl rfl
theorem s14_7 : mSnd 14 7 (a_istore 9 4) := snd_istore (by decide +kernel : decode (mBc 14) 7 = .ok (.istore 4, 2)) (by decide) rfl
theorem s14_9 : mSnd 14 9 (a_iload 11 4) := snd_iload (by decide +kernel : decode (mBc 14) 9 = .ok (.iload 4, 2)) rfl
theorem s14_11 : mSnd 14 11 (a_aload 12 0) := snd_aload_n (by decide +kernel : decode (mBc 14) 11 = .ok (.aload_n 0, 1)) rfl rfl
theorem s14_12 : mSnd 14 12 (a_invV 15 0 8 152 [(1, 42, 0, 0)]) := snd_invV v14_9 rfl rfl (by decide +kernel : decode (mBc 14) 12 = .ok (.invokevirtual 9, 3)) rfl
theorem s14_15 : mSnd 14 15 (a_icmp 18 49 (fun x y => decide (y < x))) := snd_icmp_gt (by decide +kernel : decode (mBc 14) 15 = .ok (.if_icmp .gt 34, 3)) rfl rfl
theorem s14_18 : mSnd 14 18 (a_aload 19 0) := snd_aload_n (by decide +kernel : decode (mBc 14) 18 = .ok (.aload_n 0, 1)) rfl rfl
theorem s14_19 : mSnd 14 19 (a_iload 21 4) := snd_iload (by decide +kernel : decode (mBc 14) 19 = .ok (.iload 4, 2)) rfl
theorem s14_21 : mSnd 14 21 (a_iload 23 4) := snd_iload (by decide +kernel : decode (mBc 14) 21 = .ok (.iload 4, 2)) rfl
theorem s14_23 : mSnd 14 23 (a_iload 24 3) := snd_iload_n (by decide +kernel : decode (mBc 14) 23 = .ok (.iload_n 3, 1)) rfl rfl
theorem s14_24 : mSnd 14 24 (a_ii 25 (fun x y => x &&& y)) := snd_iand (by decide +kernel : decode (mBc 14) 24 = .ok (.iand, 1)) rfl
theorem s14_25 : mSnd 14 25 (a_invS 28 217 1 8 152 0 0) := snd_invS k14_217 rfl rfl q285 q286 q11 (by decide +kernel) (by decide +kernel : decode (mBc 14) 25 = .ok (.invokestatic 15, 3)) rfl
theorem s14_28 : mSnd 14 28 (a_iload 30 4) := snd_iload (by decide +kernel : decode (mBc 14) 28 = .ok (.iload 4, 2)) rfl
theorem s14_30 : mSnd 14 30 (a_iload 31 3) := snd_iload_n (by decide +kernel : decode (mBc 14) 30 = .ok (.iload_n 3, 1)) rfl rfl
theorem s14_31 : mSnd 14 31 (a_push 32 (.int (iZ (-1)))) := snd_iconst (by decide +kernel : decode (mBc 14) 31 = .ok (.iconst (-1), 1)) rfl rfl
theorem s14_32 : mSnd 14 32 (a_ii 33 (fun x y => x ^^^ y)) := snd_ixor (by decide +kernel : decode (mBc 14) 32 = .ok (.ixor, 1)) rfl
theorem s14_33 : mSnd 14 33 (a_ii 34 (fun x y => x &&& y)) := snd_iand (by decide +kernel : decode (mBc 14) 33 = .ok (.iand, 1)) rfl
theorem s14_34 : mSnd 14 34 (a_invS 37 217 1 8 152 0 0) := snd_invS k14_217 rfl rfl q285 q286 q11 (by decide +kernel) (by decide +kernel : decode (mBc 14) 34 = .ok (.invokestatic 15, 3)) rfl
theorem s14_37 : mSnd 14 37 (a_invS 40 220 2 8 152 0 0) := snd_invS k14_220 rfl rfl q291 q292 q9 (by decide +kernel) (by decide +kernel : decode (mBc 14) 37 = .ok (.invokestatic 21, 3)) rfl
theorem s14_40 : mSnd 14 40 (a_invV 43 2 8 152 [(1, 48, 0, 0)]) := snd_invV v14_27 rfl rfl (by decide +kernel : decode (mBc 14) 40 = .ok (.invokevirtual 27, 3)) rfl
theorem s14_43 : mSnd 14 43 (a_iinc 46 4 (iZ 1)) := snd_iinc (by decide +kernel : decode (mBc 14) 43 = .ok (.iinc 4 1, 3)) rfl (by decide) rfl
theorem s14_46 : mSnd 14 46 (a_goto 9) := snd_goto (by decide +kernel : decode (mBc 14) 46 = .ok (.goto (-37), 3)) rfl
theorem s14_49 : mSnd 14 49 (a_vret 8 152) := snd_vret rfl rfl rfl (by decide +kernel : decode (mBc 14) 49 = .ok (.return_, 1))
theorem ok14 : mOkl2 14 ct14 := ⟨⟨s14_0, s14_1, s14_2, s14_3, s14_6, s14_7, s14_9, s14_11, s14_12, s14_15, s14_18, s14_19, trivial⟩, ⟨s14_21, s14_23, s14_24, s14_25, s14_28, s14_30, s14_31, s14_32, s14_33, s14_34, s14_37, s14_40, trivial⟩, ⟨s14_43, s14_46, s14_49, trivial⟩, trivial⟩
theorem s15_0 : mSnd 15 0 (a_push 1 (.int (iZ 3))) := snd_iconst (by decide +kernel : decode (mBc 15) 0 = .ok (.iconst 3, 1)) rfl rfl
theorem s15_1 : mSnd 15 1 (a_iret 0 0) := snd_iret rfl rfl rfl (by decide +kernel : decode (mBc 15) 1 = .ok (.ireturn, 1))
theorem ok15 : mOkl2 15 ct15 := ⟨⟨s15_0, s15_1, trivial⟩, trivial⟩
theorem s16_0 : mSnd 16 0 (a_aload 1 2) := snd_aload_n (by decide +kernel : decode (mBc 16) 0 = .ok (.aload_n 2, 1)) rfl rfl
theorem s16_1 : mSnd 16 1 (a_push 3 (.int (iZ 40))) := snd_bipush (by decide +kernel : decode (mBc 16) 1 = .ok (.bipush 40, 2)) (by decide +kernel) rfl
theorem s16_3 : mSnd 16 3 (a_invV 6 1 0 0 [(7, 71, 0, 0)]) := snd_invV v16_30 rfl rfl (by decide +kernel : decode (mBc 16) 3 = .ok (.invokevirtual 30, 3)) rfl
theorem s16_6 : mSnd 16 6 (a_aload 7 0) := snd_aload_n (by decide +kernel : decode (mBc 16) 6 = .ok (.aload_n 0, 1)) rfl rfl
theorem s16_7 : mSnd 16 7 (a_iload 8 1) := snd_iload_n (by decide +kernel : decode (mBc 16) 7 = .ok (.iload_n 1, 1)) rfl rfl
theorem s16_8 : mSnd 16 8 (a_aload 9 2) := snd_aload_n (by decide +kernel : decode (mBc 16) 8 = .ok (.aload_n 2, 1)) rfl rfl
theorem s16_9 : mSnd 16 9 (a_invV 12 2 0 0 [(1, 39, 0, 0)]) := snd_invV v16_36 rfl rfl (by decide +kernel : decode (mBc 16) 9 = .ok (.invokevirtual 36, 3)) rfl
theorem s16_12 : mSnd 16 12 (a_istore 13 3) := snd_istore_n (by decide +kernel : decode (mBc 16) 12 = .ok (.istore_n 3, 1)) rfl (by decide) rfl
theorem s16_13 : mSnd 16 13 (a_iload 14 3) := snd_iload_n (by decide +kernel : decode (mBc 16) 13 = .ok (.iload_n 3, 1)) rfl rfl
theorem s16_14 : mSnd 16 14 (a_aload 15 0) := snd_aload_n (by decide +kernel : decode (mBc 16) 14 = .ok (.aload_n 0, 1)) rfl rfl
theorem s16_15 : mSnd 16 15 (a_iload 16 1) := snd_iload_n (by decide +kernel : decode (mBc 16) 15 = .ok (.iload_n 1, 1)) rfl rfl
theorem s16_16 : mSnd 16 16 (a_push 17 (.int (iZ 1))) := snd_iconst (by decide +kernel : decode (mBc 16) 16 = .ok (.iconst 1, 1)) rfl rfl
theorem s16_17 : mSnd 16 17 (a_ii 18 (fun x y => x + y)) := snd_iadd (by decide +kernel : decode (mBc 16) 17 = .ok (.iadd, 1)) rfl
theorem s16_18 : mSnd 16 18 (a_aload 19 2) := snd_aload_n (by decide +kernel : decode (mBc 16) 18 = .ok (.aload_n 2, 1)) rfl rfl
theorem s16_19 : mSnd 16 19 (a_invV 22 2 0 0 [(1, 41, 0, 0)]) := snd_invU u16_40 rfl rfl (by decide +kernel : decode (mBc 16) 19 = .ok (.invokespecial 40, 3)) rfl
theorem s16_22 : mSnd 16 22 (a_ii 23 (fun x y => x - y)) := snd_isub (by decide +kernel : decode (mBc 16) 22 = .ok (.isub, 1)) rfl
theorem s16_23 : mSnd 16 23 (a_iret 0 0) := snd_iret rfl rfl rfl (by decide +kernel : decode (mBc 16) 23 = .ok (.ireturn, 1))
theorem ok16 : mOkl2 16 ct16 := ⟨⟨s16_0, s16_1, s16_3, s16_6, s16_7, s16_8, s16_9, s16_12, s16_13, s16_14, s16_15, s16_16, trivial⟩, ⟨s16_17, s16_18, s16_19, s16_22, s16_23, trivial⟩, trivial⟩
theorem s17_0 : mSnd 17 0 (a_aload 1 0) := snd_aload_n (by decide +kernel : decode (mBc 17) 0 = .ok (.aload_n 0, 1)) rfl rfl
theorem s17_1 : mSnd 17 1 (a_iload 2 1) := snd_iload_n (by decide +kernel : decode (mBc 17) 1 = .ok (.iload_n 1, 1)) rfl rfl
theorem s17_2 : mSnd 17 2 (a_iload 3 2) := snd_iload_n (by decide +kernel : decode (mBc 17) 2 = .ok (.iload_n 2, 1)) rfl rfl
theorem s17_3 : mSnd 17 3 (a_invI 6 37 2 8 152 8 152) := snd_invI k17_37 rfl rfl rfl rfl q329 q89 q5 (by decide +kernel) (by decide +kernel : decode (mBc 17) 3 = .ok (.invokespecial 3, 3)) rfl
theorem s17_6 : mSnd 17 6 (a_vret 8 152) := snd_vret rfl rfl rfl (by decide +kernel : decode (mBc 17) 6 = .ok (.return_, 1))
theorem ok17 : mOkl2 17 ct17 := ⟨⟨s17_0, s17_1, s17_2, s17_3, s17_6, trivial⟩, trivial⟩
theorem s18_0 : mSnd 18 0 (a_push 1 (.int (iZ 4))) := snd_iconst (by decide +kernel : decode (mBc 18) 0 = .ok (.iconst 4, 1)) rfl rfl
theorem s18_1 : mSnd 18 1 (a_iret 0 0) := snd_iret rfl rfl rfl (by decide +kernel : decode (mBc 18) 1 = .ok (.ireturn, 1))
theorem ok18 : mOkl2 18 ct18 := ⟨⟨s18_0, s18_1, trivial⟩, trivial⟩
theorem s19_0 : mSnd 19 0 (a_aload 1 2) := snd_aload_n (by decide +kernel : decode (mBc 19) 0 = .ok (.aload_n 2, 1)) rfl rfl
theorem s19_1 : mSnd 19 1 (a_push 3 (.int (iZ 50))) := snd_bipush (by decide +kernel : decode (mBc 19) 1 = .ok (.bipush 50, 2)) (by decide +kernel) rfl
theorem s19_3 : mSnd 19 3 (a_invV 6 1 0 0 [(7, 71, 0, 0)]) := snd_invV v19_9 rfl rfl (by decide +kernel : decode (mBc 19) 3 = .ok (.invokevirtual 9, 3)) rfl
theorem s19_6 : mSnd 19 6 (a_aload 7 0) := snd_aload_n (by decide +kernel : decode (mBc 19) 6 = .ok (.aload_n 0, 1)) rfl rfl
theorem s19_7 : mSnd 19 7 (a_iload 8 1) := snd_iload_n (by decide +kernel : decode (mBc 19) 7 = .ok (.iload_n 1, 1)) rfl rfl
theorem s19_8 : mSnd 19 8 (a_aload 9 0) := snd_aload_n (by decide +kernel : decode (mBc 19) 8 = .ok (.aload_n 0, 1)) rfl rfl
theorem s19_9 : mSnd 19 9 (a_getf 12 1 [2]) := snd_getf f7 q126 (Or.inr q127) (by decide +kernel : decode (mBc 19) 9 = .ok (.getfield 15, 3)) rfl
theorem s19_12 : mSnd 19 12 (a_ii 13 (fun x y => x - y)) := snd_isub (by decide +kernel : decode (mBc 19) 12 = .ok (.isub, 1)) rfl
theorem s19_13 : mSnd 19 13 (a_aload 14 2) := snd_aload_n (by decide +kernel : decode (mBc 19) 13 = .ok (.aload_n 2, 1)) rfl rfl
theorem s19_14 : mSnd 19 14 (a_invV 17 2 0 0 [(2, 39, 0, 0)]) := snd_invU u19_21 rfl rfl (by decide +kernel : decode (mBc 19) 14 = .ok (.invokespecial 21, 3)) rfl
theorem s19_17 : mSnd 19 17 (a_iret 0 0) := snd_iret rfl rfl rfl (by decide +kernel : decode (mBc 19) 17 = .ok (.ireturn, 1))
theorem ok19 : mOkl2 19 ct19 := ⟨⟨s19_0, s19_1, s19_3, s19_6, s19_7, s19_8, s19_9, s19_12, s19_13, s19_14, s19_17, trivial⟩, trivial⟩
theorem s20_0 : mSnd 20 0 (a_aload 1 2) := snd_aload_n (by decide +kernel : decode (mBc 20) 0 = .ok (.aload_n 2, 1)) rfl rfl
theorem s20_1 : mSnd 20 1 (a_push 3 (.int (iZ 51))) := snd_bipush (by decide +kernel : decode (mBc 20) 1 = .ok (.bipush 51, 2)) (by decide +kernel) rfl
theorem s20_3 : mSnd 20 3 (a_invV 6 1 0 0 [(7, 71, 0, 0)]) := snd_invV v20_9 rfl rfl (by decide +kernel : decode (mBc 20) 3 = .ok (.invokevirtual 9, 3)) rfl
theorem s20_6 : mSnd 20 6 (a_aload 7 0) := snd_aload_n (by decide +kernel : decode (mBc 20) 6 = .ok (.aload_n 0, 1)) rfl rfl
theorem s20_7 : mSnd 20 7 (a_iload 8 1) := snd_iload_n (by decide +kernel : decode (mBc 20) 7 = .ok (.iload_n 1, 1)) rfl rfl
theorem s20_8 : mSnd 20 8 (a_aload 9 2) := snd_aload_n (by decide +kernel : decode (mBc 20) 8 = .ok (.aload_n 2, 1)) rfl rfl
theorem s20_9 : mSnd 20 9 (a_invV 12 2 0 0 [(2, 40, 0, 0)]) := snd_invU u20_25 rfl rfl (by decide +kernel : decode (mBc 20) 9 = .ok (.invokespecial 25, 3)) rfl
theorem s20_12 : mSnd 20 12 (a_istore 13 3) := snd_istore_n (by decide +kernel : decode (mBc 20) 12 = .ok (.istore_n 3, 1)) rfl (by decide) rfl
theorem s20_13 : mSnd 20 13 (a_iload 14 3) := snd_iload_n (by decide +kernel : decode (mBc 20) 13 = .ok (.iload_n 3, 1)) rfl rfl
theorem s20_14 : mSnd 20 14 (a_aload 15 0) := snd_aload_n (by decide +kernel : decode (mBc 20) 14 = .ok (.aload_n 0, 1)) rfl rfl
theorem s20_15 : mSnd 20 15 (a_iload 16 1) := snd_iload_n (by decide +kernel : decode (mBc 20) 15 = .ok (.iload_n 1, 1)) rfl rfl
theorem s20_16 : mSnd 20 16 (a_aload 17 2) := snd_aload_n (by decide +kernel : decode (mBc 20) 16 = .ok (.aload_n 2, 1)) rfl rfl
theorem s20_17 : mSnd 20 17 (a_invV 20 2 0 0 [(2, 39, 0, 0)]) := snd_invU u20_21 rfl rfl (by decide +kernel : decode (mBc 20) 17 = .ok (.invokespecial 21, 3)) rfl
theorem s20_20 : mSnd 20 20 (a_ii 21 (fun x y => x ^^^ y)) := snd_ixor (by decide +kernel : decode (mBc 20) 20 = .ok (.ixor, 1)) rfl
theorem s20_21 : mSnd 20 21 (a_iret 0 0) := snd_iret rfl rfl rfl (by decide +kernel : decode (mBc 20) 21 = .ok (.ireturn, 1))
theorem ok20 : mOkl2 20 ct20 := ⟨⟨s20_0, s20_1, s20_3, s20_6, s20_7, s20_8, s20_9, s20_12, s20_13, s20_14, s20_15, s20_16, trivial⟩, ⟨s20_17, s20_20, s20_21, trivial⟩, trivial⟩
theorem s21_0 : mSnd 21 0 (a_aload 1 0) := snd_aload_n (by decide +kernel : decode (mBc 21) 0 = .ok (.aload_n 0, 1)) rfl rfl
theorem s21_1 : mSnd 21 1 (a_obj 4) := snd_obj q30 q21 q22 (by decide) (by decide) (by decide +kernel : decode (mBc 21) 1 = .ok (.invokespecial 3, 3)) rfl
theorem s21_4 : mSnd 21 4 (a_aload 5 0) := snd_aload_n (by decide +kernel : decode (mBc 21) 4 = .ok (.aload_n 0, 1)) rfl rfl
theorem s21_5 : mSnd 21 5 (a_push 6 (.int (iZ 0))) := snd_iconst (by decide +kernel : decode (mBc 21) 5 = .ok (.iconst 0, 1)) rfl rfl
theorem s21_6 : mSnd 21 6 (a_putf 9 0 0 [3]) := snd_putf f8 (by decide +kernel) q31 (Or.inl rfl) (Or.inl rfl) (by decide +kernel : decode (mBc 21) 6 = .ok (.putfield 9, 3)) rfl
theorem s21_9 : mSnd 21 9 (a_aload 10 0) := snd_aload_n (by decide +kernel : decode (mBc 21) 9 = .ok (.aload_n 0, 1)) rfl rfl
theorem s21_10 : mSnd 21 10 (a_push 12 (.int (iZ 25))) := snd_bipush (by decide +kernel : decode (mBc 21) 10 = .ok (.bipush 25, 2)) (by decide +kernel) rfl
theorem s21_12 : mSnd 21 12 (a_newa 14 1 1 25) := snd_newl rfl rfl q39 (by decide +kernel : decode (mBc 21) 12 = .ok (.newarray .long, 2)) rfl
theorem s21_14 : mSnd 21 14 (a_putf 17 1 2 [3]) := snd_putf f9 (by decide +kernel) q33 (Or.inl rfl) (Or.inr ⟨rfl, rfl⟩) (by decide +kernel : decode (mBc 21) 14 = .ok (.putfield 15, 3)) rfl
theorem s21_17 : mSnd 21 17 (a_vret 1 25) := snd_vret rfl rfl rfl (by decide +kernel : decode (mBc 21) 17 = .ok (.return_, 1))
theorem ok21 : mOkl2 21 ct21 := ⟨⟨s21_0, s21_1, s21_4, s21_5, s21_6, s21_9, s21_10, s21_12, s21_14, s21_17, trivial⟩, trivial⟩
theorem s22_0 : mSnd 22 0 (a_aload 1 0) := snd_aload_n (by decide +kernel : decode (mBc 22) 0 = .ok (.aload_n 0, 1)) rfl rfl
theorem s22_1 : mSnd 22 1 (a_push 2 (.int (iZ 0))) := snd_iconst (by decide +kernel : decode (mBc 22) 1 = .ok (.iconst 0, 1)) rfl rfl
theorem s22_2 : mSnd 22 2 (a_putf 5 0 0 [3]) := snd_putf f8 (by decide +kernel) q31 (Or.inl rfl) (Or.inl rfl) (by decide +kernel : decode (mBc 22) 2 = .ok (.putfield 9, 3)) rfl
theorem s22_5 : mSnd 22 5 (a_push 6 (.int (iZ 1))) := snd_iconst (by decide +kernel : decode (mBc 22) 5 = .ok (.iconst 1, 1)) rfl rfl
theorem s22_6 : mSnd 22 6 (a_istore 7 2) := snd_istore_n (by decide +kernel : decode (mBc 22) 6 = .ok (.istore_n 2, 1)) rfl (by decide) rfl
theorem s22_7 : mSnd 22 7 (a_iload 8 2) := snd_iload_n (by decide +kernel : decode (mBc 22) 7 = .ok (.iload_n 2, 1)) rfl rfl
theorem s22_8 : mSnd 22 8 (a_aload 9 1) := snd_aload_n (by decide +kernel : decode (mBc 22) 8 = .ok (.aload_n 1, 1)) rfl rfl
theorem s22_9 : mSnd 22 9 (a_invV 12 0 0 0 [(1, 42, 0, 0), (2, 42, 0, 0), (4, 42, 0, 0), (6, 42, 0, 0), (8, 42, 0, 0)]) := snd_invV v22_19 rfl rfl (by decide +kernel : decode (mBc 22) 9 = .ok (.invokevirtual 19, 3)) rfl
theorem s22_12 : mSnd 22 12 (a_icmp 15 31 (fun x y => decide (y < x))) := snd_icmp_gt (by decide +kernel : decode (mBc 22) 12 = .ok (.if_icmp .gt 19, 3)) rfl rfl
theorem s22_15 : mSnd 22 15 (a_aload 16 0) := snd_aload_n (by decide +kernel : decode (mBc 22) 15 = .ok (.aload_n 0, 1)) rfl rfl
theorem s22_16 : mSnd 22 16 (a_aload 17 1) := snd_aload_n (by decide +kernel : decode (mBc 22) 16 = .ok (.aload_n 1, 1)) rfl rfl
theorem s22_17 : mSnd 22 17 (a_iload 18 2) := snd_iload_n (by decide +kernel : decode (mBc 22) 17 = .ok (.iload_n 2, 1)) rfl rfl
theorem s22_18 : mSnd 22 18 (a_invV 21 1 0 0 [(1, 46, 0, 0), (2, 46, 0, 0), (4, 46, 0, 0), (6, 46, 0, 0), (8, 46, 0, 0)]) := snd_invV v22_25 rfl rfl (by decide +kernel : decode (mBc 22) 18 = .ok (.invokevirtual 25, 3)) rfl
theorem s22_21 : mSnd 22 21 (a_i2l 22) := snd_i2l (by decide +kernel : decode (mBc 22) 21 = .ok (.i2l, 1)) rfl
theorem s22_22 : mSnd 22 22 (a_invV 25 1 0 0 [(3, 24, 0, 0)]) := snd_invV v22_29 rfl rfl (by decide +kernel : decode (mBc 22) 22 = .ok (.invokevirtual 29, 3)) rfl
theorem s22_25 : mSnd 22 25 (a_iinc 28 2 (iZ 1)) := snd_iinc (by decide +kernel : decode (mBc 22) 25 = .ok (.iinc 2 1, 3)) rfl (by decide) rfl
theorem s22_28 : mSnd 22 28 (a_goto 7) := snd_goto (by decide +kernel : decode (mBc 22) 28 = .ok (.goto (-21), 3)) rfl
theorem s22_31 : mSnd 22 31 (a_push 32 (.int (iZ 0))) := snd_iconst (by decide +kernel : decode (mBc 22) 31 = .ok (.iconst 0, 1)) rfl rfl
theorem s22_32 : mSnd 22 32 (a_istore 33 2) := snd_istore_n (by decide +kernel : decode (mBc 22) 32 = .ok (.istore_n 2, 1)) rfl (by decide) rfl
theorem s22_33 : mSnd 22 33 (a_iload 34 2) := snd_iload_n (by decide +kernel : decode (mBc 22) 33 = .ok (.iload_n 2, 1)) rfl rfl
theorem s22_34 : mSnd 22 34 (a_aload 35 1) := snd_aload_n (by decide +kernel : decode (mBc 22) 34 = .ok (.aload_n 1, 1)) rfl rfl
theorem s22_35 : mSnd 22 35 (a_getf 38 1 [1, 2, 4, 6, 8]) := snd_getf f10 q125 (Or.inl rfl) (by decide +kernel : decode (mBc 22) 35 = .ok (.getfield 33, 3)) rfl
theorem s22_38 : mSnd 22 38 (a_icmp 41 64 (fun x y => decide (y ≤ x))) := snd_icmp_ge (by decide +kernel : decode (mBc 22) 38 = .ok (.if_icmp .ge 26, 3)) rfl rfl
theorem s22_41 : mSnd 22 41 (a_aload 42 0) := snd_aload_n (by decide +kernel : decode (mBc 22) 41 = .ok (.aload_n 0, 1)) rfl rfl
theorem s22_42 : mSnd 22 42 (a_aload 43 1) := snd_aload_n (by decide +kernel : decode (mBc 22) 42 = .ok (.aload_n 1, 1)) rfl rfl
theorem s22_43 : mSnd 22 43 (a_push 44 (.int (iZ 0))) := snd_iconst (by decide +kernel : decode (mBc 22) 43 = .ok (.iconst 0, 1)) rfl rfl
theorem s22_44 : mSnd 22 44 (a_iload 45 2) := snd_iload_n (by decide +kernel : decode (mBc 22) 44 = .ok (.iload_n 2, 1)) rfl rfl
theorem s22_45 : mSnd 22 45 (a_invV 48 2 0 0 [(1, 60, 0, 0), (2, 60, 0, 0), (4, 60, 0, 0), (6, 60, 0, 0), (8, 60, 0, 0)]) := snd_invV v22_36 rfl rfl (by decide +kernel : decode (mBc 22) 45 = .ok (.invokevirtual 36, 3)) rfl
theorem s22_48 : mSnd 22 48 (a_i2l 49) := snd_i2l (by decide +kernel : decode (mBc 22) 48 = .ok (.i2l, 1)) rfl
theorem s22_49 : mSnd 22 49 (a_aload 50 1) := snd_aload_n (by decide +kernel : decode (mBc 22) 49 = .ok (.aload_n 1, 1)) rfl rfl
theorem s22_50 : mSnd 22 50 (a_push 51 (.int (iZ 0))) := snd_iconst (by decide +kernel : decode (mBc 22) 50 = .ok (.iconst 0, 1)) rfl rfl
theorem s22_51 : mSnd 22 51 (a_invV 54 1 0 0 [(1, 59, 0, 0), (2, 59, 0, 0), (4, 59, 0, 0), (6, 59, 0, 0), (8, 59, 0, 0)]) := snd_invV v22_40 rfl rfl (by decide +kernel : decode (mBc 22) 51 = .ok (.invokevirtual 40, 3)) rfl
theorem s22_54 : mSnd 22 54 (a_i2l 55) := snd_i2l (by decide +kernel : decode (mBc 22) 54 = .ok (.i2l, 1)) rfl
theorem s22_55 : mSnd 22 55 (a_invV 58 2 0 0 [(3, 23, 0, 0)]) := snd_invV v22_43 rfl rfl (by decide +kernel : decode (mBc 22) 55 = .ok (.invokevirtual 43, 3)) rfl
theorem s22_58 : mSnd 22 58 (a_iinc 61 2 (iZ 1)) := snd_iinc (by decide +kernel : decode (mBc 22) 58 = .ok (.iinc 2 1, 3)) rfl (by decide) rfl
theorem s22_61 : mSnd 22 61 (a_goto 33) := snd_goto (by decide +kernel : decode (mBc 22) 61 = .ok (.goto (-28), 3)) rfl
theorem s22_64 : mSnd 22 64 (a_aload 65 1) := snd_aload_n (by decide +kernel : decode (mBc 22) 64 = .ok (.aload_n 1, 1)) rfl rfl
theorem s22_65 : mSnd 22 65 (a_getf 68 1 [1, 2, 4, 6, 8]) := snd_getf f10 q125 (Or.inl rfl) (by decide +kernel : decode (mBc 22) 65 = .ok (.getfield 33, 3)) rfl
theorem s22_68 : mSnd 22 68 (a_push 69 (.int (iZ 1))) := snd_iconst (by decide +kernel : decode (mBc 22) 68 = .ok (.iconst 1, 1)) rfl rfl
theorem s22_69 : mSnd 22 69 (a_icmp 72 92 (fun x y => decide (x ≤ y))) := snd_icmp_le (by decide +kernel : decode (mBc 22) 69 = .ok (.if_icmp .le 23, 3)) rfl rfl
theorem s22_72 : mSnd 22 72 (a_aload 73 1) := snd_aload_n (by decide +kernel : decode (mBc 22) 72 = .ok (.aload_n 1, 1)) rfl rfl
theorem s22_73 : mSnd 22 73 (a_invV 76 0 0 0 [(1, 67, 0, 0), (2, 67, 0, 0), (4, 67, 0, 0), (6, 67, 0, 0), (8, 67, 0, 0)]) := snd_invV v22_47 rfl rfl (by decide +kernel : decode (mBc 22) 73 = .ok (.invokevirtual 47, 3)) rfl
theorem s22_76 : mSnd 22 76 (a_lstore 77 2) := snd_lstore_n (by decide +kernel : decode (mBc 22) 76 = .ok (.lstore_n 2, 1)) rfl (by decide) rfl
theorem s22_77 : mSnd 22 77 (a_aload 78 0) := snd_aload_n (by decide +kernel : decode (mBc 22) 77 = .ok (.aload_n 0, 1)) rfl rfl
theorem s22_78 : mSnd 22 78 (a_aload 79 1) := snd_aload_n (by decide +kernel : decode (mBc 22) 78 = .ok (.aload_n 1, 1)) rfl rfl
theorem s22_79 : mSnd 22 79 (a_lload 80 2) := snd_lload_n (by decide +kernel : decode (mBc 22) 79 = .ok (.lload_n 2, 1)) rfl rfl
theorem s22_80 : mSnd 22 80 (a_invV 83 1 0 0 [(1, 68, 0, 0), (2, 68, 0, 0), (4, 68, 0, 0), (6, 68, 0, 0), (8, 68, 0, 0)]) := snd_invV v22_51 rfl rfl (by decide +kernel : decode (mBc 22) 80 = .ok (.invokevirtual 51, 3)) rfl
theorem s22_83 : mSnd 22 83 (a_i2l 84) := snd_i2l (by decide +kernel : decode (mBc 22) 83 = .ok (.i2l, 1)) rfl
theorem s22_84 : mSnd 22 84 (a_lload 85 2) := snd_lload_n (by decide +kernel : decode (mBc 22) 84 = .ok (.lload_n 2, 1)) rfl rfl
theorem s22_85 : mSnd 22 85 (a_invS 88 133 1 0 0 0 0) := snd_invSN (host := "JointWorks") k22_133 rfl rfl (by decide +kernel) q659 q1 (by decide +kernel) (by decide +kernel : decode (mBc 22) 85 = .ok (.invokestatic 55, 3)) rfl
theorem s22_88 : mSnd 22 88 (a_i2l 89) := snd_i2l (by decide +kernel : decode (mBc 22) 88 = .ok (.i2l, 1)) rfl
theorem s22_89 : mSnd 22 89 (a_invV 92 2 0 0 [(3, 23, 0, 0)]) := snd_invV v22_43 rfl rfl (by decide +kernel : decode (mBc 22) 89 = .ok (.invokevirtual 43, 3)) rfl
theorem s22_92 : mSnd 22 92 (a_vret 0 0) := snd_vret rfl rfl rfl (by decide +kernel : decode (mBc 22) 92 = .ok (.return_, 1))
theorem ok22 : mOkl2 22 ct22 := ⟨⟨s22_0, s22_1, s22_2, s22_5, s22_6, s22_7, s22_8, s22_9, s22_12, s22_15, s22_16, s22_17, trivial⟩, ⟨s22_18, s22_21, s22_22, s22_25, s22_28, s22_31, s22_32, s22_33, s22_34, s22_35, s22_38, s22_41, trivial⟩, ⟨s22_42, s22_43, s22_44, s22_45, s22_48, s22_49, s22_50, s22_51, s22_54, s22_55, s22_58, s22_61, trivial⟩, ⟨s22_64, s22_65, s22_68, s22_69, s22_72, s22_73, s22_76, s22_77, s22_78, s22_79, s22_80, s22_83, trivial⟩, ⟨s22_84, s22_85, s22_88, s22_89, s22_92, trivial⟩, trivial⟩
theorem s23_0 : mSnd 23 0 (a_aload 1 0) := snd_aload_n (by decide +kernel : decode (mBc 23) 0 = .ok (.aload_n 0, 1)) rfl rfl
theorem s23_1 : mSnd 23 1 (a_lload 2 1) := snd_lload_n (by decide +kernel : decode (mBc 23) 1 = .ok (.lload_n 1, 1)) rfl rfl
theorem s23_2 : mSnd 23 2 (a_lload 3 3) := snd_lload_n (by decide +kernel : decode (mBc 23) 2 = .ok (.lload_n 3, 1)) rfl rfl
theorem s23_3 : mSnd 23 3 (a_push 4 (.int (iZ 0))) := snd_iconst (by decide +kernel : decode (mBc 23) 3 = .ok (.iconst 0, 1)) rfl rfl
theorem s23_4 : mSnd 23 4 (a_invS 7 134 3 0 0 0 0) := snd_invSN (host := "JointWorks") k23_134 rfl rfl (by decide +kernel) q550 q1 (by decide +kernel) (by decide +kernel : decode (mBc 23) 4 = .ok (.invokestatic 58, 3)) rfl
theorem s23_7 : mSnd 23 7 (a_invV 10 1 0 0 [(3, 24, 0, 0)]) := snd_invV v23_29 rfl rfl (by decide +kernel : decode (mBc 23) 7 = .ok (.invokevirtual 29, 3)) rfl
theorem s23_10 : mSnd 23 10 (a_aload 11 0) := snd_aload_n (by decide +kernel : decode (mBc 23) 10 = .ok (.aload_n 0, 1)) rfl rfl
theorem s23_11 : mSnd 23 11 (a_lload 12 1) := snd_lload_n (by decide +kernel : decode (mBc 23) 11 = .ok (.lload_n 1, 1)) rfl rfl
theorem s23_12 : mSnd 23 12 (a_lload 13 3) := snd_lload_n (by decide +kernel : decode (mBc 23) 12 = .ok (.lload_n 3, 1)) rfl rfl
theorem s23_13 : mSnd 23 13 (a_push 14 (.int (iZ 1))) := snd_iconst (by decide +kernel : decode (mBc 23) 13 = .ok (.iconst 1, 1)) rfl rfl
theorem s23_14 : mSnd 23 14 (a_invS 17 134 3 0 0 0 0) := snd_invSN (host := "JointWorks") k23_134 rfl rfl (by decide +kernel) q550 q1 (by decide +kernel) (by decide +kernel : decode (mBc 23) 14 = .ok (.invokestatic 58, 3)) rfl
theorem s23_17 : mSnd 23 17 (a_invV 20 1 0 0 [(3, 24, 0, 0)]) := snd_invV v23_29 rfl rfl (by decide +kernel : decode (mBc 23) 17 = .ok (.invokevirtual 29, 3)) rfl
theorem s23_20 : mSnd 23 20 (a_vret 0 0) := snd_vret rfl rfl rfl (by decide +kernel : decode (mBc 23) 20 = .ok (.return_, 1))
theorem ok23 : mOkl2 23 ct23 := ⟨⟨s23_0, s23_1, s23_2, s23_3, s23_4, s23_7, s23_10, s23_11, s23_12, s23_13, s23_14, s23_17, trivial⟩, ⟨s23_20, trivial⟩, trivial⟩
theorem s24_0 : mSnd 24 0 (a_aload 1 0) := snd_aload_n (by decide +kernel : decode (mBc 24) 0 = .ok (.aload_n 0, 1)) rfl rfl
theorem s24_1 : mSnd 24 1 (a_getf 4 0 [3]) := snd_getf f8 q31 (Or.inl rfl) (by decide +kernel : decode (mBc 24) 1 = .ok (.getfield 9, 3)) rfl
theorem s24_4 : mSnd 24 4 (a_if 7 39 (fun x => decide (x < 0))) := snd_if_lt (by decide +kernel : decode (mBc 24) 4 = .ok (.ifCond .lt 35, 3)) rfl rfl
theorem s24_7 : mSnd 24 7 (a_aload 8 0) := snd_aload_n (by decide +kernel : decode (mBc 24) 7 = .ok (.aload_n 0, 1)) rfl rfl
theorem s24_8 : mSnd 24 8 (a_getf 11 0 [3]) := snd_getf f8 q31 (Or.inl rfl) (by decide +kernel : decode (mBc 24) 8 = .ok (.getfield 9, 3)) rfl
theorem s24_11 : mSnd 24 11 (a_aload 12 0) := snd_aload_n (by decide +kernel : decode (mBc 24) 11 = .ok (.aload_n 0, 1)) rfl rfl
theorem s24_12 : mSnd 24 12 (a_getf 15 1 [3]) := snd_getf f9 q33 (Or.inl rfl) (by decide +kernel : decode (mBc 24) 12 = .ok (.getfield 15, 3)) rfl
theorem s24_15 : mSnd 24 15 (a_alen 16) := snd_alen (by decide +kernel : decode (mBc 24) 15 = .ok (.arraylength, 1)) rfl
theorem s24_16 : mSnd 24 16 (a_icmp 19 39 (fun x y => decide (y ≤ x))) := snd_icmp_ge (by decide +kernel : decode (mBc 24) 16 = .ok (.if_icmp .ge 23, 3)) rfl rfl
theorem s24_19 : mSnd 24 19 (a_aload 20 0) := snd_aload_n (by decide +kernel : decode (mBc 24) 19 = .ok (.aload_n 0, 1)) rfl rfl
theorem s24_20 : mSnd 24 20 (a_getf 23 1 [3]) := snd_getf f9 q33 (Or.inl rfl) (by decide +kernel : decode (mBc 24) 20 = .ok (.getfield 15, 3)) rfl
theorem s24_23 : mSnd 24 23 (a_aload 24 0) := snd_aload_n (by decide +kernel : decode (mBc 24) 23 = .ok (.aload_n 0, 1)) rfl rfl
theorem s24_24 : mSnd 24 24 (a_getf 27 0 [3]) := snd_getf f8 q31 (Or.inl rfl) (by decide +kernel : decode (mBc 24) 24 = .ok (.getfield 9, 3)) rfl
theorem s24_27 : mSnd 24 27 (a_lload 28 1) := snd_lload_n (by decide +kernel : decode (mBc 24) 27 = .ok (.lload_n 1, 1)) rfl rfl
theorem s24_28 : mSnd 24 28 (a_last 29) := snd_last (by decide +kernel : decode (mBc 24) 28 = .ok (.lastore, 1)) rfl
theorem s24_29 : mSnd 24 29 (a_aload 30 0) := snd_aload_n (by decide +kernel : decode (mBc 24) 29 = .ok (.aload_n 0, 1)) rfl rfl
theorem s24_30 : mSnd 24 30 (a_dup 31) := snd_dup (by decide +kernel : decode (mBc 24) 30 = .ok (.dup, 1)) rfl
theorem s24_31 : mSnd 24 31 (a_getf 34 0 [3]) := snd_getf f8 q31 (Or.inl rfl) (by decide +kernel : decode (mBc 24) 31 = .ok (.getfield 9, 3)) rfl
theorem s24_34 : mSnd 24 34 (a_push 35 (.int (iZ 1))) := snd_iconst (by decide +kernel : decode (mBc 24) 34 = .ok (.iconst 1, 1)) rfl rfl
theorem s24_35 : mSnd 24 35 (a_ii 36 (fun x y => x + y)) := snd_iadd (by decide +kernel : decode (mBc 24) 35 = .ok (.iadd, 1)) rfl
theorem s24_36 : mSnd 24 36 (a_putf 39 0 0 [3]) := snd_putf f8 (by decide +kernel) q31 (Or.inl rfl) (Or.inl rfl) (by decide +kernel : decode (mBc 24) 36 = .ok (.putfield 9, 3)) rfl
theorem s24_39 : mSnd 24 39 (a_vret 0 0) := snd_vret rfl rfl rfl (by decide +kernel : decode (mBc 24) 39 = .ok (.return_, 1))
theorem ok24 : mOkl2 24 ct24 := ⟨⟨s24_0, s24_1, s24_4, s24_7, s24_8, s24_11, s24_12, s24_15, s24_16, s24_19, s24_20, s24_23, trivial⟩, ⟨s24_24, s24_27, s24_28, s24_29, s24_30, s24_31, s24_34, s24_35, s24_36, s24_39, trivial⟩, trivial⟩
theorem s25_0 : mSnd 25 0 (a_iload 1 1) := snd_iload_n (by decide +kernel : decode (mBc 25) 0 = .ok (.iload_n 1, 1)) rfl rfl
theorem s25_1 : mSnd 25 1 (a_if 4 25 (fun x => decide (x < 0))) := snd_if_lt (by decide +kernel : decode (mBc 25) 1 = .ok (.ifCond .lt 24, 3)) rfl rfl
theorem s25_4 : mSnd 25 4 (a_iload 5 1) := snd_iload_n (by decide +kernel : decode (mBc 25) 4 = .ok (.iload_n 1, 1)) rfl rfl
theorem s25_5 : mSnd 25 5 (a_aload 6 0) := snd_aload_n (by decide +kernel : decode (mBc 25) 5 = .ok (.aload_n 0, 1)) rfl rfl
theorem s25_6 : mSnd 25 6 (a_getf 9 0 [3]) := snd_getf f8 q31 (Or.inl rfl) (by decide +kernel : decode (mBc 25) 6 = .ok (.getfield 9, 3)) rfl
theorem s25_9 : mSnd 25 9 (a_icmp 12 25 (fun x y => decide (y ≤ x))) := snd_icmp_ge (by decide +kernel : decode (mBc 25) 9 = .ok (.if_icmp .ge 16, 3)) rfl rfl
theorem s25_12 : mSnd 25 12 (a_iload 13 1) := snd_iload_n (by decide +kernel : decode (mBc 25) 12 = .ok (.iload_n 1, 1)) rfl rfl
theorem s25_13 : mSnd 25 13 (a_aload 14 0) := snd_aload_n (by decide +kernel : decode (mBc 25) 13 = .ok (.aload_n 0, 1)) rfl rfl
theorem s25_14 : mSnd 25 14 (a_getf 17 1 [3]) := snd_getf f9 q33 (Or.inl rfl) (by decide +kernel : decode (mBc 25) 14 = .ok (.getfield 15, 3)) rfl
theorem s25_17 : mSnd 25 17 (a_alen 18) := snd_alen (by decide +kernel : decode (mBc 25) 17 = .ok (.arraylength, 1)) rfl
theorem s25_18 : mSnd 25 18 (a_icmp 21 25 (fun x y => decide (y ≤ x))) := snd_icmp_ge (by decide +kernel : decode (mBc 25) 18 = .ok (.if_icmp .ge 7, 3)) rfl rfl
theorem s25_21 : mSnd 25 21 (a_push 22 (.int (iZ 1))) := snd_iconst (by decide +kernel : decode (mBc 25) 21 = .ok (.iconst 1, 1)) rfl rfl
theorem s25_22 : mSnd 25 22 (a_goto 26) := snd_goto (by decide +kernel : decode (mBc 25) 22 = .ok (.goto 4, 3)) rfl
theorem s25_25 : mSnd 25 25 (a_push 26 (.int (iZ 0))) := snd_iconst (by decide +kernel : decode (mBc 25) 25 = .ok (.iconst 0, 1)) rfl rfl
theorem s25_26 : mSnd 25 26 (a_zret 0 0) := snd_zret rfl rfl rfl (by decide +kernel : decode (mBc 25) 26 = .ok (.ireturn, 1))
theorem ok25 : mOkl2 25 ct25 := ⟨⟨s25_0, s25_1, s25_4, s25_5, s25_6, s25_9, s25_12, s25_13, s25_14, s25_17, s25_18, s25_21, trivial⟩, ⟨s25_22, s25_25, s25_26, trivial⟩, trivial⟩
theorem s26_0 : mSnd 26 0 (a_aload 1 0) := snd_aload_n (by decide +kernel : decode (mBc 26) 0 = .ok (.aload_n 0, 1)) rfl rfl
theorem s26_1 : mSnd 26 1 (a_iload 2 1) := snd_iload_n (by decide +kernel : decode (mBc 26) 1 = .ok (.iload_n 1, 1)) rfl rfl
theorem s26_2 : mSnd 26 2 (a_invV 5 1 0 0 [(3, 25, 0, 0)]) := snd_invV v26_62 rfl rfl (by decide +kernel : decode (mBc 26) 2 = .ok (.invokevirtual 62, 3)) rfl
theorem s26_5 : mSnd 26 5 (a_if 8 17 (fun x => decide (x = 0))) := snd_if_eq (by decide +kernel : decode (mBc 26) 5 = .ok (.ifCond .eq 12, 3)) rfl rfl
theorem s26_8 : mSnd 26 8 (a_aload 9 0) := snd_aload_n (by decide +kernel : decode (mBc 26) 8 = .ok (.aload_n 0, 1)) rfl rfl
theorem s26_9 : mSnd 26 9 (a_getf 12 1 [3]) := snd_getf f9 q33 (Or.inl rfl) (by decide +kernel : decode (mBc 26) 9 = .ok (.getfield 15, 3)) rfl
theorem s26_12 : mSnd 26 12 (a_iload 13 1) := snd_iload_n (by decide +kernel : decode (mBc 26) 12 = .ok (.iload_n 1, 1)) rfl rfl
theorem s26_13 : mSnd 26 13 (a_lald 14) := snd_lald (by decide +kernel : decode (mBc 26) 13 = .ok (.laload, 1)) rfl
theorem s26_14 : mSnd 26 14 (a_goto 20) := snd_goto (by decide +kernel : decode (mBc 26) 14 = .ok (.goto 6, 3)) rfl
theorem s26_17 : mSnd 26 17 (a_push 20 (.long (lZ (-4611686018427387904)))) := snd_ldc2 q740 (by decide +kernel : decode (mBc 26) 17 = .ok (.ldc2_w 66, 3)) rfl
theorem s26_20 : mSnd 26 20 (a_lret 0 0) := snd_lret rfl rfl rfl (by decide +kernel : decode (mBc 26) 20 = .ok (.lreturn, 1))
theorem ok26 : mOkl2 26 ct26 := ⟨⟨s26_0, s26_1, s26_2, s26_5, s26_8, s26_9, s26_12, s26_13, s26_14, s26_17, s26_20, trivial⟩, trivial⟩
theorem s27_0 : mSnd 27 0 (a_aload 1 0) := snd_aload_n (by decide +kernel : decode (mBc 27) 0 = .ok (.aload_n 0, 1)) rfl rfl
theorem s27_1 : mSnd 27 1 (a_iload 2 1) := snd_iload_n (by decide +kernel : decode (mBc 27) 1 = .ok (.iload_n 1, 1)) rfl rfl
theorem s27_2 : mSnd 27 2 (a_invV 5 1 0 0 [(3, 25, 0, 0)]) := snd_invV v27_62 rfl rfl (by decide +kernel : decode (mBc 27) 2 = .ok (.invokevirtual 62, 3)) rfl
theorem s27_5 : mSnd 27 5 (a_if 8 15 (fun x => decide (x = 0))) := snd_if_eq (by decide +kernel : decode (mBc 27) 5 = .ok (.ifCond .eq 10, 3)) rfl rfl
theorem s27_8 : mSnd 27 8 (a_aload 9 0) := snd_aload_n (by decide +kernel : decode (mBc 27) 8 = .ok (.aload_n 0, 1)) rfl rfl
theorem s27_9 : mSnd 27 9 (a_getf 12 1 [3]) := snd_getf f9 q33 (Or.inl rfl) (by decide +kernel : decode (mBc 27) 9 = .ok (.getfield 15, 3)) rfl
theorem s27_12 : mSnd 27 12 (a_iload 13 1) := snd_iload_n (by decide +kernel : decode (mBc 27) 12 = .ok (.iload_n 1, 1)) rfl rfl
theorem s27_13 : mSnd 27 13 (a_lload 14 2) := snd_lload_n (by decide +kernel : decode (mBc 27) 13 = .ok (.lload_n 2, 1)) rfl rfl
theorem s27_14 : mSnd 27 14 (a_last 15) := snd_last (by decide +kernel : decode (mBc 27) 14 = .ok (.lastore, 1)) rfl
theorem s27_15 : mSnd 27 15 (a_vret 0 0) := snd_vret rfl rfl rfl (by decide +kernel : decode (mBc 27) 15 = .ok (.return_, 1))
theorem ok27 : mOkl2 27 ct27 := ⟨⟨s27_0, s27_1, s27_2, s27_5, s27_8, s27_9, s27_12, s27_13, s27_14, s27_15, trivial⟩, trivial⟩
theorem s28_0 : mSnd 28 0 (a_push 1 (.int (iZ 0))) := snd_iconst (by decide +kernel : decode (mBc 28) 0 = .ok (.iconst 0, 1)) rfl rfl
theorem s28_1 : mSnd 28 1 (a_istore 2 2) := snd_istore_n (by decide +kernel : decode (mBc 28) 1 = .ok (.istore_n 2, 1)) rfl (by decide) rfl
theorem s28_2 : mSnd 28 2 (a_iload 3 2) := snd_iload_n (by decide +kernel : decode (mBc 28) 2 = .ok (.iload_n 2, 1)) rfl rfl
theorem s28_3 : mSnd 28 3 (a_push 5 (.int (iZ 25))) := snd_bipush (by decide +kernel : decode (mBc 28) 3 = .ok (.bipush 25, 2)) (by decide +kernel) rfl
theorem s28_5 : mSnd 28 5 (a_icmp 8 43 (fun x y => decide (y ≤ x))) := snd_icmp_ge (by decide +kernel : decode (mBc 28) 5 = .ok (.if_icmp .ge 38, 3)) rfl rfl
theorem s28_8 : mSnd 28 8 (a_aload 9 0) := snd_aload_n (by decide +kernel : decode (mBc 28) 8 = .ok (.aload_n 0, 1)) rfl rfl
theorem s28_9 : mSnd 28 9 (a_iload 10 2) := snd_iload_n (by decide +kernel : decode (mBc 28) 9 = .ok (.iload_n 2, 1)) rfl rfl
theorem s28_10 : mSnd 28 10 (a_invV 13 1 0 0 [(3, 25, 0, 0)]) := snd_invV v28_62 rfl rfl (by decide +kernel : decode (mBc 28) 10 = .ok (.invokevirtual 62, 3)) rfl
theorem s28_13 : mSnd 28 13 (a_aload 14 1) := snd_aload_n (by decide +kernel : decode (mBc 28) 13 = .ok (.aload_n 1, 1)) rfl rfl
theorem s28_14 : mSnd 28 14 (a_iload 15 2) := snd_iload_n (by decide +kernel : decode (mBc 28) 14 = .ok (.iload_n 2, 1)) rfl rfl
theorem s28_15 : mSnd 28 15 (a_invV 18 1 0 0 [(3, 25, 0, 0)]) := snd_invV v28_62 rfl rfl (by decide +kernel : decode (mBc 28) 15 = .ok (.invokevirtual 62, 3)) rfl
theorem s28_18 : mSnd 28 18 (a_icmp 21 35 (fun x y => decide (¬ x = y))) := snd_icmp_ne (by decide +kernel : decode (mBc 28) 18 = .ok (.if_icmp .ne 17, 3)) rfl rfl
theorem s28_21 : mSnd 28 21 (a_aload 22 0) := snd_aload_n (by decide +kernel : decode (mBc 28) 21 = .ok (.aload_n 0, 1)) rfl rfl
theorem s28_22 : mSnd 28 22 (a_iload 23 2) := snd_iload_n (by decide +kernel : decode (mBc 28) 22 = .ok (.iload_n 2, 1)) rfl rfl
theorem s28_23 : mSnd 28 23 (a_invV 26 1 0 0 [(3, 26, 0, 0)]) := snd_invV v28_68 rfl rfl (by decide +kernel : decode (mBc 28) 23 = .ok (.invokevirtual 68, 3)) rfl
theorem s28_26 : mSnd 28 26 (a_aload 27 1) := snd_aload_n (by decide +kernel : decode (mBc 28) 26 = .ok (.aload_n 1, 1)) rfl rfl
theorem s28_27 : mSnd 28 27 (a_iload 28 2) := snd_iload_n (by decide +kernel : decode (mBc 28) 27 = .ok (.iload_n 2, 1)) rfl rfl
theorem s28_28 : mSnd 28 28 (a_invV 31 1 0 0 [(3, 26, 0, 0)]) := snd_invV v28_68 rfl rfl (by decide +kernel : decode (mBc 28) 28 = .ok (.invokevirtual 68, 3)) rfl
theorem s28_31 : mSnd 28 31 (a_lcmp 32) := snd_lcmp (by decide +kernel : decode (mBc 28) 31 = .ok (.lcmp, 1)) rfl
theorem s28_32 : mSnd 28 32 (a_if 35 37 (fun x => decide (x = 0))) := snd_if_eq (by decide +kernel : decode (mBc 28) 32 = .ok (.ifCond .eq 5, 3)) rfl rfl
theorem s28_35 : mSnd 28 35 (a_iload 36 2) := snd_iload_n (by decide +kernel : decode (mBc 28) 35 = .ok (.iload_n 2, 1)) rfl rfl
theorem s28_36 : mSnd 28 36 (a_iret 0 0) := snd_iret rfl rfl rfl (by decide +kernel : decode (mBc 28) 36 = .ok (.ireturn, 1))
theorem s28_37 : mSnd 28 37 (a_iinc 40 2 (iZ 1)) := snd_iinc (by decide +kernel : decode (mBc 28) 37 = .ok (.iinc 2 1, 3)) rfl (by decide) rfl
theorem s28_40 : mSnd 28 40 (a_goto 2) := snd_goto (by decide +kernel : decode (mBc 28) 40 = .ok (.goto (-38), 3)) rfl
theorem s28_43 : mSnd 28 43 (a_push 44 (.int (iZ (-1)))) := snd_iconst (by decide +kernel : decode (mBc 28) 43 = .ok (.iconst (-1), 1)) rfl rfl
theorem s28_44 : mSnd 28 44 (a_iret 0 0) := snd_iret rfl rfl rfl (by decide +kernel : decode (mBc 28) 44 = .ok (.ireturn, 1))
theorem ok28 : mOkl2 28 ct28 := ⟨⟨s28_0, s28_1, s28_2, s28_3, s28_5, s28_8, s28_9, s28_10, s28_13, s28_14, s28_15, s28_18, trivial⟩, ⟨s28_21, s28_22, s28_23, s28_26, s28_27, s28_28, s28_31, s28_32, s28_35, s28_36, s28_37, s28_40, trivial⟩, ⟨s28_43, s28_44, trivial⟩, trivial⟩
theorem s29_0 : mSnd 29 0 (a_aload 1 0) := snd_aload_n (by decide +kernel : decode (mBc 29) 0 = .ok (.aload_n 0, 1)) rfl rfl
theorem s29_1 : mSnd 29 1 (a_iload 2 1) := snd_iload_n (by decide +kernel : decode (mBc 29) 1 = .ok (.iload_n 1, 1)) rfl rfl
theorem s29_2 : mSnd 29 2 (a_iload 3 2) := snd_iload_n (by decide +kernel : decode (mBc 29) 2 = .ok (.iload_n 2, 1)) rfl rfl
theorem s29_3 : mSnd 29 3 (a_invI 6 37 2 8 152 8 152) := snd_invI k29_37 rfl rfl rfl rfl q251 q89 q5 (by decide +kernel) (by decide +kernel : decode (mBc 29) 3 = .ok (.invokespecial 3, 3)) rfl
theorem s29_6 : mSnd 29 6 (a_push 7 (.int (iZ 1))) := snd_iconst (by decide +kernel : decode (mBc 29) 6 = .ok (.iconst 1, 1)) rfl rfl
theorem s29_7 : mSnd 29 7 (a_istore 9 4) := snd_istore (by decide +kernel : decode (mBc 29) 7 = .ok (.istore 4, 2)) (by decide) rfl
theorem s29_9 : mSnd 29 9 (a_iload 11 4) := snd_iload (by decide +kernel : decode (mBc 29) 9 = .ok (.iload 4, 2)) rfl
theorem s29_11 : mSnd 29 11 (a_aload 12 0) := snd_aload_n (by decide +kernel : decode (mBc 29) 11 = .ok (.aload_n 0, 1)) rfl rfl
theorem s29_12 : mSnd 29 12 (a_invV 15 0 8 152 [(4, 42, 0, 0)]) := snd_invV v29_9 rfl rfl (by decide +kernel : decode (mBc 29) 12 = .ok (.invokevirtual 9, 3)) rfl
theorem s29_15 : mSnd 29 15 (a_icmp 18 37 (fun x y => decide (y < x))) := snd_icmp_gt (by decide +kernel : decode (mBc 29) 15 = .ok (.if_icmp .gt 22, 3)) rfl rfl
theorem s29_18 : mSnd 29 18 (a_aload 19 0) := snd_aload_n (by decide +kernel : decode (mBc 29) 18 = .ok (.aload_n 0, 1)) rfl rfl
theorem s29_19 : mSnd 29 19 (a_iload 21 4) := snd_iload (by decide +kernel : decode (mBc 29) 19 = .ok (.iload 4, 2)) rfl
theorem s29_21 : mSnd 29 21 (a_iload 23 4) := snd_iload (by decide +kernel : decode (mBc 29) 21 = .ok (.iload 4, 2)) rfl
theorem s29_23 : mSnd 29 23 (a_iload 24 3) := snd_iload_n (by decide +kernel : decode (mBc 29) 23 = .ok (.iload_n 3, 1)) rfl rfl
theorem s29_24 : mSnd 29 24 (a_invS 27 30 2 8 152 0 0) := snd_invS k29_30 rfl rfl q255 q256 q8 (by decide +kernel) (by decide +kernel : decode (mBc 29) 24 = .ok (.invokestatic 15, 3)) rfl
theorem s29_27 : mSnd 29 27 (a_i 28 (fun x => -x)) := snd_ineg (by decide +kernel : decode (mBc 29) 27 = .ok (.ineg, 1)) rfl
theorem s29_28 : mSnd 29 28 (a_invV 31 2 8 152 [(4, 48, 0, 0)]) := snd_invV v29_19 rfl rfl (by decide +kernel : decode (mBc 29) 28 = .ok (.invokevirtual 19, 3)) rfl
theorem s29_31 : mSnd 29 31 (a_iinc 34 4 (iZ 1)) := snd_iinc (by decide +kernel : decode (mBc 29) 31 = .ok (.iinc 4 1, 3)) rfl (by decide) rfl
theorem s29_34 : mSnd 29 34 (a_goto 9) := snd_goto (by decide +kernel : decode (mBc 29) 34 = .ok (.goto (-25), 3)) rfl
theorem s29_37 : mSnd 29 37 (a_vret 8 152) := snd_vret rfl rfl rfl (by decide +kernel : decode (mBc 29) 37 = .ok (.return_, 1))
theorem ok29 : mOkl2 29 ct29 := ⟨⟨s29_0, s29_1, s29_2, s29_3, s29_6, s29_7, s29_9, s29_11, s29_12, s29_15, s29_18, s29_19, trivial⟩, ⟨s29_21, s29_23, s29_24, s29_27, s29_28, s29_31, s29_34, s29_37, trivial⟩, trivial⟩
theorem s30_0 : mSnd 30 0 (a_push 1 (.int (iZ 0))) := snd_iconst (by decide +kernel : decode (mBc 30) 0 = .ok (.iconst 0, 1)) rfl rfl
theorem s30_1 : mSnd 30 1 (a_istore 2 2) := snd_istore_n (by decide +kernel : decode (mBc 30) 1 = .ok (.istore_n 2, 1)) rfl (by decide) rfl
theorem s30_2 : mSnd 30 2 (a_iload 3 1) := snd_iload_n (by decide +kernel : decode (mBc 30) 2 = .ok (.iload_n 1, 1)) rfl rfl
theorem s30_3 : mSnd 30 3 (a_istore 4 3) := snd_istore_n (by decide +kernel : decode (mBc 30) 3 = .ok (.istore_n 3, 1)) rfl (by decide) rfl
theorem s30_4 : mSnd 30 4 (a_push 5 (.int (iZ 0))) := snd_iconst (by decide +kernel : decode (mBc 30) 4 = .ok (.iconst 0, 1)) rfl rfl
theorem s30_5 : mSnd 30 5 (a_istore 7 4) := snd_istore (by decide +kernel : decode (mBc 30) 5 = .ok (.istore 4, 2)) (by decide) rfl
theorem s30_7 : mSnd 30 7 (a_iload 9 4) := snd_iload (by decide +kernel : decode (mBc 30) 7 = .ok (.iload 4, 2)) rfl
theorem s30_9 : mSnd 30 9 (a_push 10 (.int (iZ 4))) := snd_iconst (by decide +kernel : decode (mBc 30) 9 = .ok (.iconst 4, 1)) rfl rfl
theorem s30_10 : mSnd 30 10 (a_icmp 13 40 (fun x y => decide (y ≤ x))) := snd_icmp_ge (by decide +kernel : decode (mBc 30) 10 = .ok (.if_icmp .ge 30, 3)) rfl rfl
theorem s30_13 : mSnd 30 13 (a_iload 14 2) := snd_iload_n (by decide +kernel : decode (mBc 30) 13 = .ok (.iload_n 2, 1)) rfl rfl
theorem s30_14 : mSnd 30 14 (a_iload 15 0) := snd_iload_n (by decide +kernel : decode (mBc 30) 14 = .ok (.iload_n 0, 1)) rfl rfl
theorem s30_15 : mSnd 30 15 (a_iload 17 4) := snd_iload (by decide +kernel : decode (mBc 30) 15 = .ok (.iload 4, 2)) rfl
theorem s30_17 : mSnd 30 17 (a_invS 20 126 2 0 0 0 0) := snd_invSN (host := "JointWorks") k30_126 rfl rfl (by decide +kernel) q229 q1 (by decide +kernel) (by decide +kernel : decode (mBc 30) 17 = .ok (.invokestatic 22, 3)) rfl
theorem s30_20 : mSnd 30 20 (a_iload 21 3) := snd_iload_n (by decide +kernel : decode (mBc 30) 20 = .ok (.iload_n 3, 1)) rfl rfl
theorem s30_21 : mSnd 30 21 (a_push 23 (.int (iZ 51))) := snd_bipush (by decide +kernel : decode (mBc 30) 21 = .ok (.bipush 51, 2)) (by decide +kernel) rfl
theorem s30_23 : mSnd 30 23 (a_iid 24 (fun x y => x - x / y * y)) := snd_irem (by decide +kernel : decode (mBc 30) 23 = .ok (.irem, 1)) rfl
theorem s30_24 : mSnd 30 24 (a_ii 25 (fun x y => x * y)) := snd_imul (by decide +kernel : decode (mBc 30) 24 = .ok (.imul, 1)) rfl
theorem s30_25 : mSnd 30 25 (a_invS 28 219 2 0 0 0 0) := snd_invS k30_219 rfl rfl q259 q260 q9 (by decide +kernel) (by decide +kernel : decode (mBc 30) 25 = .ok (.invokestatic 25, 3)) rfl
theorem s30_28 : mSnd 30 28 (a_istore 29 2) := snd_istore_n (by decide +kernel : decode (mBc 30) 28 = .ok (.istore_n 2, 1)) rfl (by decide) rfl
theorem s30_29 : mSnd 30 29 (a_iload 30 3) := snd_iload_n (by decide +kernel : decode (mBc 30) 29 = .ok (.iload_n 3, 1)) rfl rfl
theorem s30_30 : mSnd 30 30 (a_push 32 (.int (iZ 51))) := snd_bipush (by decide +kernel : decode (mBc 30) 30 = .ok (.bipush 51, 2)) (by decide +kernel) rfl
theorem s30_32 : mSnd 30 32 (a_iid 33 (fun x y => x / y)) := snd_idiv (by decide +kernel : decode (mBc 30) 32 = .ok (.idiv, 1)) rfl
theorem s30_33 : mSnd 30 33 (a_istore 34 3) := snd_istore_n (by decide +kernel : decode (mBc 30) 33 = .ok (.istore_n 3, 1)) rfl (by decide) rfl
theorem s30_34 : mSnd 30 34 (a_iinc 37 4 (iZ 1)) := snd_iinc (by decide +kernel : decode (mBc 30) 34 = .ok (.iinc 4 1, 3)) rfl (by decide) rfl
theorem s30_37 : mSnd 30 37 (a_goto 7) := snd_goto (by decide +kernel : decode (mBc 30) 37 = .ok (.goto (-30), 3)) rfl
theorem s30_40 : mSnd 30 40 (a_iload 41 2) := snd_iload_n (by decide +kernel : decode (mBc 30) 40 = .ok (.iload_n 2, 1)) rfl rfl
theorem s30_41 : mSnd 30 41 (a_iret 0 0) := snd_iret rfl rfl rfl (by decide +kernel : decode (mBc 30) 41 = .ok (.ireturn, 1))
theorem ok30 : mOkl2 30 ct30 := ⟨⟨s30_0, s30_1, s30_2, s30_3, s30_4, s30_5, s30_7, s30_9, s30_10, s30_13, s30_14, s30_15, trivial⟩, ⟨s30_17, s30_20, s30_21, s30_23, s30_24, s30_25, s30_28, s30_29, s30_30, s30_32, s30_33, s30_34, trivial⟩, ⟨s30_37, s30_40, s30_41, trivial⟩, trivial⟩
theorem s31_0 : mSnd 31 0 (a_push 1 (.int (iZ 2))) := snd_iconst (by decide +kernel : decode (mBc 31) 0 = .ok (.iconst 2, 1)) rfl rfl
theorem s31_1 : mSnd 31 1 (a_iret 0 0) := snd_iret rfl rfl rfl (by decide +kernel : decode (mBc 31) 1 = .ok (.ireturn, 1))
theorem ok31 : mOkl2 31 ct31 := ⟨⟨s31_0, s31_1, trivial⟩, trivial⟩
theorem s32_0 : mSnd 32 0 (a_aload 1 2) := snd_aload_n (by decide +kernel : decode (mBc 32) 0 = .ok (.aload_n 2, 1)) rfl rfl
theorem s32_1 : mSnd 32 1 (a_push 3 (.int (iZ 30))) := snd_bipush (by decide +kernel : decode (mBc 32) 1 = .ok (.bipush 30, 2)) (by decide +kernel) rfl
theorem s32_3 : mSnd 32 3 (a_invV 6 1 0 0 [(7, 71, 0, 0)]) := snd_invV v32_30 rfl rfl (by decide +kernel : decode (mBc 32) 3 = .ok (.invokevirtual 30, 3)) rfl
theorem s32_6 : mSnd 32 6 (a_aload 7 0) := snd_aload_n (by decide +kernel : decode (mBc 32) 6 = .ok (.aload_n 0, 1)) rfl rfl
theorem s32_7 : mSnd 32 7 (a_iload 8 1) := snd_iload_n (by decide +kernel : decode (mBc 32) 7 = .ok (.iload_n 1, 1)) rfl rfl
theorem s32_8 : mSnd 32 8 (a_aload 9 2) := snd_aload_n (by decide +kernel : decode (mBc 32) 8 = .ok (.aload_n 2, 1)) rfl rfl
theorem s32_9 : mSnd 32 9 (a_invV 12 2 0 0 [(4, 40, 0, 0)]) := snd_invU u32_36 rfl rfl (by decide +kernel : decode (mBc 32) 9 = .ok (.invokespecial 36, 3)) rfl
theorem s32_12 : mSnd 32 12 (a_aload 13 0) := snd_aload_n (by decide +kernel : decode (mBc 32) 12 = .ok (.aload_n 0, 1)) rfl rfl
theorem s32_13 : mSnd 32 13 (a_getf 16 0 [4]) := snd_getf f11 q122 (Or.inr q123) (by decide +kernel : decode (mBc 32) 13 = .ok (.getfield 40, 3)) rfl
theorem s32_16 : mSnd 32 16 (a_ii 17 (fun x y => x + y)) := snd_iadd (by decide +kernel : decode (mBc 32) 16 = .ok (.iadd, 1)) rfl
theorem s32_17 : mSnd 32 17 (a_iret 0 0) := snd_iret rfl rfl rfl (by decide +kernel : decode (mBc 32) 17 = .ok (.ireturn, 1))
theorem ok32 : mOkl2 32 ct32 := ⟨⟨s32_0, s32_1, s32_3, s32_6, s32_7, s32_8, s32_9, s32_12, s32_13, s32_16, s32_17, trivial⟩, trivial⟩
theorem s33_0 : mSnd 33 0 (a_aload 1 0) := snd_aload_n (by decide +kernel : decode (mBc 33) 0 = .ok (.aload_n 0, 1)) rfl rfl
theorem s33_1 : mSnd 33 1 (a_obj 4) := snd_obj q852 q21 q22 (by decide) (by decide) (by decide +kernel : decode (mBc 33) 1 = .ok (.invokespecial 3, 3)) rfl
theorem s33_4 : mSnd 33 4 (a_aload 5 0) := snd_aload_n (by decide +kernel : decode (mBc 33) 4 = .ok (.aload_n 0, 1)) rfl rfl
theorem s33_5 : mSnd 33 5 (a_iload 6 1) := snd_iload_n (by decide +kernel : decode (mBc 33) 5 = .ok (.iload_n 1, 1)) rfl rfl
theorem s33_6 : mSnd 33 6 (a_putf 9 0 0 [5]) := snd_putf f12 (by decide +kernel) q854 (Or.inl rfl) (Or.inr ⟨rfl, rfl⟩) (by decide +kernel : decode (mBc 33) 6 = .ok (.putfield 9, 3)) rfl
theorem s33_9 : mSnd 33 9 (a_aload 10 0) := snd_aload_n (by decide +kernel : decode (mBc 33) 9 = .ok (.aload_n 0, 1)) rfl rfl
theorem s33_10 : mSnd 33 10 (a_iload 11 2) := snd_iload_n (by decide +kernel : decode (mBc 33) 10 = .ok (.iload_n 2, 1)) rfl rfl
theorem s33_11 : mSnd 33 11 (a_push 12 (.int (iZ 0))) := snd_iconst (by decide +kernel : decode (mBc 33) 11 = .ok (.iconst 0, 1)) rfl rfl
theorem s33_12 : mSnd 33 12 (a_invS 15 219 2 1 40 0 0) := snd_invS k33_219 rfl rfl q853 q260 q9 (by decide +kernel) (by decide +kernel : decode (mBc 33) 12 = .ok (.invokestatic 15, 3)) rfl
theorem s33_15 : mSnd 33 15 (a_newa 17 1 1 40) := snd_newl rfl rfl q39 (by decide +kernel : decode (mBc 33) 15 = .ok (.newarray .long, 2)) rfl
theorem s33_17 : mSnd 33 17 (a_putf 20 1 2 [5]) := snd_putf f13 (by decide +kernel) q856 (Or.inl rfl) (Or.inr ⟨rfl, rfl⟩) (by decide +kernel : decode (mBc 33) 17 = .ok (.putfield 21, 3)) rfl
theorem s33_20 : mSnd 33 20 (a_vret 1 40) := snd_vret rfl rfl rfl (by decide +kernel : decode (mBc 33) 20 = .ok (.return_, 1))
theorem ok33 : mOkl2 33 ct33 := ⟨⟨s33_0, s33_1, s33_4, s33_5, s33_6, s33_9, s33_10, s33_11, s33_12, s33_15, s33_17, s33_20, trivial⟩, trivial⟩
theorem s34_0 : mSnd 34 0 (a_iload 1 1) := snd_iload_n (by decide +kernel : decode (mBc 34) 0 = .ok (.iload_n 1, 1)) rfl rfl
theorem s34_1 : mSnd 34 1 (a_if 4 32 (fun x => decide (x < 0))) := snd_if_lt (by decide +kernel : decode (mBc 34) 1 = .ok (.ifCond .lt 31, 3)) rfl rfl
theorem s34_4 : mSnd 34 4 (a_iload 5 2) := snd_iload_n (by decide +kernel : decode (mBc 34) 4 = .ok (.iload_n 2, 1)) rfl rfl
theorem s34_5 : mSnd 34 5 (a_if 8 32 (fun x => decide (x < 0))) := snd_if_lt (by decide +kernel : decode (mBc 34) 5 = .ok (.ifCond .lt 27, 3)) rfl rfl
theorem s34_8 : mSnd 34 8 (a_iload 9 1) := snd_iload_n (by decide +kernel : decode (mBc 34) 8 = .ok (.iload_n 1, 1)) rfl rfl
theorem s34_9 : mSnd 34 9 (a_aload 10 0) := snd_aload_n (by decide +kernel : decode (mBc 34) 9 = .ok (.aload_n 0, 1)) rfl rfl
theorem s34_10 : mSnd 34 10 (a_getf 13 1 [5]) := snd_getf f13 q856 (Or.inl rfl) (by decide +kernel : decode (mBc 34) 10 = .ok (.getfield 21, 3)) rfl
theorem s34_13 : mSnd 34 13 (a_alen 14) := snd_alen (by decide +kernel : decode (mBc 34) 13 = .ok (.arraylength, 1)) rfl
theorem s34_14 : mSnd 34 14 (a_icmp 17 32 (fun x y => decide (y < x))) := snd_icmp_gt (by decide +kernel : decode (mBc 34) 14 = .ok (.if_icmp .gt 18, 3)) rfl rfl
theorem s34_17 : mSnd 34 17 (a_iload 18 2) := snd_iload_n (by decide +kernel : decode (mBc 34) 17 = .ok (.iload_n 2, 1)) rfl rfl
theorem s34_18 : mSnd 34 18 (a_aload 19 0) := snd_aload_n (by decide +kernel : decode (mBc 34) 18 = .ok (.aload_n 0, 1)) rfl rfl
theorem s34_19 : mSnd 34 19 (a_getf 22 1 [5]) := snd_getf f13 q856 (Or.inl rfl) (by decide +kernel : decode (mBc 34) 19 = .ok (.getfield 21, 3)) rfl
theorem s34_22 : mSnd 34 22 (a_alen 23) := snd_alen (by decide +kernel : decode (mBc 34) 22 = .ok (.arraylength, 1)) rfl
theorem s34_23 : mSnd 34 23 (a_iload 24 1) := snd_iload_n (by decide +kernel : decode (mBc 34) 23 = .ok (.iload_n 1, 1)) rfl rfl
theorem s34_24 : mSnd 34 24 (a_ii 25 (fun x y => x - y)) := snd_isub (by decide +kernel : decode (mBc 34) 24 = .ok (.isub, 1)) rfl
theorem s34_25 : mSnd 34 25 (a_icmp 28 32 (fun x y => decide (y < x))) := snd_icmp_gt (by decide +kernel : decode (mBc 34) 25 = .ok (.if_icmp .gt 7, 3)) rfl rfl
theorem s34_28 : mSnd 34 28 (a_push 29 (.int (iZ 1))) := snd_iconst (by decide +kernel : decode (mBc 34) 28 = .ok (.iconst 1, 1)) rfl rfl
theorem s34_29 : mSnd 34 29 (a_goto 33) := snd_goto (by decide +kernel : decode (mBc 34) 29 = .ok (.goto 4, 3)) rfl
theorem s34_32 : mSnd 34 32 (a_push 33 (.int (iZ 0))) := snd_iconst (by decide +kernel : decode (mBc 34) 32 = .ok (.iconst 0, 1)) rfl rfl
theorem s34_33 : mSnd 34 33 (a_zret 0 0) := snd_zret rfl rfl rfl (by decide +kernel : decode (mBc 34) 33 = .ok (.ireturn, 1))
theorem ok34 : mOkl2 34 ct34 := ⟨⟨s34_0, s34_1, s34_4, s34_5, s34_8, s34_9, s34_10, s34_13, s34_14, s34_17, s34_18, s34_19, trivial⟩, ⟨s34_22, s34_23, s34_24, s34_25, s34_28, s34_29, s34_32, s34_33, trivial⟩, trivial⟩
theorem s35_0 : mSnd 35 0 (a_aload 1 0) := snd_aload_n (by decide +kernel : decode (mBc 35) 0 = .ok (.aload_n 0, 1)) rfl rfl
theorem s35_1 : mSnd 35 1 (a_iload 2 1) := snd_iload_n (by decide +kernel : decode (mBc 35) 1 = .ok (.iload_n 1, 1)) rfl rfl
theorem s35_2 : mSnd 35 2 (a_push 3 (.int (iZ 1))) := snd_iconst (by decide +kernel : decode (mBc 35) 2 = .ok (.iconst 1, 1)) rfl rfl
theorem s35_3 : mSnd 35 3 (a_invV 6 2 0 0 [(5, 34, 0, 0)]) := snd_invV v35_25 rfl rfl (by decide +kernel : decode (mBc 35) 3 = .ok (.invokevirtual 25, 3)) rfl
theorem s35_6 : mSnd 35 6 (a_if 9 18 (fun x => decide (x = 0))) := snd_if_eq (by decide +kernel : decode (mBc 35) 6 = .ok (.ifCond .eq 12, 3)) rfl rfl
theorem s35_9 : mSnd 35 9 (a_aload 10 0) := snd_aload_n (by decide +kernel : decode (mBc 35) 9 = .ok (.aload_n 0, 1)) rfl rfl
theorem s35_10 : mSnd 35 10 (a_getf 13 1 [5]) := snd_getf f13 q856 (Or.inl rfl) (by decide +kernel : decode (mBc 35) 10 = .ok (.getfield 21, 3)) rfl
theorem s35_13 : mSnd 35 13 (a_iload 14 1) := snd_iload_n (by decide +kernel : decode (mBc 35) 13 = .ok (.iload_n 1, 1)) rfl rfl
theorem s35_14 : mSnd 35 14 (a_lald 15) := snd_lald (by decide +kernel : decode (mBc 35) 14 = .ok (.laload, 1)) rfl
theorem s35_15 : mSnd 35 15 (a_goto 19) := snd_goto (by decide +kernel : decode (mBc 35) 15 = .ok (.goto 4, 3)) rfl
theorem s35_18 : mSnd 35 18 (a_push 19 (.long (lZ 0))) := snd_lconst (by decide +kernel : decode (mBc 35) 18 = .ok (.lconst 0, 1)) (by decide +kernel) rfl
theorem s35_19 : mSnd 35 19 (a_lret 0 0) := snd_lret rfl rfl rfl (by decide +kernel : decode (mBc 35) 19 = .ok (.lreturn, 1))
theorem ok35 : mOkl2 35 ct35 := ⟨⟨s35_0, s35_1, s35_2, s35_3, s35_6, s35_9, s35_10, s35_13, s35_14, s35_15, s35_18, s35_19, trivial⟩, trivial⟩
theorem s36_0 : mSnd 36 0 (a_aload 1 0) := snd_aload_n (by decide +kernel : decode (mBc 36) 0 = .ok (.aload_n 0, 1)) rfl rfl
theorem s36_1 : mSnd 36 1 (a_iload 2 1) := snd_iload_n (by decide +kernel : decode (mBc 36) 1 = .ok (.iload_n 1, 1)) rfl rfl
theorem s36_2 : mSnd 36 2 (a_push 3 (.int (iZ 1))) := snd_iconst (by decide +kernel : decode (mBc 36) 2 = .ok (.iconst 1, 1)) rfl rfl
theorem s36_3 : mSnd 36 3 (a_invV 6 2 0 0 [(5, 34, 0, 0)]) := snd_invV v36_25 rfl rfl (by decide +kernel : decode (mBc 36) 3 = .ok (.invokevirtual 25, 3)) rfl
theorem s36_6 : mSnd 36 6 (a_if 9 30 (fun x => decide (x = 0))) := snd_if_eq (by decide +kernel : decode (mBc 36) 6 = .ok (.ifCond .eq 24, 3)) rfl rfl
theorem s36_9 : mSnd 36 9 (a_aload 10 0) := snd_aload_n (by decide +kernel : decode (mBc 36) 9 = .ok (.aload_n 0, 1)) rfl rfl
theorem s36_10 : mSnd 36 10 (a_getf 13 1 [5]) := snd_getf f13 q856 (Or.inl rfl) (by decide +kernel : decode (mBc 36) 10 = .ok (.getfield 21, 3)) rfl
theorem s36_13 : mSnd 36 13 (a_iload 14 1) := snd_iload_n (by decide +kernel : decode (mBc 36) 13 = .ok (.iload_n 1, 1)) rfl rfl
theorem s36_14 : mSnd 36 14 (a_aload 15 0) := snd_aload_n (by decide +kernel : decode (mBc 36) 14 = .ok (.aload_n 0, 1)) rfl rfl
theorem s36_15 : mSnd 36 15 (a_getf 18 0 [5]) := snd_getf f12 q854 (Or.inl rfl) (by decide +kernel : decode (mBc 36) 15 = .ok (.getfield 9, 3)) rfl
theorem s36_18 : mSnd 36 18 (a_if 21 27 (fun x => decide (¬ x = 0))) := snd_if_ne (by decide +kernel : decode (mBc 36) 18 = .ok (.ifCond .ne 9, 3)) rfl rfl
theorem s36_21 : mSnd 36 21 (a_iload 22 2) := snd_iload_n (by decide +kernel : decode (mBc 36) 21 = .ok (.iload_n 2, 1)) rfl rfl
theorem s36_22 : mSnd 36 22 (a_i 23 (fun x => x.toInt8.toInt32)) := snd_i2b (by decide +kernel : decode (mBc 36) 22 = .ok (.i2b, 1)) rfl
theorem s36_23 : mSnd 36 23 (a_i2l 24) := snd_i2l (by decide +kernel : decode (mBc 36) 23 = .ok (.i2l, 1)) rfl
theorem s36_24 : mSnd 36 24 (a_goto 29) := snd_goto (by decide +kernel : decode (mBc 36) 24 = .ok (.goto 5, 3)) rfl
theorem s36_27 : mSnd 36 27 (a_iload 28 2) := snd_iload_n (by decide +kernel : decode (mBc 36) 27 = .ok (.iload_n 2, 1)) rfl rfl
theorem s36_28 : mSnd 36 28 (a_i2l 29) := snd_i2l (by decide +kernel : decode (mBc 36) 28 = .ok (.i2l, 1)) rfl
theorem s36_29 : mSnd 36 29 (a_last 30) := snd_last (by decide +kernel : decode (mBc 36) 29 = .ok (.lastore, 1)) rfl
theorem s36_30 : mSnd 36 30 (a_vret 0 0) := snd_vret rfl rfl rfl (by decide +kernel : decode (mBc 36) 30 = .ok (.return_, 1))
theorem ok36 : mOkl2 36 ct36 := ⟨⟨s36_0, s36_1, s36_2, s36_3, s36_6, s36_9, s36_10, s36_13, s36_14, s36_15, s36_18, s36_21, trivial⟩, ⟨s36_22, s36_23, s36_24, s36_27, s36_28, s36_29, s36_30, trivial⟩, trivial⟩
theorem s37_0 : mSnd 37 0 (a_aload 1 0) := snd_aload_n (by decide +kernel : decode (mBc 37) 0 = .ok (.aload_n 0, 1)) rfl rfl
theorem s37_1 : mSnd 37 1 (a_obj 4) := snd_obj q91 q21 q22 (by decide) (by decide) (by decide +kernel : decode (mBc 37) 1 = .ok (.invokespecial 3, 3)) rfl
theorem s37_4 : mSnd 37 4 (a_aload 5 0) := snd_aload_n (by decide +kernel : decode (mBc 37) 4 = .ok (.aload_n 0, 1)) rfl rfl
theorem s37_5 : mSnd 37 5 (a_iload 6 1) := snd_iload_n (by decide +kernel : decode (mBc 37) 5 = .ok (.iload_n 1, 1)) rfl rfl
theorem s37_6 : mSnd 37 6 (a_putf 9 0 0 [1, 2, 4, 6, 8]) := snd_putf f14 (by decide +kernel) q121 (Or.inl rfl) (Or.inr ⟨rfl, rfl⟩) (by decide +kernel : decode (mBc 37) 6 = .ok (.putfield 9, 3)) rfl
theorem s37_9 : mSnd 37 9 (a_aload 10 0) := snd_aload_n (by decide +kernel : decode (mBc 37) 9 = .ok (.aload_n 0, 1)) rfl rfl
theorem s37_10 : mSnd 37 10 (a_iload 11 2) := snd_iload_n (by decide +kernel : decode (mBc 37) 10 = .ok (.iload_n 2, 1)) rfl rfl
theorem s37_11 : mSnd 37 11 (a_putf 14 1 0 [1, 2, 4, 6, 8]) := snd_putf f10 (by decide +kernel) q124 (Or.inl rfl) (Or.inr ⟨rfl, rfl⟩) (by decide +kernel : decode (mBc 37) 11 = .ok (.putfield 15, 3)) rfl
theorem s37_14 : mSnd 37 14 (a_aload 15 0) := snd_aload_n (by decide +kernel : decode (mBc 37) 14 = .ok (.aload_n 0, 1)) rfl rfl
theorem s37_15 : mSnd 37 15 (a_push 17 (.int (iZ 16))) := snd_bipush (by decide +kernel : decode (mBc 37) 15 = .ok (.bipush 16, 2)) (by decide +kernel) rfl
theorem s37_17 : mSnd 37 17 (a_newa 19 0 8 152) := snd_newi rfl rfl q54 (by decide +kernel : decode (mBc 37) 17 = .ok (.newarray .int, 2)) rfl
theorem s37_19 : mSnd 37 19 (a_putf 22 2 2 [1, 2, 4, 6, 8]) := snd_putf f15 (by decide +kernel) q129 (Or.inl rfl) (Or.inr ⟨rfl, rfl⟩) (by decide +kernel : decode (mBc 37) 19 = .ok (.putfield 18, 3)) rfl
theorem s37_22 : mSnd 37 22 (a_aload 23 0) := snd_aload_n (by decide +kernel : decode (mBc 37) 22 = .ok (.aload_n 0, 1)) rfl rfl
theorem s37_23 : mSnd 37 23 (a_push 24 (.int (iZ 4))) := snd_iconst (by decide +kernel : decode (mBc 37) 23 = .ok (.iconst 4, 1)) rfl rfl
theorem s37_24 : mSnd 37 24 (a_newa 26 0 8 152) := snd_newi rfl rfl q54 (by decide +kernel : decode (mBc 37) 24 = .ok (.newarray .int, 2)) rfl
theorem s37_26 : mSnd 37 26 (a_putf 29 3 2 [1, 2, 4, 6, 8]) := snd_putf f16 (by decide +kernel) q130 (Or.inl rfl) (Or.inr ⟨rfl, rfl⟩) (by decide +kernel : decode (mBc 37) 26 = .ok (.putfield 22, 3)) rfl
theorem s37_29 : mSnd 37 29 (a_aload 30 0) := snd_aload_n (by decide +kernel : decode (mBc 37) 29 = .ok (.aload_n 0, 1)) rfl rfl
theorem s37_30 : mSnd 37 30 (a_new 33 0 7 8 152 [.int 0, .null, .null, .null, .null, .null, .int 0]) := snd_new (q := (RX0, TX0, 7)) rfl rfl rfl rfl (by decide +kernel) (by intro v hv a e; subst e; simp at hv) q92 q93 q6 (by decide +kernel : decode (mBc 37) 30 = .ok (.new 25, 3)) rfl
theorem s37_33 : mSnd 37 33 (a_dup 34) := snd_dup (by decide +kernel : decode (mBc 37) 33 = .ok (.dup, 1)) rfl
theorem s37_34 : mSnd 37 34 (a_invI 37 0 0 8 152 5 125) := snd_invI k37_0 rfl rfl rfl rfl q94 q95 q6 (by decide +kernel) (by decide +kernel : decode (mBc 37) 34 = .ok (.invokespecial 27, 3)) rfl
theorem s37_37 : mSnd 37 37 (a_putf 40 4 2 [1, 2, 4, 6, 8]) := snd_putf f17 (by decide +kernel) q131 (Or.inl rfl) (Or.inr ⟨rfl, rfl⟩) (by decide +kernel : decode (mBc 37) 37 = .ok (.putfield 28, 3)) rfl
theorem s37_40 : mSnd 37 40 (a_aload 41 0) := snd_aload_n (by decide +kernel : decode (mBc 37) 40 = .ok (.aload_n 0, 1)) rfl rfl
theorem s37_41 : mSnd 37 41 (a_push 42 (.int (iZ 0))) := snd_iconst (by decide +kernel : decode (mBc 37) 41 = .ok (.iconst 0, 1)) rfl rfl
theorem s37_42 : mSnd 37 42 (a_putf 45 5 3 [1, 2, 4, 6, 8]) := snd_putf f18 (by decide +kernel) q132 (Or.inl rfl) (Or.inl rfl) (by decide +kernel : decode (mBc 37) 42 = .ok (.putfield 32, 3)) rfl
theorem s37_45 : mSnd 37 45 (a_vret 8 152) := snd_vret rfl rfl rfl (by decide +kernel : decode (mBc 37) 45 = .ok (.return_, 1))
theorem ok37 : mOkl2 37 ct37 := ⟨⟨s37_0, s37_1, s37_4, s37_5, s37_6, s37_9, s37_10, s37_11, s37_14, s37_15, s37_17, s37_19, trivial⟩, ⟨s37_22, s37_23, s37_24, s37_26, s37_29, s37_30, s37_33, s37_34, s37_37, s37_40, s37_41, s37_42, trivial⟩, ⟨s37_45, trivial⟩, trivial⟩
theorem s38_0 : mSnd 38 0 (a_push 1 (.int (iZ 0))) := snd_iconst (by decide +kernel : decode (mBc 38) 0 = .ok (.iconst 0, 1)) rfl rfl
theorem s38_1 : mSnd 38 1 (a_iret 0 0) := snd_iret rfl rfl rfl (by decide +kernel : decode (mBc 38) 1 = .ok (.ireturn, 1))
theorem ok38 : mOkl2 38 ct38 := ⟨⟨s38_0, s38_1, trivial⟩, trivial⟩
theorem s39_0 : mSnd 39 0 (a_aload 1 2) := snd_aload_n (by decide +kernel : decode (mBc 39) 0 = .ok (.aload_n 2, 1)) rfl rfl
theorem s39_1 : mSnd 39 1 (a_push 3 (.int (iZ 10))) := snd_bipush (by decide +kernel : decode (mBc 39) 1 = .ok (.bipush 10, 2)) (by decide +kernel) rfl
theorem s39_3 : mSnd 39 3 (a_invV 6 1 0 0 [(7, 71, 0, 0)]) := snd_invV v39_36 rfl rfl (by decide +kernel : decode (mBc 39) 3 = .ok (.invokevirtual 36, 3)) rfl
theorem s39_6 : mSnd 39 6 (a_iload 7 1) := snd_iload_n (by decide +kernel : decode (mBc 39) 6 = .ok (.iload_n 1, 1)) rfl rfl
theorem s39_7 : mSnd 39 7 (a_aload 8 0) := snd_aload_n (by decide +kernel : decode (mBc 39) 7 = .ok (.aload_n 0, 1)) rfl rfl
theorem s39_8 : mSnd 39 8 (a_aload 9 0) := snd_aload_n (by decide +kernel : decode (mBc 39) 8 = .ok (.aload_n 0, 1)) rfl rfl
theorem s39_9 : mSnd 39 9 (a_invV 12 0 0 0 [(1, 42, 0, 0), (2, 42, 0, 0), (4, 42, 0, 0), (6, 42, 0, 0), (8, 42, 0, 0)]) := snd_invV v39_42 rfl rfl (by decide +kernel : decode (mBc 39) 9 = .ok (.invokevirtual 42, 3)) rfl
theorem s39_12 : mSnd 39 12 (a_invV 15 1 0 0 [(1, 46, 0, 0), (2, 46, 0, 0), (4, 46, 0, 0), (6, 46, 0, 0), (8, 46, 0, 0)]) := snd_invV v39_46 rfl rfl (by decide +kernel : decode (mBc 39) 12 = .ok (.invokevirtual 46, 3)) rfl
theorem s39_15 : mSnd 39 15 (a_ii 16 (fun x y => x + y)) := snd_iadd (by decide +kernel : decode (mBc 39) 15 = .ok (.iadd, 1)) rfl
theorem s39_16 : mSnd 39 16 (a_iret 0 0) := snd_iret rfl rfl rfl (by decide +kernel : decode (mBc 39) 16 = .ok (.ireturn, 1))
theorem ok39 : mOkl2 39 ct39 := ⟨⟨s39_0, s39_1, s39_3, s39_6, s39_7, s39_8, s39_9, s39_12, s39_15, s39_16, trivial⟩, trivial⟩
theorem s40_0 : mSnd 40 0 (a_aload 1 2) := snd_aload_n (by decide +kernel : decode (mBc 40) 0 = .ok (.aload_n 2, 1)) rfl rfl
theorem s40_1 : mSnd 40 1 (a_push 3 (.int (iZ 11))) := snd_bipush (by decide +kernel : decode (mBc 40) 1 = .ok (.bipush 11, 2)) (by decide +kernel) rfl
theorem s40_3 : mSnd 40 3 (a_invV 6 1 0 0 [(7, 71, 0, 0)]) := snd_invV v40_36 rfl rfl (by decide +kernel : decode (mBc 40) 3 = .ok (.invokevirtual 36, 3)) rfl
theorem s40_6 : mSnd 40 6 (a_aload 7 0) := snd_aload_n (by decide +kernel : decode (mBc 40) 6 = .ok (.aload_n 0, 1)) rfl rfl
theorem s40_7 : mSnd 40 7 (a_iload 8 1) := snd_iload_n (by decide +kernel : decode (mBc 40) 7 = .ok (.iload_n 1, 1)) rfl rfl
theorem s40_8 : mSnd 40 8 (a_aload 9 2) := snd_aload_n (by decide +kernel : decode (mBc 40) 8 = .ok (.aload_n 2, 1)) rfl rfl
theorem s40_9 : mSnd 40 9 (a_invV 12 2 0 0 [(1, 39, 0, 0), (2, 19, 0, 0), (4, 39, 0, 0), (6, 39, 0, 0), (8, 76, 0, 0)]) := snd_invV v40_50 rfl rfl (by decide +kernel : decode (mBc 40) 9 = .ok (.invokevirtual 50, 3)) rfl
theorem s40_12 : mSnd 40 12 (a_aload 13 0) := snd_aload_n (by decide +kernel : decode (mBc 40) 12 = .ok (.aload_n 0, 1)) rfl rfl
theorem s40_13 : mSnd 40 13 (a_getf 16 1 [1, 2, 4, 6, 8]) := snd_getf f10 q124 (Or.inl rfl) (by decide +kernel : decode (mBc 40) 13 = .ok (.getfield 15, 3)) rfl
theorem s40_16 : mSnd 40 16 (a_ii 17 (fun x y => x * y)) := snd_imul (by decide +kernel : decode (mBc 40) 16 = .ok (.imul, 1)) rfl
theorem s40_17 : mSnd 40 17 (a_iret 0 0) := snd_iret rfl rfl rfl (by decide +kernel : decode (mBc 40) 17 = .ok (.ireturn, 1))
theorem ok40 : mOkl2 40 ct40 := ⟨⟨s40_0, s40_1, s40_3, s40_6, s40_7, s40_8, s40_9, s40_12, s40_13, s40_16, s40_17, trivial⟩, trivial⟩
theorem s41_0 : mSnd 41 0 (a_aload 1 2) := snd_aload_n (by decide +kernel : decode (mBc 41) 0 = .ok (.aload_n 2, 1)) rfl rfl
theorem s41_1 : mSnd 41 1 (a_push 3 (.int (iZ 12))) := snd_bipush (by decide +kernel : decode (mBc 41) 1 = .ok (.bipush 12, 2)) (by decide +kernel) rfl
theorem s41_3 : mSnd 41 3 (a_invV 6 1 0 0 [(7, 71, 0, 0)]) := snd_invV v41_36 rfl rfl (by decide +kernel : decode (mBc 41) 3 = .ok (.invokevirtual 36, 3)) rfl
theorem s41_6 : mSnd 41 6 (a_aload 7 0) := snd_aload_n (by decide +kernel : decode (mBc 41) 6 = .ok (.aload_n 0, 1)) rfl rfl
theorem s41_7 : mSnd 41 7 (a_iload 8 1) := snd_iload_n (by decide +kernel : decode (mBc 41) 7 = .ok (.iload_n 1, 1)) rfl rfl
theorem s41_8 : mSnd 41 8 (a_aload 9 2) := snd_aload_n (by decide +kernel : decode (mBc 41) 8 = .ok (.aload_n 2, 1)) rfl rfl
theorem s41_9 : mSnd 41 9 (a_invV 12 2 0 0 [(1, 40, 0, 0), (2, 20, 0, 0), (4, 32, 0, 0), (6, 40, 0, 0), (8, 40, 0, 0)]) := snd_invV v41_54 rfl rfl (by decide +kernel : decode (mBc 41) 9 = .ok (.invokevirtual 54, 3)) rfl
theorem s41_12 : mSnd 41 12 (a_istore 13 3) := snd_istore_n (by decide +kernel : decode (mBc 41) 12 = .ok (.istore_n 3, 1)) rfl (by decide) rfl
theorem s41_13 : mSnd 41 13 (a_iload 14 3) := snd_iload_n (by decide +kernel : decode (mBc 41) 13 = .ok (.iload_n 3, 1)) rfl rfl
theorem s41_14 : mSnd 41 14 (a_aload 15 0) := snd_aload_n (by decide +kernel : decode (mBc 41) 14 = .ok (.aload_n 0, 1)) rfl rfl
theorem s41_15 : mSnd 41 15 (a_iload 16 1) := snd_iload_n (by decide +kernel : decode (mBc 41) 15 = .ok (.iload_n 1, 1)) rfl rfl
theorem s41_16 : mSnd 41 16 (a_aload 17 0) := snd_aload_n (by decide +kernel : decode (mBc 41) 16 = .ok (.aload_n 0, 1)) rfl rfl
theorem s41_17 : mSnd 41 17 (a_getf 20 0 [1, 2, 4, 6, 8]) := snd_getf f14 q121 (Or.inl rfl) (by decide +kernel : decode (mBc 41) 17 = .ok (.getfield 9, 3)) rfl
theorem s41_20 : mSnd 41 20 (a_ii 21 (fun x y => x + y)) := snd_iadd (by decide +kernel : decode (mBc 41) 20 = .ok (.iadd, 1)) rfl
theorem s41_21 : mSnd 41 21 (a_aload 22 2) := snd_aload_n (by decide +kernel : decode (mBc 41) 21 = .ok (.aload_n 2, 1)) rfl rfl
theorem s41_22 : mSnd 41 22 (a_invV 25 2 0 0 [(1, 39, 0, 0), (2, 19, 0, 0), (4, 39, 0, 0), (6, 39, 0, 0), (8, 76, 0, 0)]) := snd_invV v41_50 rfl rfl (by decide +kernel : decode (mBc 41) 22 = .ok (.invokevirtual 50, 3)) rfl
theorem s41_25 : mSnd 41 25 (a_ii 26 (fun x y => x ^^^ y)) := snd_ixor (by decide +kernel : decode (mBc 41) 25 = .ok (.ixor, 1)) rfl
theorem s41_26 : mSnd 41 26 (a_iret 0 0) := snd_iret rfl rfl rfl (by decide +kernel : decode (mBc 41) 26 = .ok (.ireturn, 1))
theorem ok41 : mOkl2 41 ct41 := ⟨⟨s41_0, s41_1, s41_3, s41_6, s41_7, s41_8, s41_9, s41_12, s41_13, s41_14, s41_15, s41_16, trivial⟩, ⟨s41_17, s41_20, s41_21, s41_22, s41_25, s41_26, trivial⟩, trivial⟩
theorem s42_0 : mSnd 42 0 (a_push 1 (.int (iZ 1))) := snd_iconst (by decide +kernel : decode (mBc 42) 0 = .ok (.iconst 1, 1)) rfl rfl
theorem s42_1 : mSnd 42 1 (a_aload 2 0) := snd_aload_n (by decide +kernel : decode (mBc 42) 1 = .ok (.aload_n 0, 1)) rfl rfl
theorem s42_2 : mSnd 42 2 (a_getf 5 1 [1, 2, 4, 6, 8]) := snd_getf f10 q124 (Or.inl rfl) (by decide +kernel : decode (mBc 42) 2 = .ok (.getfield 15, 3)) rfl
theorem s42_5 : mSnd 42 5 (a_ii 6 (fun x y => x <<< (y &&& 31))) := snd_ishl (by decide +kernel : decode (mBc 42) 5 = .ok (.ishl, 1)) rfl
theorem s42_6 : mSnd 42 6 (a_push 7 (.int (iZ 1))) := snd_iconst (by decide +kernel : decode (mBc 42) 6 = .ok (.iconst 1, 1)) rfl rfl
theorem s42_7 : mSnd 42 7 (a_ii 8 (fun x y => x - y)) := snd_isub (by decide +kernel : decode (mBc 42) 7 = .ok (.isub, 1)) rfl
theorem s42_8 : mSnd 42 8 (a_iret 0 0) := snd_iret rfl rfl rfl (by decide +kernel : decode (mBc 42) 8 = .ok (.ireturn, 1))
theorem ok42 : mOkl2 42 ct42 := ⟨⟨s42_0, s42_1, s42_2, s42_5, s42_6, s42_7, s42_8, trivial⟩, trivial⟩
theorem s43_0 : mSnd 43 0 (a_iload 1 1) := snd_iload_n (by decide +kernel : decode (mBc 43) 0 = .ok (.iload_n 1, 1)) rfl rfl
theorem s43_1 : mSnd 43 1 (a_if 4 16 (fun x => decide (x < 0))) := snd_if_lt (by decide +kernel : decode (mBc 43) 1 = .ok (.ifCond .lt 15, 3)) rfl rfl
theorem s43_4 : mSnd 43 4 (a_iload 5 1) := snd_iload_n (by decide +kernel : decode (mBc 43) 4 = .ok (.iload_n 1, 1)) rfl rfl
theorem s43_5 : mSnd 43 5 (a_aload 6 0) := snd_aload_n (by decide +kernel : decode (mBc 43) 5 = .ok (.aload_n 0, 1)) rfl rfl
theorem s43_6 : mSnd 43 6 (a_getf 9 1 [1, 2, 4, 6, 8]) := snd_getf f10 q124 (Or.inl rfl) (by decide +kernel : decode (mBc 43) 6 = .ok (.getfield 15, 3)) rfl
theorem s43_9 : mSnd 43 9 (a_icmp 12 16 (fun x y => decide (y ≤ x))) := snd_icmp_ge (by decide +kernel : decode (mBc 43) 9 = .ok (.if_icmp .ge 7, 3)) rfl rfl
theorem s43_12 : mSnd 43 12 (a_push 13 (.int (iZ 1))) := snd_iconst (by decide +kernel : decode (mBc 43) 12 = .ok (.iconst 1, 1)) rfl rfl
theorem s43_13 : mSnd 43 13 (a_goto 17) := snd_goto (by decide +kernel : decode (mBc 43) 13 = .ok (.goto 4, 3)) rfl
theorem s43_16 : mSnd 43 16 (a_push 17 (.int (iZ 0))) := snd_iconst (by decide +kernel : decode (mBc 43) 16 = .ok (.iconst 0, 1)) rfl rfl
theorem s43_17 : mSnd 43 17 (a_zret 0 0) := snd_zret rfl rfl rfl (by decide +kernel : decode (mBc 43) 17 = .ok (.ireturn, 1))
theorem ok43 : mOkl2 43 ct43 := ⟨⟨s43_0, s43_1, s43_4, s43_5, s43_6, s43_9, s43_12, s43_13, s43_16, s43_17, trivial⟩, trivial⟩
theorem s44_0 : mSnd 44 0 (a_iload 1 1) := snd_iload_n (by decide +kernel : decode (mBc 44) 0 = .ok (.iload_n 1, 1)) rfl rfl
theorem s44_1 : mSnd 44 1 (a_push 2 (.int (iZ 1))) := snd_iconst (by decide +kernel : decode (mBc 44) 1 = .ok (.iconst 1, 1)) rfl rfl
theorem s44_2 : mSnd 44 2 (a_icmp 5 17 (fun x y => decide (x < y))) := snd_icmp_lt (by decide +kernel : decode (mBc 44) 2 = .ok (.if_icmp .lt 15, 3)) rfl rfl
theorem s44_5 : mSnd 44 5 (a_iload 6 1) := snd_iload_n (by decide +kernel : decode (mBc 44) 5 = .ok (.iload_n 1, 1)) rfl rfl
theorem s44_6 : mSnd 44 6 (a_aload 7 0) := snd_aload_n (by decide +kernel : decode (mBc 44) 6 = .ok (.aload_n 0, 1)) rfl rfl
theorem s44_7 : mSnd 44 7 (a_invV 10 0 0 0 [(1, 42, 0, 0), (2, 42, 0, 0), (4, 42, 0, 0), (6, 42, 0, 0), (8, 42, 0, 0)]) := snd_invV v44_42 rfl rfl (by decide +kernel : decode (mBc 44) 7 = .ok (.invokevirtual 42, 3)) rfl
theorem s44_10 : mSnd 44 10 (a_icmp 13 17 (fun x y => decide (y < x))) := snd_icmp_gt (by decide +kernel : decode (mBc 44) 10 = .ok (.if_icmp .gt 7, 3)) rfl rfl
theorem s44_13 : mSnd 44 13 (a_push 14 (.int (iZ 1))) := snd_iconst (by decide +kernel : decode (mBc 44) 13 = .ok (.iconst 1, 1)) rfl rfl
theorem s44_14 : mSnd 44 14 (a_goto 18) := snd_goto (by decide +kernel : decode (mBc 44) 14 = .ok (.goto 4, 3)) rfl
theorem s44_17 : mSnd 44 17 (a_push 18 (.int (iZ 0))) := snd_iconst (by decide +kernel : decode (mBc 44) 17 = .ok (.iconst 0, 1)) rfl rfl
theorem s44_18 : mSnd 44 18 (a_zret 0 0) := snd_zret rfl rfl rfl (by decide +kernel : decode (mBc 44) 18 = .ok (.ireturn, 1))
theorem ok44 : mOkl2 44 ct44 := ⟨⟨s44_0, s44_1, s44_2, s44_5, s44_6, s44_7, s44_10, s44_13, s44_14, s44_17, s44_18, trivial⟩, trivial⟩
theorem s45_0 : mSnd 45 0 (a_iload 1 1) := snd_iload_n (by decide +kernel : decode (mBc 45) 0 = .ok (.iload_n 1, 1)) rfl rfl
theorem s45_1 : mSnd 45 1 (a_push 2 (.int (iZ 1))) := snd_iconst (by decide +kernel : decode (mBc 45) 1 = .ok (.iconst 1, 1)) rfl rfl
theorem s45_2 : mSnd 45 2 (a_icmp 5 17 (fun x y => decide (x < y))) := snd_icmp_lt (by decide +kernel : decode (mBc 45) 2 = .ok (.if_icmp .lt 15, 3)) rfl rfl
theorem s45_5 : mSnd 45 5 (a_iload 6 1) := snd_iload_n (by decide +kernel : decode (mBc 45) 5 = .ok (.iload_n 1, 1)) rfl rfl
theorem s45_6 : mSnd 45 6 (a_aload 7 0) := snd_aload_n (by decide +kernel : decode (mBc 45) 6 = .ok (.aload_n 0, 1)) rfl rfl
theorem s45_7 : mSnd 45 7 (a_invV 10 0 0 0 [(1, 42, 0, 0), (2, 42, 0, 0), (4, 42, 0, 0), (6, 42, 0, 0), (8, 42, 0, 0)]) := snd_invV v45_42 rfl rfl (by decide +kernel : decode (mBc 45) 7 = .ok (.invokevirtual 42, 3)) rfl
theorem s45_10 : mSnd 45 10 (a_icmp 13 17 (fun x y => decide (y ≤ x))) := snd_icmp_ge (by decide +kernel : decode (mBc 45) 10 = .ok (.if_icmp .ge 7, 3)) rfl rfl
theorem s45_13 : mSnd 45 13 (a_push 14 (.int (iZ 1))) := snd_iconst (by decide +kernel : decode (mBc 45) 13 = .ok (.iconst 1, 1)) rfl rfl
theorem s45_14 : mSnd 45 14 (a_goto 18) := snd_goto (by decide +kernel : decode (mBc 45) 14 = .ok (.goto 4, 3)) rfl
theorem s45_17 : mSnd 45 17 (a_push 18 (.int (iZ 0))) := snd_iconst (by decide +kernel : decode (mBc 45) 17 = .ok (.iconst 0, 1)) rfl rfl
theorem s45_18 : mSnd 45 18 (a_zret 0 0) := snd_zret rfl rfl rfl (by decide +kernel : decode (mBc 45) 18 = .ok (.ireturn, 1))
theorem ok45 : mOkl2 45 ct45 := ⟨⟨s45_0, s45_1, s45_2, s45_5, s45_6, s45_7, s45_10, s45_13, s45_14, s45_17, s45_18, trivial⟩, trivial⟩
theorem s46_0 : mSnd 46 0 (a_iload 1 1) := snd_iload_n (by decide +kernel : decode (mBc 46) 0 = .ok (.iload_n 1, 1)) rfl rfl
theorem s46_1 : mSnd 46 1 (a_if 4 13 (fun x => decide (x < 0))) := snd_if_lt (by decide +kernel : decode (mBc 46) 1 = .ok (.ifCond .lt 12, 3)) rfl rfl
theorem s46_4 : mSnd 46 4 (a_iload 5 1) := snd_iload_n (by decide +kernel : decode (mBc 46) 4 = .ok (.iload_n 1, 1)) rfl rfl
theorem s46_5 : mSnd 46 5 (a_aload 6 0) := snd_aload_n (by decide +kernel : decode (mBc 46) 5 = .ok (.aload_n 0, 1)) rfl rfl
theorem s46_6 : mSnd 46 6 (a_getf 9 2 [1, 2, 4, 6, 8]) := snd_getf f15 q129 (Or.inl rfl) (by decide +kernel : decode (mBc 46) 6 = .ok (.getfield 18, 3)) rfl
theorem s46_9 : mSnd 46 9 (a_alen 10) := snd_alen (by decide +kernel : decode (mBc 46) 9 = .ok (.arraylength, 1)) rfl
theorem s46_10 : mSnd 46 10 (a_icmp 13 17 (fun x y => decide (x < y))) := snd_icmp_lt (by decide +kernel : decode (mBc 46) 10 = .ok (.if_icmp .lt 7, 3)) rfl rfl
theorem s46_13 : mSnd 46 13 (a_push 14 (.int (iZ 0))) := snd_iconst (by decide +kernel : decode (mBc 46) 13 = .ok (.iconst 0, 1)) rfl rfl
theorem s46_14 : mSnd 46 14 (a_goto 23) := snd_goto (by decide +kernel : decode (mBc 46) 14 = .ok (.goto 9, 3)) rfl
theorem s46_17 : mSnd 46 17 (a_aload 18 0) := snd_aload_n (by decide +kernel : decode (mBc 46) 17 = .ok (.aload_n 0, 1)) rfl rfl
theorem s46_18 : mSnd 46 18 (a_getf 21 2 [1, 2, 4, 6, 8]) := snd_getf f15 q129 (Or.inl rfl) (by decide +kernel : decode (mBc 46) 18 = .ok (.getfield 18, 3)) rfl
theorem s46_21 : mSnd 46 21 (a_iload 22 1) := snd_iload_n (by decide +kernel : decode (mBc 46) 21 = .ok (.iload_n 1, 1)) rfl rfl
theorem s46_22 : mSnd 46 22 (a_iald 23) := snd_iald (by decide +kernel : decode (mBc 46) 22 = .ok (.iaload, 1)) rfl
theorem s46_23 : mSnd 46 23 (a_iret 0 0) := snd_iret rfl rfl rfl (by decide +kernel : decode (mBc 46) 23 = .ok (.ireturn, 1))
theorem ok46 : mOkl2 46 ct46 := ⟨⟨s46_0, s46_1, s46_4, s46_5, s46_6, s46_9, s46_10, s46_13, s46_14, s46_17, s46_18, s46_21, trivial⟩, ⟨s46_22, s46_23, trivial⟩, trivial⟩
