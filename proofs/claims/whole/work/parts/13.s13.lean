theorem s215_0 : mSnd 215 0 (a_aload 1 0) := snd_aload_n (by decide +kernel : decode (mBc 215) 0 = .ok (.aload_n 0, 1)) rfl rfl
theorem s215_1 : mSnd 215 1 (a_iload 2 2) := snd_iload_n (by decide +kernel : decode (mBc 215) 1 = .ok (.iload_n 2, 1)) rfl rfl
theorem s215_2 : mSnd 215 2 (a_push 3 (.int (iZ 0))) := snd_iconst (by decide +kernel : decode (mBc 215) 2 = .ok (.iconst 0, 1)) rfl rfl
theorem s215_3 : mSnd 215 3 (a_push 4 (.int (iZ 4))) := snd_iconst (by decide +kernel : decode (mBc 215) 3 = .ok (.iconst 4, 1)) rfl rfl
theorem s215_4 : mSnd 215 4 (a_invV 7 3 0 0 [(10, 137, 0, 0)]) := snd_invV v215_76 rfl rfl (by decide +kernel : decode (mBc 215) 4 = .ok (.invokevirtual 76, 3)) rfl
theorem s215_7 : mSnd 215 7 (a_if 10 13 (fun x => decide (¬ x = 0))) := snd_if_ne (by decide +kernel : decode (mBc 215) 7 = .ok (.ifCond .ne 6, 3)) rfl rfl
theorem s215_10 : mSnd 215 10 (a_push 12 (.int (iZ (-2)))) := snd_bipush (by decide +kernel : decode (mBc 215) 10 = .ok (.bipush (-2), 2)) (by decide +kernel) rfl
theorem s215_12 : mSnd 215 12 (a_iret 0 0) := snd_iret rfl rfl rfl (by decide +kernel : decode (mBc 215) 12 = .ok (.ireturn, 1))
theorem s215_13 : mSnd 215 13 (a_aload 14 0) := snd_aload_n (by decide +kernel : decode (mBc 215) 13 = .ok (.aload_n 0, 1)) rfl rfl
theorem s215_14 : mSnd 215 14 (a_iload 15 1) := snd_iload_n (by decide +kernel : decode (mBc 215) 14 = .ok (.iload_n 1, 1)) rfl rfl
theorem s215_15 : mSnd 215 15 (a_invV 18 1 0 0 [(10, 138, 0, 0)]) := snd_invV v215_92 rfl rfl (by decide +kernel : decode (mBc 215) 15 = .ok (.invokevirtual 92, 3)) rfl
theorem s215_18 : mSnd 215 18 (a_if 21 24 (fun x => decide (¬ x = 0))) := snd_if_ne (by decide +kernel : decode (mBc 215) 18 = .ok (.ifCond .ne 6, 3)) rfl rfl
theorem s215_21 : mSnd 215 21 (a_push 23 (.int (iZ (-11)))) := snd_bipush (by decide +kernel : decode (mBc 215) 21 = .ok (.bipush (-11), 2)) (by decide +kernel) rfl
theorem s215_23 : mSnd 215 23 (a_iret 0 0) := snd_iret rfl rfl rfl (by decide +kernel : decode (mBc 215) 23 = .ok (.ireturn, 1))
theorem s215_24 : mSnd 215 24 (a_iload 25 2) := snd_iload_n (by decide +kernel : decode (mBc 215) 24 = .ok (.iload_n 2, 1)) rfl rfl
theorem s215_25 : mSnd 215 25 (a_if 28 43 (fun x => decide (x = 0))) := snd_if_eq (by decide +kernel : decode (mBc 215) 25 = .ok (.ifCond .eq 18, 3)) rfl rfl
theorem s215_28 : mSnd 215 28 (a_aload 29 0) := snd_aload_n (by decide +kernel : decode (mBc 215) 28 = .ok (.aload_n 0, 1)) rfl rfl
theorem s215_29 : mSnd 215 29 (a_getf 32 1 [10]) := snd_getf f28 q903 (Or.inl rfl) (by decide +kernel : decode (mBc 215) 29 = .ok (.getfield 13, 3)) rfl
theorem s215_32 : mSnd 215 32 (a_iload 33 1) := snd_iload_n (by decide +kernel : decode (mBc 215) 32 = .ok (.iload_n 1, 1)) rfl rfl
theorem s215_33 : mSnd 215 33 (a_iald 34) := snd_iald (by decide +kernel : decode (mBc 215) 33 = .ok (.iaload, 1)) rfl
theorem s215_34 : mSnd 215 34 (a_iload 35 2) := snd_iload_n (by decide +kernel : decode (mBc 215) 34 = .ok (.iload_n 2, 1)) rfl rfl
theorem s215_35 : mSnd 215 35 (a_icmp 38 43 (fun x y => decide (x = y))) := snd_icmp_eq (by decide +kernel : decode (mBc 215) 35 = .ok (.if_icmp .eq 8, 3)) rfl rfl
theorem s215_38 : mSnd 215 38 (a_push 40 (.int (iZ (-13)))) := snd_bipush (by decide +kernel : decode (mBc 215) 38 = .ok (.bipush (-13), 2)) (by decide +kernel) rfl
theorem s215_40 : mSnd 215 40 (a_goto 49) := snd_goto (by decide +kernel : decode (mBc 215) 40 = .ok (.goto 9, 3)) rfl
theorem s215_43 : mSnd 215 43 (a_aload 44 0) := snd_aload_n (by decide +kernel : decode (mBc 215) 43 = .ok (.aload_n 0, 1)) rfl rfl
theorem s215_44 : mSnd 215 44 (a_getf 47 2 [10]) := snd_getf f29 q904 (Or.inl rfl) (by decide +kernel : decode (mBc 215) 44 = .ok (.getfield 17, 3)) rfl
theorem s215_47 : mSnd 215 47 (a_iload 48 1) := snd_iload_n (by decide +kernel : decode (mBc 215) 47 = .ok (.iload_n 1, 1)) rfl rfl
theorem s215_48 : mSnd 215 48 (a_iald 49) := snd_iald (by decide +kernel : decode (mBc 215) 48 = .ok (.iaload, 1)) rfl
theorem s215_49 : mSnd 215 49 (a_iret 0 0) := snd_iret rfl rfl rfl (by decide +kernel : decode (mBc 215) 49 = .ok (.ireturn, 1))
theorem ok215 : mOkl2 215 ct215 := ⟨⟨s215_0, s215_1, s215_2, s215_3, s215_4, s215_7, s215_10, s215_12, s215_13, s215_14, s215_15, s215_18, trivial⟩, ⟨s215_21, s215_23, s215_24, s215_25, s215_28, s215_29, s215_32, s215_33, s215_34, s215_35, s215_38, s215_40, trivial⟩, ⟨s215_43, s215_44, s215_47, s215_48, s215_49, trivial⟩, trivial⟩
theorem s216_0 : mSnd 216 0 (a_iload 1 0) := snd_iload_n (by decide +kernel : decode (mBc 216) 0 = .ok (.iload_n 0, 1)) rfl rfl
theorem s216_1 : mSnd 216 1 (a_iload 2 1) := snd_iload_n (by decide +kernel : decode (mBc 216) 1 = .ok (.iload_n 1, 1)) rfl rfl
theorem s216_2 : mSnd 216 2 (a_icmp 5 9 (fun x y => decide (y ≤ x))) := snd_icmp_ge (by decide +kernel : decode (mBc 216) 2 = .ok (.if_icmp .ge 7, 3)) rfl rfl
theorem s216_5 : mSnd 216 5 (a_push 6 (.int (iZ (-1)))) := snd_iconst (by decide +kernel : decode (mBc 216) 5 = .ok (.iconst (-1), 1)) rfl rfl
theorem s216_6 : mSnd 216 6 (a_goto 19) := snd_goto (by decide +kernel : decode (mBc 216) 6 = .ok (.goto 13, 3)) rfl
theorem s216_9 : mSnd 216 9 (a_iload 10 0) := snd_iload_n (by decide +kernel : decode (mBc 216) 9 = .ok (.iload_n 0, 1)) rfl rfl
theorem s216_10 : mSnd 216 10 (a_iload 11 1) := snd_iload_n (by decide +kernel : decode (mBc 216) 10 = .ok (.iload_n 1, 1)) rfl rfl
theorem s216_11 : mSnd 216 11 (a_icmp 14 18 (fun x y => decide (¬ x = y))) := snd_icmp_ne (by decide +kernel : decode (mBc 216) 11 = .ok (.if_icmp .ne 7, 3)) rfl rfl
theorem s216_14 : mSnd 216 14 (a_push 15 (.int (iZ 0))) := snd_iconst (by decide +kernel : decode (mBc 216) 14 = .ok (.iconst 0, 1)) rfl rfl
theorem s216_15 : mSnd 216 15 (a_goto 19) := snd_goto (by decide +kernel : decode (mBc 216) 15 = .ok (.goto 4, 3)) rfl
theorem s216_18 : mSnd 216 18 (a_push 19 (.int (iZ 1))) := snd_iconst (by decide +kernel : decode (mBc 216) 18 = .ok (.iconst 1, 1)) rfl rfl
theorem s216_19 : mSnd 216 19 (a_iret 0 0) := snd_iret rfl rfl rfl (by decide +kernel : decode (mBc 216) 19 = .ok (.ireturn, 1))
theorem ok216 : mOkl2 216 ct216 := ⟨⟨s216_0, s216_1, s216_2, s216_5, s216_6, s216_9, s216_10, s216_11, s216_14, s216_15, s216_18, s216_19, trivial⟩, trivial⟩
theorem s217_0 : mSnd 217 0 (a_iload 1 0) := snd_iload_n (by decide +kernel : decode (mBc 217) 0 = .ok (.iload_n 0, 1)) rfl rfl
theorem s217_1 : mSnd 217 1 (a_iload 2 0) := snd_iload_n (by decide +kernel : decode (mBc 217) 1 = .ok (.iload_n 0, 1)) rfl rfl
theorem s217_2 : mSnd 217 2 (a_push 3 (.int (iZ 1))) := snd_iconst (by decide +kernel : decode (mBc 217) 2 = .ok (.iconst 1, 1)) rfl rfl
theorem s217_3 : mSnd 217 3 (a_ii 4 (fun x y => (x.toUInt32 >>> (y.toUInt32 &&& Int32.toUInt32 31)).toInt32)) := snd_iushr (by decide +kernel : decode (mBc 217) 3 = .ok (.iushr, 1)) rfl
theorem s217_4 : mSnd 217 4 (a_push 7 (.int (iZ 1431655765))) := snd_ldcw q288 (by decide +kernel : decode (mBc 217) 4 = .ok (.ldc_w 265, 3)) rfl
theorem s217_7 : mSnd 217 7 (a_ii 8 (fun x y => x &&& y)) := snd_iand (by decide +kernel : decode (mBc 217) 7 = .ok (.iand, 1)) rfl
theorem s217_8 : mSnd 217 8 (a_ii 9 (fun x y => x - y)) := snd_isub (by decide +kernel : decode (mBc 217) 8 = .ok (.isub, 1)) rfl
theorem s217_9 : mSnd 217 9 (a_istore 10 0) := snd_istore_n (by decide +kernel : decode (mBc 217) 9 = .ok (.istore_n 0, 1)) rfl (by decide) rfl
theorem s217_10 : mSnd 217 10 (a_iload 11 0) := snd_iload_n (by decide +kernel : decode (mBc 217) 10 = .ok (.iload_n 0, 1)) rfl rfl
theorem s217_11 : mSnd 217 11 (a_push 14 (.int (iZ 858993459))) := snd_ldcw q289 (by decide +kernel : decode (mBc 217) 11 = .ok (.ldc_w 266, 3)) rfl
theorem s217_14 : mSnd 217 14 (a_ii 15 (fun x y => x &&& y)) := snd_iand (by decide +kernel : decode (mBc 217) 14 = .ok (.iand, 1)) rfl
theorem s217_15 : mSnd 217 15 (a_iload 16 0) := snd_iload_n (by decide +kernel : decode (mBc 217) 15 = .ok (.iload_n 0, 1)) rfl rfl
theorem s217_16 : mSnd 217 16 (a_push 17 (.int (iZ 2))) := snd_iconst (by decide +kernel : decode (mBc 217) 16 = .ok (.iconst 2, 1)) rfl rfl
theorem s217_17 : mSnd 217 17 (a_ii 18 (fun x y => (x.toUInt32 >>> (y.toUInt32 &&& Int32.toUInt32 31)).toInt32)) := snd_iushr (by decide +kernel : decode (mBc 217) 17 = .ok (.iushr, 1)) rfl
theorem s217_18 : mSnd 217 18 (a_push 21 (.int (iZ 858993459))) := snd_ldcw q289 (by decide +kernel : decode (mBc 217) 18 = .ok (.ldc_w 266, 3)) rfl
theorem s217_21 : mSnd 217 21 (a_ii 22 (fun x y => x &&& y)) := snd_iand (by decide +kernel : decode (mBc 217) 21 = .ok (.iand, 1)) rfl
theorem s217_22 : mSnd 217 22 (a_ii 23 (fun x y => x + y)) := snd_iadd (by decide +kernel : decode (mBc 217) 22 = .ok (.iadd, 1)) rfl
theorem s217_23 : mSnd 217 23 (a_istore 24 0) := snd_istore_n (by decide +kernel : decode (mBc 217) 23 = .ok (.istore_n 0, 1)) rfl (by decide) rfl
theorem s217_24 : mSnd 217 24 (a_iload 25 0) := snd_iload_n (by decide +kernel : decode (mBc 217) 24 = .ok (.iload_n 0, 1)) rfl rfl
theorem s217_25 : mSnd 217 25 (a_iload 26 0) := snd_iload_n (by decide +kernel : decode (mBc 217) 25 = .ok (.iload_n 0, 1)) rfl rfl
theorem s217_26 : mSnd 217 26 (a_push 27 (.int (iZ 4))) := snd_iconst (by decide +kernel : decode (mBc 217) 26 = .ok (.iconst 4, 1)) rfl rfl
theorem s217_27 : mSnd 217 27 (a_ii 28 (fun x y => (x.toUInt32 >>> (y.toUInt32 &&& Int32.toUInt32 31)).toInt32)) := snd_iushr (by decide +kernel : decode (mBc 217) 27 = .ok (.iushr, 1)) rfl
theorem s217_28 : mSnd 217 28 (a_ii 29 (fun x y => x + y)) := snd_iadd (by decide +kernel : decode (mBc 217) 28 = .ok (.iadd, 1)) rfl
theorem s217_29 : mSnd 217 29 (a_push 32 (.int (iZ 252645135))) := snd_ldcw q290 (by decide +kernel : decode (mBc 217) 29 = .ok (.ldc_w 267, 3)) rfl
theorem s217_32 : mSnd 217 32 (a_ii 33 (fun x y => x &&& y)) := snd_iand (by decide +kernel : decode (mBc 217) 32 = .ok (.iand, 1)) rfl
theorem s217_33 : mSnd 217 33 (a_istore 34 0) := snd_istore_n (by decide +kernel : decode (mBc 217) 33 = .ok (.istore_n 0, 1)) rfl (by decide) rfl
theorem s217_34 : mSnd 217 34 (a_iload 35 0) := snd_iload_n (by decide +kernel : decode (mBc 217) 34 = .ok (.iload_n 0, 1)) rfl rfl
theorem s217_35 : mSnd 217 35 (a_iload 36 0) := snd_iload_n (by decide +kernel : decode (mBc 217) 35 = .ok (.iload_n 0, 1)) rfl rfl
theorem s217_36 : mSnd 217 36 (a_push 38 (.int (iZ 8))) := snd_bipush (by decide +kernel : decode (mBc 217) 36 = .ok (.bipush 8, 2)) (by decide +kernel) rfl
theorem s217_38 : mSnd 217 38 (a_ii 39 (fun x y => (x.toUInt32 >>> (y.toUInt32 &&& Int32.toUInt32 31)).toInt32)) := snd_iushr (by decide +kernel : decode (mBc 217) 38 = .ok (.iushr, 1)) rfl
theorem s217_39 : mSnd 217 39 (a_ii 40 (fun x y => x + y)) := snd_iadd (by decide +kernel : decode (mBc 217) 39 = .ok (.iadd, 1)) rfl
theorem s217_40 : mSnd 217 40 (a_istore 41 0) := snd_istore_n (by decide +kernel : decode (mBc 217) 40 = .ok (.istore_n 0, 1)) rfl (by decide) rfl
theorem s217_41 : mSnd 217 41 (a_iload 42 0) := snd_iload_n (by decide +kernel : decode (mBc 217) 41 = .ok (.iload_n 0, 1)) rfl rfl
theorem s217_42 : mSnd 217 42 (a_iload 43 0) := snd_iload_n (by decide +kernel : decode (mBc 217) 42 = .ok (.iload_n 0, 1)) rfl rfl
theorem s217_43 : mSnd 217 43 (a_push 45 (.int (iZ 16))) := snd_bipush (by decide +kernel : decode (mBc 217) 43 = .ok (.bipush 16, 2)) (by decide +kernel) rfl
theorem s217_45 : mSnd 217 45 (a_ii 46 (fun x y => (x.toUInt32 >>> (y.toUInt32 &&& Int32.toUInt32 31)).toInt32)) := snd_iushr (by decide +kernel : decode (mBc 217) 45 = .ok (.iushr, 1)) rfl
theorem s217_46 : mSnd 217 46 (a_ii 47 (fun x y => x + y)) := snd_iadd (by decide +kernel : decode (mBc 217) 46 = .ok (.iadd, 1)) rfl
theorem s217_47 : mSnd 217 47 (a_istore 48 0) := snd_istore_n (by decide +kernel : decode (mBc 217) 47 = .ok (.istore_n 0, 1)) rfl (by decide) rfl
theorem s217_48 : mSnd 217 48 (a_iload 49 0) := snd_iload_n (by decide +kernel : decode (mBc 217) 48 = .ok (.iload_n 0, 1)) rfl rfl
theorem s217_49 : mSnd 217 49 (a_push 51 (.int (iZ 63))) := snd_bipush (by decide +kernel : decode (mBc 217) 49 = .ok (.bipush 63, 2)) (by decide +kernel) rfl
theorem s217_51 : mSnd 217 51 (a_ii 52 (fun x y => x &&& y)) := snd_iand (by decide +kernel : decode (mBc 217) 51 = .ok (.iand, 1)) rfl
theorem s217_52 : mSnd 217 52 (a_iret 0 0) := snd_iret rfl rfl rfl (by decide +kernel : decode (mBc 217) 52 = .ok (.ireturn, 1))
theorem ok217 : mOkl2 217 ct217 := ⟨⟨s217_0, s217_1, s217_2, s217_3, s217_4, s217_7, s217_8, s217_9, s217_10, s217_11, s217_14, s217_15, trivial⟩, ⟨s217_16, s217_17, s217_18, s217_21, s217_22, s217_23, s217_24, s217_25, s217_26, s217_27, s217_28, s217_29, trivial⟩, ⟨s217_32, s217_33, s217_34, s217_35, s217_36, s217_38, s217_39, s217_40, s217_41, s217_42, s217_43, s217_45, trivial⟩, ⟨s217_46, s217_47, s217_48, s217_49, s217_51, s217_52, trivial⟩, trivial⟩
theorem s218_0 : mSnd 218 0 (a_lload 1 0) := snd_lload_n (by decide +kernel : decode (mBc 218) 0 = .ok (.lload_n 0, 1)) rfl rfl
theorem s218_1 : mSnd 218 1 (a_push 2 (.long (lZ 0))) := snd_lconst (by decide +kernel : decode (mBc 218) 1 = .ok (.lconst 0, 1)) (by decide +kernel) rfl
theorem s218_2 : mSnd 218 2 (a_lcmp 3) := snd_lcmp (by decide +kernel : decode (mBc 218) 2 = .ok (.lcmp, 1)) rfl
theorem s218_3 : mSnd 218 3 (a_if 6 11 (fun x => decide (0 ≤ x))) := snd_if_ge (by decide +kernel : decode (mBc 218) 3 = .ok (.ifCond .ge 8, 3)) rfl rfl
theorem s218_6 : mSnd 218 6 (a_lload 7 0) := snd_lload_n (by decide +kernel : decode (mBc 218) 6 = .ok (.lload_n 0, 1)) rfl rfl
theorem s218_7 : mSnd 218 7 (a_l 8 (fun x => -x)) := snd_lneg (by decide +kernel : decode (mBc 218) 7 = .ok (.lneg, 1)) rfl
theorem s218_8 : mSnd 218 8 (a_goto 12) := snd_goto (by decide +kernel : decode (mBc 218) 8 = .ok (.goto 4, 3)) rfl
theorem s218_11 : mSnd 218 11 (a_lload 12 0) := snd_lload_n (by decide +kernel : decode (mBc 218) 11 = .ok (.lload_n 0, 1)) rfl rfl
theorem s218_12 : mSnd 218 12 (a_lret 0 0) := snd_lret rfl rfl rfl (by decide +kernel : decode (mBc 218) 12 = .ok (.lreturn, 1))
theorem ok218 : mOkl2 218 ct218 := ⟨⟨s218_0, s218_1, s218_2, s218_3, s218_6, s218_7, s218_8, s218_11, s218_12, trivial⟩, trivial⟩
theorem s219_0 : mSnd 219 0 (a_iload 1 0) := snd_iload_n (by decide +kernel : decode (mBc 219) 0 = .ok (.iload_n 0, 1)) rfl rfl
theorem s219_1 : mSnd 219 1 (a_iload 2 1) := snd_iload_n (by decide +kernel : decode (mBc 219) 1 = .ok (.iload_n 1, 1)) rfl rfl
theorem s219_2 : mSnd 219 2 (a_icmp 5 9 (fun x y => decide (x < y))) := snd_icmp_lt (by decide +kernel : decode (mBc 219) 2 = .ok (.if_icmp .lt 7, 3)) rfl rfl
theorem s219_5 : mSnd 219 5 (a_iload 6 0) := snd_iload_n (by decide +kernel : decode (mBc 219) 5 = .ok (.iload_n 0, 1)) rfl rfl
theorem s219_6 : mSnd 219 6 (a_goto 10) := snd_goto (by decide +kernel : decode (mBc 219) 6 = .ok (.goto 4, 3)) rfl
theorem s219_9 : mSnd 219 9 (a_iload 10 1) := snd_iload_n (by decide +kernel : decode (mBc 219) 9 = .ok (.iload_n 1, 1)) rfl rfl
theorem s219_10 : mSnd 219 10 (a_iret 0 0) := snd_iret rfl rfl rfl (by decide +kernel : decode (mBc 219) 10 = .ok (.ireturn, 1))
theorem ok219 : mOkl2 219 ct219 := ⟨⟨s219_0, s219_1, s219_2, s219_5, s219_6, s219_9, s219_10, trivial⟩, trivial⟩
theorem s220_0 : mSnd 220 0 (a_iload 1 0) := snd_iload_n (by decide +kernel : decode (mBc 220) 0 = .ok (.iload_n 0, 1)) rfl rfl
theorem s220_1 : mSnd 220 1 (a_iload 2 1) := snd_iload_n (by decide +kernel : decode (mBc 220) 1 = .ok (.iload_n 1, 1)) rfl rfl
theorem s220_2 : mSnd 220 2 (a_icmp 5 9 (fun x y => decide (y < x))) := snd_icmp_gt (by decide +kernel : decode (mBc 220) 2 = .ok (.if_icmp .gt 7, 3)) rfl rfl
theorem s220_5 : mSnd 220 5 (a_iload 6 0) := snd_iload_n (by decide +kernel : decode (mBc 220) 5 = .ok (.iload_n 0, 1)) rfl rfl
theorem s220_6 : mSnd 220 6 (a_goto 10) := snd_goto (by decide +kernel : decode (mBc 220) 6 = .ok (.goto 4, 3)) rfl
theorem s220_9 : mSnd 220 9 (a_iload 10 1) := snd_iload_n (by decide +kernel : decode (mBc 220) 9 = .ok (.iload_n 1, 1)) rfl rfl
theorem s220_10 : mSnd 220 10 (a_iret 0 0) := snd_iret rfl rfl rfl (by decide +kernel : decode (mBc 220) 10 = .ok (.ireturn, 1))
theorem ok220 : mOkl2 220 ct220 := ⟨⟨s220_0, s220_1, s220_2, s220_5, s220_6, s220_9, s220_10, trivial⟩, trivial⟩
theorem s221_0 : mSnd 221 0 (a_new 3 9 6 600000 7302250 [.null, .int 0, .null, .null, .null, .null]) := snd_new (q := (RX9, TX9, 6)) rfl rfl rfl rfl (by decide +kernel) (by intro v hv a e; subst e; simp at hv) q15 q16 q1 (by decide +kernel : decode (mBc 221) 0 = .ok (.new 7, 3)) rfl
theorem s221_3 : mSnd 221 3 (a_dup 4) := snd_dup (by decide +kernel : decode (mBc 221) 3 = .ok (.dup, 1)) rfl
theorem s221_4 : mSnd 221 4 (a_invI 7 78 0 600000 7302250 8 110) := snd_invI k221_78 rfl rfl rfl rfl q17 q18 q1 (by decide +kernel) (by decide +kernel : decode (mBc 221) 4 = .ok (.invokespecial 9, 3)) rfl
theorem s221_7 : mSnd 221 7 (a_astore 8 1) := snd_astore_n (by decide +kernel : decode (mBc 221) 7 = .ok (.astore_n 1, 1)) rfl (by decide) rfl
theorem s221_8 : mSnd 221 8 (a_new 11 10 21 600000 7302250 [.int 0, .null, .null, .null, .null, .int 0, .null, .null, .long 0, .long 0, .null, .null, .null, .int 0, .null, .null, .int 0, .null, .null, .null, .null]) := snd_new (q := (RX10, TX10, 21)) rfl rfl rfl rfl (by decide +kernel) (by intro v hv a e; subst e; simp at hv) q896 q897 q4 (by decide +kernel : decode (mBc 221) 8 = .ok (.new 10, 3)) rfl
theorem s221_11 : mSnd 221 11 (a_dup 12) := snd_dup (by decide +kernel : decode (mBc 221) 11 = .ok (.dup, 1)) rfl
theorem s221_12 : mSnd 221 12 (a_invI 15 136 0 600000 7302250 15 3762) := snd_invI k221_136 rfl rfl rfl rfl q898 q899 q4 (by decide +kernel) (by decide +kernel : decode (mBc 221) 12 = .ok (.invokespecial 12, 3)) rfl
theorem s221_15 : mSnd 221 15 (a_astore 16 2) := snd_astore_n (by decide +kernel : decode (mBc 221) 15 = .ok (.astore_n 2, 1)) rfl (by decide) rfl
theorem s221_16 : mSnd 221 16 (a_push 17 (.int (iZ 0))) := snd_iconst (by decide +kernel : decode (mBc 221) 16 = .ok (.iconst 0, 1)) rfl rfl
theorem s221_17 : mSnd 221 17 (a_istore 18 3) := snd_istore_n (by decide +kernel : decode (mBc 221) 17 = .ok (.istore_n 3, 1)) rfl (by decide) rfl
theorem s221_18 : mSnd 221 18 (a_iload 19 3) := snd_iload_n (by decide +kernel : decode (mBc 221) 18 = .ok (.iload_n 3, 1)) rfl rfl
theorem s221_19 : mSnd 221 19 (a_aload 20 0) := snd_aload_n (by decide +kernel : decode (mBc 221) 19 = .ok (.aload_n 0, 1)) rfl rfl
theorem s221_20 : mSnd 221 20 (a_alen 21) := snd_alen (by decide +kernel : decode (mBc 221) 20 = .ok (.arraylength, 1)) rfl
theorem s221_21 : mSnd 221 21 (a_push 23 (.int (iZ 6))) := snd_bipush (by decide +kernel : decode (mBc 221) 21 = .ok (.bipush 6, 2)) (by decide +kernel) rfl
theorem s221_23 : mSnd 221 23 (a_ii 24 (fun x y => x - y)) := snd_isub (by decide +kernel : decode (mBc 221) 23 = .ok (.isub, 1)) rfl
theorem s221_24 : mSnd 221 24 (a_icmp 27 1538 (fun x y => decide (y < x))) := snd_icmp_gt (by decide +kernel : decode (mBc 221) 24 = .ok (.if_icmp .gt 1514, 3)) rfl rfl
theorem s221_27 : mSnd 221 27 (a_aload 28 0) := snd_aload_n (by decide +kernel : decode (mBc 221) 27 = .ok (.aload_n 0, 1)) rfl rfl
theorem s221_28 : mSnd 221 28 (a_iload 29 3) := snd_iload_n (by decide +kernel : decode (mBc 221) 28 = .ok (.iload_n 3, 1)) rfl rfl
theorem s221_29 : mSnd 221 29 (a_iald 30) := snd_iald (by decide +kernel : decode (mBc 221) 29 = .ok (.iaload, 1)) rfl
theorem s221_30 : mSnd 221 30 (a_push 32 (.int (iZ 63))) := snd_bipush (by decide +kernel : decode (mBc 221) 30 = .ok (.bipush 63, 2)) (by decide +kernel) rfl
theorem s221_32 : mSnd 221 32 (a_ii 33 (fun x y => x &&& y)) := snd_iand (by decide +kernel : decode (mBc 221) 32 = .ok (.iand, 1)) rfl
theorem s221_33 : mSnd 221 33 (a_tsw 1532 0 34 [188, 211, 254, 297, 330, 363, 416, 449, 492, 515, 528, 561, 595, 639, 693, 747, 780, 834, 888, 922, 966, 989, 1032, 1075, 1098, 1122, 1185, 1208, 1251, 1274, 1297, 1340, 1383, 1436, 1499]) := snd_tsw (by decide +kernel : decode (mBc 221) 33 = .ok (.tableswitch 1499 0 34 #[155, 178, 221, 264, 297, 330, 383, 416, 459, 482, 495, 528, 562, 606, 660, 714, 747, 801, 855, 889, 933, 956, 999, 1042, 1065, 1089, 1152, 1175, 1218, 1241, 1264, 1307, 1350, 1403, 1466], 155)) rfl (by decide +kernel)
theorem s221_188 : mSnd 221 188 (a_aload 189 1) := snd_aload_n (by decide +kernel : decode (mBc 221) 188 = .ok (.aload_n 1, 1)) rfl rfl
theorem s221_189 : mSnd 221 189 (a_aload 190 0) := snd_aload_n (by decide +kernel : decode (mBc 221) 189 = .ok (.aload_n 0, 1)) rfl rfl
theorem s221_190 : mSnd 221 190 (a_iload 191 3) := snd_iload_n (by decide +kernel : decode (mBc 221) 190 = .ok (.iload_n 3, 1)) rfl rfl
theorem s221_191 : mSnd 221 191 (a_push 192 (.int (iZ 1))) := snd_iconst (by decide +kernel : decode (mBc 221) 191 = .ok (.iconst 1, 1)) rfl rfl
theorem s221_192 : mSnd 221 192 (a_ii 193 (fun x y => x + y)) := snd_iadd (by decide +kernel : decode (mBc 221) 192 = .ok (.iadd, 1)) rfl
theorem s221_193 : mSnd 221 193 (a_iald 194) := snd_iald (by decide +kernel : decode (mBc 221) 193 = .ok (.iaload, 1)) rfl
theorem s221_194 : mSnd 221 194 (a_invV 197 1 600000 7302250 [(9, 79, 9, 158)]) := snd_invV v221_13 rfl rfl (by decide +kernel : decode (mBc 221) 194 = .ok (.invokevirtual 13, 3)) rfl
theorem s221_197 : mSnd 221 197 (a_aload 198 2) := snd_aload_n (by decide +kernel : decode (mBc 221) 197 = .ok (.aload_n 2, 1)) rfl rfl
theorem s221_198 : mSnd 221 198 (a_aload 199 0) := snd_aload_n (by decide +kernel : decode (mBc 221) 198 = .ok (.aload_n 0, 1)) rfl rfl
theorem s221_199 : mSnd 221 199 (a_iload 200 3) := snd_iload_n (by decide +kernel : decode (mBc 221) 199 = .ok (.iload_n 3, 1)) rfl rfl
theorem s221_200 : mSnd 221 200 (a_push 201 (.int (iZ 1))) := snd_iconst (by decide +kernel : decode (mBc 221) 200 = .ok (.iconst 1, 1)) rfl rfl
theorem s221_201 : mSnd 221 201 (a_ii 202 (fun x y => x + y)) := snd_iadd (by decide +kernel : decode (mBc 221) 201 = .ok (.iadd, 1)) rfl
theorem s221_202 : mSnd 221 202 (a_iald 203) := snd_iald (by decide +kernel : decode (mBc 221) 202 = .ok (.iaload, 1)) rfl
theorem s221_203 : mSnd 221 203 (a_invV 206 1 600000 7302250 [(10, 147, 0, 0)]) := snd_invV v221_17 rfl rfl (by decide +kernel : decode (mBc 221) 203 = .ok (.invokevirtual 17, 3)) rfl
theorem s221_206 : mSnd 221 206 (a_icmp 209 1532 (fun x y => decide (x = y))) := snd_icmp_eq (by decide +kernel : decode (mBc 221) 206 = .ok (.if_icmp .eq 1326, 3)) rfl rfl
theorem s221_209 : mSnd 221 209 (a_push 210 (.int (iZ 0))) := snd_iconst (by decide +kernel : decode (mBc 221) 209 = .ok (.iconst 0, 1)) rfl rfl
theorem s221_210 : mSnd 221 210 (a_zret 600000 7302250) := snd_zret rfl rfl rfl (by decide +kernel : decode (mBc 221) 210 = .ok (.ireturn, 1))
theorem s221_211 : mSnd 221 211 (a_aload 212 1) := snd_aload_n (by decide +kernel : decode (mBc 221) 211 = .ok (.aload_n 1, 1)) rfl rfl
theorem s221_212 : mSnd 221 212 (a_aload 213 0) := snd_aload_n (by decide +kernel : decode (mBc 221) 212 = .ok (.aload_n 0, 1)) rfl rfl
theorem s221_213 : mSnd 221 213 (a_iload 214 3) := snd_iload_n (by decide +kernel : decode (mBc 221) 213 = .ok (.iload_n 3, 1)) rfl rfl
theorem s221_214 : mSnd 221 214 (a_push 215 (.int (iZ 1))) := snd_iconst (by decide +kernel : decode (mBc 221) 214 = .ok (.iconst 1, 1)) rfl rfl
theorem s221_215 : mSnd 221 215 (a_ii 216 (fun x y => x + y)) := snd_iadd (by decide +kernel : decode (mBc 221) 215 = .ok (.iadd, 1)) rfl
theorem s221_216 : mSnd 221 216 (a_iald 217) := snd_iald (by decide +kernel : decode (mBc 221) 216 = .ok (.iaload, 1)) rfl
theorem s221_217 : mSnd 221 217 (a_aload 218 0) := snd_aload_n (by decide +kernel : decode (mBc 221) 217 = .ok (.aload_n 0, 1)) rfl rfl
theorem s221_218 : mSnd 221 218 (a_iload 219 3) := snd_iload_n (by decide +kernel : decode (mBc 221) 218 = .ok (.iload_n 3, 1)) rfl rfl
theorem s221_219 : mSnd 221 219 (a_push 220 (.int (iZ 2))) := snd_iconst (by decide +kernel : decode (mBc 221) 219 = .ok (.iconst 2, 1)) rfl rfl
theorem s221_220 : mSnd 221 220 (a_ii 221 (fun x y => x + y)) := snd_iadd (by decide +kernel : decode (mBc 221) 220 = .ok (.iadd, 1)) rfl
theorem s221_221 : mSnd 221 221 (a_iald 222) := snd_iald (by decide +kernel : decode (mBc 221) 221 = .ok (.iaload, 1)) rfl
theorem s221_222 : mSnd 221 222 (a_aload 223 0) := snd_aload_n (by decide +kernel : decode (mBc 221) 222 = .ok (.aload_n 0, 1)) rfl rfl
theorem s221_223 : mSnd 221 223 (a_iload 224 3) := snd_iload_n (by decide +kernel : decode (mBc 221) 223 = .ok (.iload_n 3, 1)) rfl rfl
theorem s221_224 : mSnd 221 224 (a_push 225 (.int (iZ 3))) := snd_iconst (by decide +kernel : decode (mBc 221) 224 = .ok (.iconst 3, 1)) rfl rfl
theorem s221_225 : mSnd 221 225 (a_ii 226 (fun x y => x + y)) := snd_iadd (by decide +kernel : decode (mBc 221) 225 = .ok (.iadd, 1)) rfl
theorem s221_226 : mSnd 221 226 (a_iald 227) := snd_iald (by decide +kernel : decode (mBc 221) 226 = .ok (.iaload, 1)) rfl
theorem s221_227 : mSnd 221 227 (a_invV 230 3 600000 7302250 [(9, 80, 0, 0)]) := snd_invV v221_18 rfl rfl (by decide +kernel : decode (mBc 221) 227 = .ok (.invokevirtual 18, 3)) rfl
theorem s221_230 : mSnd 221 230 (a_aload 231 2) := snd_aload_n (by decide +kernel : decode (mBc 221) 230 = .ok (.aload_n 2, 1)) rfl rfl
theorem s221_231 : mSnd 221 231 (a_aload 232 0) := snd_aload_n (by decide +kernel : decode (mBc 221) 231 = .ok (.aload_n 0, 1)) rfl rfl
theorem s221_232 : mSnd 221 232 (a_iload 233 3) := snd_iload_n (by decide +kernel : decode (mBc 221) 232 = .ok (.iload_n 3, 1)) rfl rfl
theorem s221_233 : mSnd 221 233 (a_push 234 (.int (iZ 1))) := snd_iconst (by decide +kernel : decode (mBc 221) 233 = .ok (.iconst 1, 1)) rfl rfl
theorem s221_234 : mSnd 221 234 (a_ii 235 (fun x y => x + y)) := snd_iadd (by decide +kernel : decode (mBc 221) 234 = .ok (.iadd, 1)) rfl
theorem s221_235 : mSnd 221 235 (a_iald 236) := snd_iald (by decide +kernel : decode (mBc 221) 235 = .ok (.iaload, 1)) rfl
theorem s221_236 : mSnd 221 236 (a_aload 237 0) := snd_aload_n (by decide +kernel : decode (mBc 221) 236 = .ok (.aload_n 0, 1)) rfl rfl
theorem s221_237 : mSnd 221 237 (a_iload 238 3) := snd_iload_n (by decide +kernel : decode (mBc 221) 237 = .ok (.iload_n 3, 1)) rfl rfl
theorem s221_238 : mSnd 221 238 (a_push 239 (.int (iZ 2))) := snd_iconst (by decide +kernel : decode (mBc 221) 238 = .ok (.iconst 2, 1)) rfl rfl
theorem s221_239 : mSnd 221 239 (a_ii 240 (fun x y => x + y)) := snd_iadd (by decide +kernel : decode (mBc 221) 239 = .ok (.iadd, 1)) rfl
theorem s221_240 : mSnd 221 240 (a_iald 241) := snd_iald (by decide +kernel : decode (mBc 221) 240 = .ok (.iaload, 1)) rfl
theorem s221_241 : mSnd 221 241 (a_aload 242 0) := snd_aload_n (by decide +kernel : decode (mBc 221) 241 = .ok (.aload_n 0, 1)) rfl rfl
theorem s221_242 : mSnd 221 242 (a_iload 243 3) := snd_iload_n (by decide +kernel : decode (mBc 221) 242 = .ok (.iload_n 3, 1)) rfl rfl
theorem s221_243 : mSnd 221 243 (a_push 244 (.int (iZ 3))) := snd_iconst (by decide +kernel : decode (mBc 221) 243 = .ok (.iconst 3, 1)) rfl rfl
theorem s221_244 : mSnd 221 244 (a_ii 245 (fun x y => x + y)) := snd_iadd (by decide +kernel : decode (mBc 221) 244 = .ok (.iadd, 1)) rfl
theorem s221_245 : mSnd 221 245 (a_iald 246) := snd_iald (by decide +kernel : decode (mBc 221) 245 = .ok (.iaload, 1)) rfl
theorem s221_246 : mSnd 221 246 (a_invV 249 3 600000 7302250 [(10, 148, 0, 0)]) := snd_invV v221_22 rfl rfl (by decide +kernel : decode (mBc 221) 246 = .ok (.invokevirtual 22, 3)) rfl
theorem s221_249 : mSnd 221 249 (a_icmp 252 1532 (fun x y => decide (x = y))) := snd_icmp_eq (by decide +kernel : decode (mBc 221) 249 = .ok (.if_icmp .eq 1283, 3)) rfl rfl
theorem s221_252 : mSnd 221 252 (a_push 253 (.int (iZ 0))) := snd_iconst (by decide +kernel : decode (mBc 221) 252 = .ok (.iconst 0, 1)) rfl rfl
theorem s221_253 : mSnd 221 253 (a_zret 600000 7302250) := snd_zret rfl rfl rfl (by decide +kernel : decode (mBc 221) 253 = .ok (.ireturn, 1))
theorem s221_254 : mSnd 221 254 (a_aload 255 1) := snd_aload_n (by decide +kernel : decode (mBc 221) 254 = .ok (.aload_n 1, 1)) rfl rfl
theorem s221_255 : mSnd 221 255 (a_aload 256 0) := snd_aload_n (by decide +kernel : decode (mBc 221) 255 = .ok (.aload_n 0, 1)) rfl rfl
theorem s221_256 : mSnd 221 256 (a_iload 257 3) := snd_iload_n (by decide +kernel : decode (mBc 221) 256 = .ok (.iload_n 3, 1)) rfl rfl
theorem s221_257 : mSnd 221 257 (a_push 258 (.int (iZ 1))) := snd_iconst (by decide +kernel : decode (mBc 221) 257 = .ok (.iconst 1, 1)) rfl rfl
theorem s221_258 : mSnd 221 258 (a_ii 259 (fun x y => x + y)) := snd_iadd (by decide +kernel : decode (mBc 221) 258 = .ok (.iadd, 1)) rfl
theorem s221_259 : mSnd 221 259 (a_iald 260) := snd_iald (by decide +kernel : decode (mBc 221) 259 = .ok (.iaload, 1)) rfl
theorem s221_260 : mSnd 221 260 (a_aload 261 0) := snd_aload_n (by decide +kernel : decode (mBc 221) 260 = .ok (.aload_n 0, 1)) rfl rfl
theorem s221_261 : mSnd 221 261 (a_iload 262 3) := snd_iload_n (by decide +kernel : decode (mBc 221) 261 = .ok (.iload_n 3, 1)) rfl rfl
theorem s221_262 : mSnd 221 262 (a_push 263 (.int (iZ 2))) := snd_iconst (by decide +kernel : decode (mBc 221) 262 = .ok (.iconst 2, 1)) rfl rfl
theorem s221_263 : mSnd 221 263 (a_ii 264 (fun x y => x + y)) := snd_iadd (by decide +kernel : decode (mBc 221) 263 = .ok (.iadd, 1)) rfl
theorem s221_264 : mSnd 221 264 (a_iald 265) := snd_iald (by decide +kernel : decode (mBc 221) 264 = .ok (.iaload, 1)) rfl
theorem s221_265 : mSnd 221 265 (a_aload 266 0) := snd_aload_n (by decide +kernel : decode (mBc 221) 265 = .ok (.aload_n 0, 1)) rfl rfl
theorem s221_266 : mSnd 221 266 (a_iload 267 3) := snd_iload_n (by decide +kernel : decode (mBc 221) 266 = .ok (.iload_n 3, 1)) rfl rfl
theorem s221_267 : mSnd 221 267 (a_push 268 (.int (iZ 3))) := snd_iconst (by decide +kernel : decode (mBc 221) 267 = .ok (.iconst 3, 1)) rfl rfl
theorem s221_268 : mSnd 221 268 (a_ii 269 (fun x y => x + y)) := snd_iadd (by decide +kernel : decode (mBc 221) 268 = .ok (.iadd, 1)) rfl
theorem s221_269 : mSnd 221 269 (a_iald 270) := snd_iald (by decide +kernel : decode (mBc 221) 269 = .ok (.iaload, 1)) rfl
theorem s221_270 : mSnd 221 270 (a_invV 273 3 600000 7302250 [(9, 81, 9, 158)]) := snd_invV v221_23 rfl rfl (by decide +kernel : decode (mBc 221) 270 = .ok (.invokevirtual 23, 3)) rfl
theorem s221_273 : mSnd 221 273 (a_aload 274 2) := snd_aload_n (by decide +kernel : decode (mBc 221) 273 = .ok (.aload_n 2, 1)) rfl rfl
theorem s221_274 : mSnd 221 274 (a_aload 275 0) := snd_aload_n (by decide +kernel : decode (mBc 221) 274 = .ok (.aload_n 0, 1)) rfl rfl
theorem s221_275 : mSnd 221 275 (a_iload 276 3) := snd_iload_n (by decide +kernel : decode (mBc 221) 275 = .ok (.iload_n 3, 1)) rfl rfl
theorem s221_276 : mSnd 221 276 (a_push 277 (.int (iZ 1))) := snd_iconst (by decide +kernel : decode (mBc 221) 276 = .ok (.iconst 1, 1)) rfl rfl
theorem s221_277 : mSnd 221 277 (a_ii 278 (fun x y => x + y)) := snd_iadd (by decide +kernel : decode (mBc 221) 277 = .ok (.iadd, 1)) rfl
theorem s221_278 : mSnd 221 278 (a_iald 279) := snd_iald (by decide +kernel : decode (mBc 221) 278 = .ok (.iaload, 1)) rfl
theorem s221_279 : mSnd 221 279 (a_aload 280 0) := snd_aload_n (by decide +kernel : decode (mBc 221) 279 = .ok (.aload_n 0, 1)) rfl rfl
theorem s221_280 : mSnd 221 280 (a_iload 281 3) := snd_iload_n (by decide +kernel : decode (mBc 221) 280 = .ok (.iload_n 3, 1)) rfl rfl
theorem s221_281 : mSnd 221 281 (a_push 282 (.int (iZ 2))) := snd_iconst (by decide +kernel : decode (mBc 221) 281 = .ok (.iconst 2, 1)) rfl rfl
theorem s221_282 : mSnd 221 282 (a_ii 283 (fun x y => x + y)) := snd_iadd (by decide +kernel : decode (mBc 221) 282 = .ok (.iadd, 1)) rfl
theorem s221_283 : mSnd 221 283 (a_iald 284) := snd_iald (by decide +kernel : decode (mBc 221) 283 = .ok (.iaload, 1)) rfl
theorem s221_284 : mSnd 221 284 (a_aload 285 0) := snd_aload_n (by decide +kernel : decode (mBc 221) 284 = .ok (.aload_n 0, 1)) rfl rfl
theorem s221_285 : mSnd 221 285 (a_iload 286 3) := snd_iload_n (by decide +kernel : decode (mBc 221) 285 = .ok (.iload_n 3, 1)) rfl rfl
theorem s221_286 : mSnd 221 286 (a_push 287 (.int (iZ 3))) := snd_iconst (by decide +kernel : decode (mBc 221) 286 = .ok (.iconst 3, 1)) rfl rfl
theorem s221_287 : mSnd 221 287 (a_ii 288 (fun x y => x + y)) := snd_iadd (by decide +kernel : decode (mBc 221) 287 = .ok (.iadd, 1)) rfl
theorem s221_288 : mSnd 221 288 (a_iald 289) := snd_iald (by decide +kernel : decode (mBc 221) 288 = .ok (.iaload, 1)) rfl
theorem s221_289 : mSnd 221 289 (a_invV 292 3 600000 7302250 [(10, 151, 0, 0)]) := snd_invV v221_26 rfl rfl (by decide +kernel : decode (mBc 221) 289 = .ok (.invokevirtual 26, 3)) rfl
theorem s221_292 : mSnd 221 292 (a_icmp 295 1532 (fun x y => decide (x = y))) := snd_icmp_eq (by decide +kernel : decode (mBc 221) 292 = .ok (.if_icmp .eq 1240, 3)) rfl rfl
theorem s221_295 : mSnd 221 295 (a_push 296 (.int (iZ 0))) := snd_iconst (by decide +kernel : decode (mBc 221) 295 = .ok (.iconst 0, 1)) rfl rfl
theorem s221_296 : mSnd 221 296 (a_zret 600000 7302250) := snd_zret rfl rfl rfl (by decide +kernel : decode (mBc 221) 296 = .ok (.ireturn, 1))
theorem s221_297 : mSnd 221 297 (a_aload 298 1) := snd_aload_n (by decide +kernel : decode (mBc 221) 297 = .ok (.aload_n 1, 1)) rfl rfl
theorem s221_298 : mSnd 221 298 (a_aload 299 0) := snd_aload_n (by decide +kernel : decode (mBc 221) 298 = .ok (.aload_n 0, 1)) rfl rfl
theorem s221_299 : mSnd 221 299 (a_iload 300 3) := snd_iload_n (by decide +kernel : decode (mBc 221) 299 = .ok (.iload_n 3, 1)) rfl rfl
theorem s221_300 : mSnd 221 300 (a_push 301 (.int (iZ 1))) := snd_iconst (by decide +kernel : decode (mBc 221) 300 = .ok (.iconst 1, 1)) rfl rfl
theorem s221_301 : mSnd 221 301 (a_ii 302 (fun x y => x + y)) := snd_iadd (by decide +kernel : decode (mBc 221) 301 = .ok (.iadd, 1)) rfl
theorem s221_302 : mSnd 221 302 (a_iald 303) := snd_iald (by decide +kernel : decode (mBc 221) 302 = .ok (.iaload, 1)) rfl
theorem s221_303 : mSnd 221 303 (a_aload 304 0) := snd_aload_n (by decide +kernel : decode (mBc 221) 303 = .ok (.aload_n 0, 1)) rfl rfl
theorem s221_304 : mSnd 221 304 (a_iload 305 3) := snd_iload_n (by decide +kernel : decode (mBc 221) 304 = .ok (.iload_n 3, 1)) rfl rfl
theorem s221_305 : mSnd 221 305 (a_push 306 (.int (iZ 2))) := snd_iconst (by decide +kernel : decode (mBc 221) 305 = .ok (.iconst 2, 1)) rfl rfl
theorem s221_306 : mSnd 221 306 (a_ii 307 (fun x y => x + y)) := snd_iadd (by decide +kernel : decode (mBc 221) 306 = .ok (.iadd, 1)) rfl
theorem s221_307 : mSnd 221 307 (a_iald 308) := snd_iald (by decide +kernel : decode (mBc 221) 307 = .ok (.iaload, 1)) rfl
theorem s221_308 : mSnd 221 308 (a_invV 311 2 600000 7302250 [(9, 82, 9, 158)]) := snd_invV v221_27 rfl rfl (by decide +kernel : decode (mBc 221) 308 = .ok (.invokevirtual 27, 3)) rfl
theorem s221_311 : mSnd 221 311 (a_aload 312 2) := snd_aload_n (by decide +kernel : decode (mBc 221) 311 = .ok (.aload_n 2, 1)) rfl rfl
theorem s221_312 : mSnd 221 312 (a_aload 313 0) := snd_aload_n (by decide +kernel : decode (mBc 221) 312 = .ok (.aload_n 0, 1)) rfl rfl
theorem s221_313 : mSnd 221 313 (a_iload 314 3) := snd_iload_n (by decide +kernel : decode (mBc 221) 313 = .ok (.iload_n 3, 1)) rfl rfl
theorem s221_314 : mSnd 221 314 (a_push 315 (.int (iZ 1))) := snd_iconst (by decide +kernel : decode (mBc 221) 314 = .ok (.iconst 1, 1)) rfl rfl
theorem s221_315 : mSnd 221 315 (a_ii 316 (fun x y => x + y)) := snd_iadd (by decide +kernel : decode (mBc 221) 315 = .ok (.iadd, 1)) rfl
theorem s221_316 : mSnd 221 316 (a_iald 317) := snd_iald (by decide +kernel : decode (mBc 221) 316 = .ok (.iaload, 1)) rfl
theorem s221_317 : mSnd 221 317 (a_aload 318 0) := snd_aload_n (by decide +kernel : decode (mBc 221) 317 = .ok (.aload_n 0, 1)) rfl rfl
theorem s221_318 : mSnd 221 318 (a_iload 319 3) := snd_iload_n (by decide +kernel : decode (mBc 221) 318 = .ok (.iload_n 3, 1)) rfl rfl
theorem s221_319 : mSnd 221 319 (a_push 320 (.int (iZ 2))) := snd_iconst (by decide +kernel : decode (mBc 221) 319 = .ok (.iconst 2, 1)) rfl rfl
theorem s221_320 : mSnd 221 320 (a_ii 321 (fun x y => x + y)) := snd_iadd (by decide +kernel : decode (mBc 221) 320 = .ok (.iadd, 1)) rfl
theorem s221_321 : mSnd 221 321 (a_iald 322) := snd_iald (by decide +kernel : decode (mBc 221) 321 = .ok (.iaload, 1)) rfl
theorem s221_322 : mSnd 221 322 (a_invV 325 2 600000 7302250 [(10, 152, 0, 0)]) := snd_invV v221_31 rfl rfl (by decide +kernel : decode (mBc 221) 322 = .ok (.invokevirtual 31, 3)) rfl
theorem s221_325 : mSnd 221 325 (a_icmp 328 1532 (fun x y => decide (x = y))) := snd_icmp_eq (by decide +kernel : decode (mBc 221) 325 = .ok (.if_icmp .eq 1207, 3)) rfl rfl
theorem s221_328 : mSnd 221 328 (a_push 329 (.int (iZ 0))) := snd_iconst (by decide +kernel : decode (mBc 221) 328 = .ok (.iconst 0, 1)) rfl rfl
theorem s221_329 : mSnd 221 329 (a_zret 600000 7302250) := snd_zret rfl rfl rfl (by decide +kernel : decode (mBc 221) 329 = .ok (.ireturn, 1))
theorem s221_330 : mSnd 221 330 (a_aload 331 1) := snd_aload_n (by decide +kernel : decode (mBc 221) 330 = .ok (.aload_n 1, 1)) rfl rfl
theorem s221_331 : mSnd 221 331 (a_aload 332 0) := snd_aload_n (by decide +kernel : decode (mBc 221) 331 = .ok (.aload_n 0, 1)) rfl rfl
theorem s221_332 : mSnd 221 332 (a_iload 333 3) := snd_iload_n (by decide +kernel : decode (mBc 221) 332 = .ok (.iload_n 3, 1)) rfl rfl
theorem s221_333 : mSnd 221 333 (a_push 334 (.int (iZ 1))) := snd_iconst (by decide +kernel : decode (mBc 221) 333 = .ok (.iconst 1, 1)) rfl rfl
theorem s221_334 : mSnd 221 334 (a_ii 335 (fun x y => x + y)) := snd_iadd (by decide +kernel : decode (mBc 221) 334 = .ok (.iadd, 1)) rfl
theorem s221_335 : mSnd 221 335 (a_iald 336) := snd_iald (by decide +kernel : decode (mBc 221) 335 = .ok (.iaload, 1)) rfl
theorem s221_336 : mSnd 221 336 (a_aload 337 0) := snd_aload_n (by decide +kernel : decode (mBc 221) 336 = .ok (.aload_n 0, 1)) rfl rfl
theorem s221_337 : mSnd 221 337 (a_iload 338 3) := snd_iload_n (by decide +kernel : decode (mBc 221) 337 = .ok (.iload_n 3, 1)) rfl rfl
theorem s221_338 : mSnd 221 338 (a_push 339 (.int (iZ 2))) := snd_iconst (by decide +kernel : decode (mBc 221) 338 = .ok (.iconst 2, 1)) rfl rfl
theorem s221_339 : mSnd 221 339 (a_ii 340 (fun x y => x + y)) := snd_iadd (by decide +kernel : decode (mBc 221) 339 = .ok (.iadd, 1)) rfl
theorem s221_340 : mSnd 221 340 (a_iald 341) := snd_iald (by decide +kernel : decode (mBc 221) 340 = .ok (.iaload, 1)) rfl
theorem s221_341 : mSnd 221 341 (a_invV 344 2 600000 7302250 [(9, 83, 9, 158)]) := snd_invV v221_32 rfl rfl (by decide +kernel : decode (mBc 221) 341 = .ok (.invokevirtual 32, 3)) rfl
theorem s221_344 : mSnd 221 344 (a_aload 345 2) := snd_aload_n (by decide +kernel : decode (mBc 221) 344 = .ok (.aload_n 2, 1)) rfl rfl
theorem s221_345 : mSnd 221 345 (a_aload 346 0) := snd_aload_n (by decide +kernel : decode (mBc 221) 345 = .ok (.aload_n 0, 1)) rfl rfl
theorem s221_346 : mSnd 221 346 (a_iload 347 3) := snd_iload_n (by decide +kernel : decode (mBc 221) 346 = .ok (.iload_n 3, 1)) rfl rfl
theorem s221_347 : mSnd 221 347 (a_push 348 (.int (iZ 1))) := snd_iconst (by decide +kernel : decode (mBc 221) 347 = .ok (.iconst 1, 1)) rfl rfl
theorem s221_348 : mSnd 221 348 (a_ii 349 (fun x y => x + y)) := snd_iadd (by decide +kernel : decode (mBc 221) 348 = .ok (.iadd, 1)) rfl
theorem s221_349 : mSnd 221 349 (a_iald 350) := snd_iald (by decide +kernel : decode (mBc 221) 349 = .ok (.iaload, 1)) rfl
theorem s221_350 : mSnd 221 350 (a_aload 351 0) := snd_aload_n (by decide +kernel : decode (mBc 221) 350 = .ok (.aload_n 0, 1)) rfl rfl
theorem s221_351 : mSnd 221 351 (a_iload 352 3) := snd_iload_n (by decide +kernel : decode (mBc 221) 351 = .ok (.iload_n 3, 1)) rfl rfl
theorem s221_352 : mSnd 221 352 (a_push 353 (.int (iZ 2))) := snd_iconst (by decide +kernel : decode (mBc 221) 352 = .ok (.iconst 2, 1)) rfl rfl
theorem s221_353 : mSnd 221 353 (a_ii 354 (fun x y => x + y)) := snd_iadd (by decide +kernel : decode (mBc 221) 353 = .ok (.iadd, 1)) rfl
theorem s221_354 : mSnd 221 354 (a_iald 355) := snd_iald (by decide +kernel : decode (mBc 221) 354 = .ok (.iaload, 1)) rfl
theorem s221_355 : mSnd 221 355 (a_invV 358 2 600000 7302250 [(10, 153, 0, 0)]) := snd_invV v221_35 rfl rfl (by decide +kernel : decode (mBc 221) 355 = .ok (.invokevirtual 35, 3)) rfl
theorem s221_358 : mSnd 221 358 (a_icmp 361 1532 (fun x y => decide (x = y))) := snd_icmp_eq (by decide +kernel : decode (mBc 221) 358 = .ok (.if_icmp .eq 1174, 3)) rfl rfl
theorem s221_361 : mSnd 221 361 (a_push 362 (.int (iZ 0))) := snd_iconst (by decide +kernel : decode (mBc 221) 361 = .ok (.iconst 0, 1)) rfl rfl
theorem s221_362 : mSnd 221 362 (a_zret 600000 7302250) := snd_zret rfl rfl rfl (by decide +kernel : decode (mBc 221) 362 = .ok (.ireturn, 1))
theorem s221_363 : mSnd 221 363 (a_aload 364 1) := snd_aload_n (by decide +kernel : decode (mBc 221) 363 = .ok (.aload_n 1, 1)) rfl rfl
theorem s221_364 : mSnd 221 364 (a_aload 365 0) := snd_aload_n (by decide +kernel : decode (mBc 221) 364 = .ok (.aload_n 0, 1)) rfl rfl
theorem s221_365 : mSnd 221 365 (a_iload 366 3) := snd_iload_n (by decide +kernel : decode (mBc 221) 365 = .ok (.iload_n 3, 1)) rfl rfl
theorem s221_366 : mSnd 221 366 (a_push 367 (.int (iZ 1))) := snd_iconst (by decide +kernel : decode (mBc 221) 366 = .ok (.iconst 1, 1)) rfl rfl
theorem s221_367 : mSnd 221 367 (a_ii 368 (fun x y => x + y)) := snd_iadd (by decide +kernel : decode (mBc 221) 367 = .ok (.iadd, 1)) rfl
theorem s221_368 : mSnd 221 368 (a_iald 369) := snd_iald (by decide +kernel : decode (mBc 221) 368 = .ok (.iaload, 1)) rfl
theorem s221_369 : mSnd 221 369 (a_aload 370 0) := snd_aload_n (by decide +kernel : decode (mBc 221) 369 = .ok (.aload_n 0, 1)) rfl rfl
theorem s221_370 : mSnd 221 370 (a_iload 371 3) := snd_iload_n (by decide +kernel : decode (mBc 221) 370 = .ok (.iload_n 3, 1)) rfl rfl
theorem s221_371 : mSnd 221 371 (a_push 372 (.int (iZ 2))) := snd_iconst (by decide +kernel : decode (mBc 221) 371 = .ok (.iconst 2, 1)) rfl rfl
theorem s221_372 : mSnd 221 372 (a_ii 373 (fun x y => x + y)) := snd_iadd (by decide +kernel : decode (mBc 221) 372 = .ok (.iadd, 1)) rfl
theorem s221_373 : mSnd 221 373 (a_iald 374) := snd_iald (by decide +kernel : decode (mBc 221) 373 = .ok (.iaload, 1)) rfl
theorem s221_374 : mSnd 221 374 (a_aload 375 0) := snd_aload_n (by decide +kernel : decode (mBc 221) 374 = .ok (.aload_n 0, 1)) rfl rfl
theorem s221_375 : mSnd 221 375 (a_iload 376 3) := snd_iload_n (by decide +kernel : decode (mBc 221) 375 = .ok (.iload_n 3, 1)) rfl rfl
theorem s221_376 : mSnd 221 376 (a_push 377 (.int (iZ 3))) := snd_iconst (by decide +kernel : decode (mBc 221) 376 = .ok (.iconst 3, 1)) rfl rfl
theorem s221_377 : mSnd 221 377 (a_ii 378 (fun x y => x + y)) := snd_iadd (by decide +kernel : decode (mBc 221) 377 = .ok (.iadd, 1)) rfl
theorem s221_378 : mSnd 221 378 (a_iald 379) := snd_iald (by decide +kernel : decode (mBc 221) 378 = .ok (.iaload, 1)) rfl
theorem s221_379 : mSnd 221 379 (a_aload 380 0) := snd_aload_n (by decide +kernel : decode (mBc 221) 379 = .ok (.aload_n 0, 1)) rfl rfl
theorem s221_380 : mSnd 221 380 (a_iload 381 3) := snd_iload_n (by decide +kernel : decode (mBc 221) 380 = .ok (.iload_n 3, 1)) rfl rfl
theorem s221_381 : mSnd 221 381 (a_push 382 (.int (iZ 4))) := snd_iconst (by decide +kernel : decode (mBc 221) 381 = .ok (.iconst 4, 1)) rfl rfl
theorem s221_382 : mSnd 221 382 (a_ii 383 (fun x y => x + y)) := snd_iadd (by decide +kernel : decode (mBc 221) 382 = .ok (.iadd, 1)) rfl
theorem s221_383 : mSnd 221 383 (a_iald 384) := snd_iald (by decide +kernel : decode (mBc 221) 383 = .ok (.iaload, 1)) rfl
theorem s221_384 : mSnd 221 384 (a_invV 387 4 600000 7302250 [(9, 84, 9, 158)]) := snd_invV v221_36 rfl rfl (by decide +kernel : decode (mBc 221) 384 = .ok (.invokevirtual 36, 3)) rfl
theorem s221_387 : mSnd 221 387 (a_aload 388 2) := snd_aload_n (by decide +kernel : decode (mBc 221) 387 = .ok (.aload_n 2, 1)) rfl rfl
theorem s221_388 : mSnd 221 388 (a_aload 389 0) := snd_aload_n (by decide +kernel : decode (mBc 221) 388 = .ok (.aload_n 0, 1)) rfl rfl
theorem s221_389 : mSnd 221 389 (a_iload 390 3) := snd_iload_n (by decide +kernel : decode (mBc 221) 389 = .ok (.iload_n 3, 1)) rfl rfl
theorem s221_390 : mSnd 221 390 (a_push 391 (.int (iZ 1))) := snd_iconst (by decide +kernel : decode (mBc 221) 390 = .ok (.iconst 1, 1)) rfl rfl
theorem s221_391 : mSnd 221 391 (a_ii 392 (fun x y => x + y)) := snd_iadd (by decide +kernel : decode (mBc 221) 391 = .ok (.iadd, 1)) rfl
theorem s221_392 : mSnd 221 392 (a_iald 393) := snd_iald (by decide +kernel : decode (mBc 221) 392 = .ok (.iaload, 1)) rfl
theorem s221_393 : mSnd 221 393 (a_aload 394 0) := snd_aload_n (by decide +kernel : decode (mBc 221) 393 = .ok (.aload_n 0, 1)) rfl rfl
theorem s221_394 : mSnd 221 394 (a_iload 395 3) := snd_iload_n (by decide +kernel : decode (mBc 221) 394 = .ok (.iload_n 3, 1)) rfl rfl
theorem s221_395 : mSnd 221 395 (a_push 396 (.int (iZ 2))) := snd_iconst (by decide +kernel : decode (mBc 221) 395 = .ok (.iconst 2, 1)) rfl rfl
theorem s221_396 : mSnd 221 396 (a_ii 397 (fun x y => x + y)) := snd_iadd (by decide +kernel : decode (mBc 221) 396 = .ok (.iadd, 1)) rfl
theorem s221_397 : mSnd 221 397 (a_iald 398) := snd_iald (by decide +kernel : decode (mBc 221) 397 = .ok (.iaload, 1)) rfl
theorem s221_398 : mSnd 221 398 (a_aload 399 0) := snd_aload_n (by decide +kernel : decode (mBc 221) 398 = .ok (.aload_n 0, 1)) rfl rfl
theorem s221_399 : mSnd 221 399 (a_iload 400 3) := snd_iload_n (by decide +kernel : decode (mBc 221) 399 = .ok (.iload_n 3, 1)) rfl rfl
theorem s221_400 : mSnd 221 400 (a_push 401 (.int (iZ 3))) := snd_iconst (by decide +kernel : decode (mBc 221) 400 = .ok (.iconst 3, 1)) rfl rfl
theorem s221_401 : mSnd 221 401 (a_ii 402 (fun x y => x + y)) := snd_iadd (by decide +kernel : decode (mBc 221) 401 = .ok (.iadd, 1)) rfl
theorem s221_402 : mSnd 221 402 (a_iald 403) := snd_iald (by decide +kernel : decode (mBc 221) 402 = .ok (.iaload, 1)) rfl
theorem s221_403 : mSnd 221 403 (a_aload 404 0) := snd_aload_n (by decide +kernel : decode (mBc 221) 403 = .ok (.aload_n 0, 1)) rfl rfl
theorem s221_404 : mSnd 221 404 (a_iload 405 3) := snd_iload_n (by decide +kernel : decode (mBc 221) 404 = .ok (.iload_n 3, 1)) rfl rfl
theorem s221_405 : mSnd 221 405 (a_push 406 (.int (iZ 4))) := snd_iconst (by decide +kernel : decode (mBc 221) 405 = .ok (.iconst 4, 1)) rfl rfl
theorem s221_406 : mSnd 221 406 (a_ii 407 (fun x y => x + y)) := snd_iadd (by decide +kernel : decode (mBc 221) 406 = .ok (.iadd, 1)) rfl
theorem s221_407 : mSnd 221 407 (a_iald 408) := snd_iald (by decide +kernel : decode (mBc 221) 407 = .ok (.iaload, 1)) rfl
theorem s221_408 : mSnd 221 408 (a_invV 411 4 600000 7302250 [(10, 154, 0, 0)]) := snd_invV v221_40 rfl rfl (by decide +kernel : decode (mBc 221) 408 = .ok (.invokevirtual 40, 3)) rfl
theorem s221_411 : mSnd 221 411 (a_icmp 414 1532 (fun x y => decide (x = y))) := snd_icmp_eq (by decide +kernel : decode (mBc 221) 411 = .ok (.if_icmp .eq 1121, 3)) rfl rfl
theorem s221_414 : mSnd 221 414 (a_push 415 (.int (iZ 0))) := snd_iconst (by decide +kernel : decode (mBc 221) 414 = .ok (.iconst 0, 1)) rfl rfl
theorem s221_415 : mSnd 221 415 (a_zret 600000 7302250) := snd_zret rfl rfl rfl (by decide +kernel : decode (mBc 221) 415 = .ok (.ireturn, 1))
theorem s221_416 : mSnd 221 416 (a_aload 417 1) := snd_aload_n (by decide +kernel : decode (mBc 221) 416 = .ok (.aload_n 1, 1)) rfl rfl
theorem s221_417 : mSnd 221 417 (a_aload 418 0) := snd_aload_n (by decide +kernel : decode (mBc 221) 417 = .ok (.aload_n 0, 1)) rfl rfl
theorem s221_418 : mSnd 221 418 (a_iload 419 3) := snd_iload_n (by decide +kernel : decode (mBc 221) 418 = .ok (.iload_n 3, 1)) rfl rfl
theorem s221_419 : mSnd 221 419 (a_push 420 (.int (iZ 1))) := snd_iconst (by decide +kernel : decode (mBc 221) 419 = .ok (.iconst 1, 1)) rfl rfl
theorem s221_420 : mSnd 221 420 (a_ii 421 (fun x y => x + y)) := snd_iadd (by decide +kernel : decode (mBc 221) 420 = .ok (.iadd, 1)) rfl
theorem s221_421 : mSnd 221 421 (a_iald 422) := snd_iald (by decide +kernel : decode (mBc 221) 421 = .ok (.iaload, 1)) rfl
theorem s221_422 : mSnd 221 422 (a_aload 423 0) := snd_aload_n (by decide +kernel : decode (mBc 221) 422 = .ok (.aload_n 0, 1)) rfl rfl
theorem s221_423 : mSnd 221 423 (a_iload 424 3) := snd_iload_n (by decide +kernel : decode (mBc 221) 423 = .ok (.iload_n 3, 1)) rfl rfl
theorem s221_424 : mSnd 221 424 (a_push 425 (.int (iZ 2))) := snd_iconst (by decide +kernel : decode (mBc 221) 424 = .ok (.iconst 2, 1)) rfl rfl
theorem s221_425 : mSnd 221 425 (a_ii 426 (fun x y => x + y)) := snd_iadd (by decide +kernel : decode (mBc 221) 425 = .ok (.iadd, 1)) rfl
theorem s221_426 : mSnd 221 426 (a_iald 427) := snd_iald (by decide +kernel : decode (mBc 221) 426 = .ok (.iaload, 1)) rfl
theorem s221_427 : mSnd 221 427 (a_invV 430 2 600000 7302250 [(9, 85, 9, 158)]) := snd_invV v221_41 rfl rfl (by decide +kernel : decode (mBc 221) 427 = .ok (.invokevirtual 41, 3)) rfl
theorem s221_430 : mSnd 221 430 (a_aload 431 2) := snd_aload_n (by decide +kernel : decode (mBc 221) 430 = .ok (.aload_n 2, 1)) rfl rfl
theorem s221_431 : mSnd 221 431 (a_aload 432 0) := snd_aload_n (by decide +kernel : decode (mBc 221) 431 = .ok (.aload_n 0, 1)) rfl rfl
theorem s221_432 : mSnd 221 432 (a_iload 433 3) := snd_iload_n (by decide +kernel : decode (mBc 221) 432 = .ok (.iload_n 3, 1)) rfl rfl
theorem s221_433 : mSnd 221 433 (a_push 434 (.int (iZ 1))) := snd_iconst (by decide +kernel : decode (mBc 221) 433 = .ok (.iconst 1, 1)) rfl rfl
theorem s221_434 : mSnd 221 434 (a_ii 435 (fun x y => x + y)) := snd_iadd (by decide +kernel : decode (mBc 221) 434 = .ok (.iadd, 1)) rfl
theorem s221_435 : mSnd 221 435 (a_iald 436) := snd_iald (by decide +kernel : decode (mBc 221) 435 = .ok (.iaload, 1)) rfl
theorem s221_436 : mSnd 221 436 (a_aload 437 0) := snd_aload_n (by decide +kernel : decode (mBc 221) 436 = .ok (.aload_n 0, 1)) rfl rfl
theorem s221_437 : mSnd 221 437 (a_iload 438 3) := snd_iload_n (by decide +kernel : decode (mBc 221) 437 = .ok (.iload_n 3, 1)) rfl rfl
theorem s221_438 : mSnd 221 438 (a_push 439 (.int (iZ 2))) := snd_iconst (by decide +kernel : decode (mBc 221) 438 = .ok (.iconst 2, 1)) rfl rfl
theorem s221_439 : mSnd 221 439 (a_ii 440 (fun x y => x + y)) := snd_iadd (by decide +kernel : decode (mBc 221) 439 = .ok (.iadd, 1)) rfl
theorem s221_440 : mSnd 221 440 (a_iald 441) := snd_iald (by decide +kernel : decode (mBc 221) 440 = .ok (.iaload, 1)) rfl
theorem s221_441 : mSnd 221 441 (a_invV 444 2 600000 7302250 [(10, 156, 0, 0)]) := snd_invV v221_44 rfl rfl (by decide +kernel : decode (mBc 221) 441 = .ok (.invokevirtual 44, 3)) rfl
theorem s221_444 : mSnd 221 444 (a_icmp 447 1532 (fun x y => decide (x = y))) := snd_icmp_eq (by decide +kernel : decode (mBc 221) 444 = .ok (.if_icmp .eq 1088, 3)) rfl rfl
theorem s221_447 : mSnd 221 447 (a_push 448 (.int (iZ 0))) := snd_iconst (by decide +kernel : decode (mBc 221) 447 = .ok (.iconst 0, 1)) rfl rfl
theorem s221_448 : mSnd 221 448 (a_zret 600000 7302250) := snd_zret rfl rfl rfl (by decide +kernel : decode (mBc 221) 448 = .ok (.ireturn, 1))
theorem s221_449 : mSnd 221 449 (a_aload 450 1) := snd_aload_n (by decide +kernel : decode (mBc 221) 449 = .ok (.aload_n 1, 1)) rfl rfl
theorem s221_450 : mSnd 221 450 (a_aload 451 0) := snd_aload_n (by decide +kernel : decode (mBc 221) 450 = .ok (.aload_n 0, 1)) rfl rfl
theorem s221_451 : mSnd 221 451 (a_iload 452 3) := snd_iload_n (by decide +kernel : decode (mBc 221) 451 = .ok (.iload_n 3, 1)) rfl rfl
theorem s221_452 : mSnd 221 452 (a_push 453 (.int (iZ 1))) := snd_iconst (by decide +kernel : decode (mBc 221) 452 = .ok (.iconst 1, 1)) rfl rfl
theorem s221_453 : mSnd 221 453 (a_ii 454 (fun x y => x + y)) := snd_iadd (by decide +kernel : decode (mBc 221) 453 = .ok (.iadd, 1)) rfl
theorem s221_454 : mSnd 221 454 (a_iald 455) := snd_iald (by decide +kernel : decode (mBc 221) 454 = .ok (.iaload, 1)) rfl
theorem s221_455 : mSnd 221 455 (a_aload 456 0) := snd_aload_n (by decide +kernel : decode (mBc 221) 455 = .ok (.aload_n 0, 1)) rfl rfl
theorem s221_456 : mSnd 221 456 (a_iload 457 3) := snd_iload_n (by decide +kernel : decode (mBc 221) 456 = .ok (.iload_n 3, 1)) rfl rfl
theorem s221_457 : mSnd 221 457 (a_push 458 (.int (iZ 2))) := snd_iconst (by decide +kernel : decode (mBc 221) 457 = .ok (.iconst 2, 1)) rfl rfl
theorem s221_458 : mSnd 221 458 (a_ii 459 (fun x y => x + y)) := snd_iadd (by decide +kernel : decode (mBc 221) 458 = .ok (.iadd, 1)) rfl
theorem s221_459 : mSnd 221 459 (a_iald 460) := snd_iald (by decide +kernel : decode (mBc 221) 459 = .ok (.iaload, 1)) rfl
theorem s221_460 : mSnd 221 460 (a_aload 461 0) := snd_aload_n (by decide +kernel : decode (mBc 221) 460 = .ok (.aload_n 0, 1)) rfl rfl
theorem s221_461 : mSnd 221 461 (a_iload 462 3) := snd_iload_n (by decide +kernel : decode (mBc 221) 461 = .ok (.iload_n 3, 1)) rfl rfl
theorem s221_462 : mSnd 221 462 (a_push 463 (.int (iZ 3))) := snd_iconst (by decide +kernel : decode (mBc 221) 462 = .ok (.iconst 3, 1)) rfl rfl
theorem s221_463 : mSnd 221 463 (a_ii 464 (fun x y => x + y)) := snd_iadd (by decide +kernel : decode (mBc 221) 463 = .ok (.iadd, 1)) rfl
theorem s221_464 : mSnd 221 464 (a_iald 465) := snd_iald (by decide +kernel : decode (mBc 221) 464 = .ok (.iaload, 1)) rfl
theorem s221_465 : mSnd 221 465 (a_invV 468 3 600000 7302250 [(9, 86, 9, 158)]) := snd_invV v221_45 rfl rfl (by decide +kernel : decode (mBc 221) 465 = .ok (.invokevirtual 45, 3)) rfl
theorem s221_468 : mSnd 221 468 (a_aload 469 2) := snd_aload_n (by decide +kernel : decode (mBc 221) 468 = .ok (.aload_n 2, 1)) rfl rfl
theorem s221_469 : mSnd 221 469 (a_aload 470 0) := snd_aload_n (by decide +kernel : decode (mBc 221) 469 = .ok (.aload_n 0, 1)) rfl rfl
theorem s221_470 : mSnd 221 470 (a_iload 471 3) := snd_iload_n (by decide +kernel : decode (mBc 221) 470 = .ok (.iload_n 3, 1)) rfl rfl
theorem s221_471 : mSnd 221 471 (a_push 472 (.int (iZ 1))) := snd_iconst (by decide +kernel : decode (mBc 221) 471 = .ok (.iconst 1, 1)) rfl rfl
theorem s221_472 : mSnd 221 472 (a_ii 473 (fun x y => x + y)) := snd_iadd (by decide +kernel : decode (mBc 221) 472 = .ok (.iadd, 1)) rfl
theorem s221_473 : mSnd 221 473 (a_iald 474) := snd_iald (by decide +kernel : decode (mBc 221) 473 = .ok (.iaload, 1)) rfl
theorem s221_474 : mSnd 221 474 (a_aload 475 0) := snd_aload_n (by decide +kernel : decode (mBc 221) 474 = .ok (.aload_n 0, 1)) rfl rfl
theorem s221_475 : mSnd 221 475 (a_iload 476 3) := snd_iload_n (by decide +kernel : decode (mBc 221) 475 = .ok (.iload_n 3, 1)) rfl rfl
theorem s221_476 : mSnd 221 476 (a_push 477 (.int (iZ 2))) := snd_iconst (by decide +kernel : decode (mBc 221) 476 = .ok (.iconst 2, 1)) rfl rfl
theorem s221_477 : mSnd 221 477 (a_ii 478 (fun x y => x + y)) := snd_iadd (by decide +kernel : decode (mBc 221) 477 = .ok (.iadd, 1)) rfl
theorem s221_478 : mSnd 221 478 (a_iald 479) := snd_iald (by decide +kernel : decode (mBc 221) 478 = .ok (.iaload, 1)) rfl
theorem s221_479 : mSnd 221 479 (a_aload 480 0) := snd_aload_n (by decide +kernel : decode (mBc 221) 479 = .ok (.aload_n 0, 1)) rfl rfl
theorem s221_480 : mSnd 221 480 (a_iload 481 3) := snd_iload_n (by decide +kernel : decode (mBc 221) 480 = .ok (.iload_n 3, 1)) rfl rfl
theorem s221_481 : mSnd 221 481 (a_push 482 (.int (iZ 3))) := snd_iconst (by decide +kernel : decode (mBc 221) 481 = .ok (.iconst 3, 1)) rfl rfl
theorem s221_482 : mSnd 221 482 (a_ii 483 (fun x y => x + y)) := snd_iadd (by decide +kernel : decode (mBc 221) 482 = .ok (.iadd, 1)) rfl
theorem s221_483 : mSnd 221 483 (a_iald 484) := snd_iald (by decide +kernel : decode (mBc 221) 483 = .ok (.iaload, 1)) rfl
theorem s221_484 : mSnd 221 484 (a_invV 487 3 600000 7302250 [(10, 157, 0, 0)]) := snd_invV v221_48 rfl rfl (by decide +kernel : decode (mBc 221) 484 = .ok (.invokevirtual 48, 3)) rfl
theorem s221_487 : mSnd 221 487 (a_icmp 490 1532 (fun x y => decide (x = y))) := snd_icmp_eq (by decide +kernel : decode (mBc 221) 487 = .ok (.if_icmp .eq 1045, 3)) rfl rfl
theorem s221_490 : mSnd 221 490 (a_push 491 (.int (iZ 0))) := snd_iconst (by decide +kernel : decode (mBc 221) 490 = .ok (.iconst 0, 1)) rfl rfl
theorem s221_491 : mSnd 221 491 (a_zret 600000 7302250) := snd_zret rfl rfl rfl (by decide +kernel : decode (mBc 221) 491 = .ok (.ireturn, 1))
theorem s221_492 : mSnd 221 492 (a_aload 493 1) := snd_aload_n (by decide +kernel : decode (mBc 221) 492 = .ok (.aload_n 1, 1)) rfl rfl
theorem s221_493 : mSnd 221 493 (a_aload 494 0) := snd_aload_n (by decide +kernel : decode (mBc 221) 493 = .ok (.aload_n 0, 1)) rfl rfl
theorem s221_494 : mSnd 221 494 (a_iload 495 3) := snd_iload_n (by decide +kernel : decode (mBc 221) 494 = .ok (.iload_n 3, 1)) rfl rfl
theorem s221_495 : mSnd 221 495 (a_push 496 (.int (iZ 1))) := snd_iconst (by decide +kernel : decode (mBc 221) 495 = .ok (.iconst 1, 1)) rfl rfl
theorem s221_496 : mSnd 221 496 (a_ii 497 (fun x y => x + y)) := snd_iadd (by decide +kernel : decode (mBc 221) 496 = .ok (.iadd, 1)) rfl
theorem s221_497 : mSnd 221 497 (a_iald 498) := snd_iald (by decide +kernel : decode (mBc 221) 497 = .ok (.iaload, 1)) rfl
theorem s221_498 : mSnd 221 498 (a_invV 501 1 600000 7302250 [(9, 87, 9, 158)]) := snd_invV v221_49 rfl rfl (by decide +kernel : decode (mBc 221) 498 = .ok (.invokevirtual 49, 3)) rfl
theorem s221_501 : mSnd 221 501 (a_aload 502 2) := snd_aload_n (by decide +kernel : decode (mBc 221) 501 = .ok (.aload_n 2, 1)) rfl rfl
theorem s221_502 : mSnd 221 502 (a_aload 503 0) := snd_aload_n (by decide +kernel : decode (mBc 221) 502 = .ok (.aload_n 0, 1)) rfl rfl
theorem s221_503 : mSnd 221 503 (a_iload 504 3) := snd_iload_n (by decide +kernel : decode (mBc 221) 503 = .ok (.iload_n 3, 1)) rfl rfl
theorem s221_504 : mSnd 221 504 (a_push 505 (.int (iZ 1))) := snd_iconst (by decide +kernel : decode (mBc 221) 504 = .ok (.iconst 1, 1)) rfl rfl
theorem s221_505 : mSnd 221 505 (a_ii 506 (fun x y => x + y)) := snd_iadd (by decide +kernel : decode (mBc 221) 505 = .ok (.iadd, 1)) rfl
theorem s221_506 : mSnd 221 506 (a_iald 507) := snd_iald (by decide +kernel : decode (mBc 221) 506 = .ok (.iaload, 1)) rfl
theorem s221_507 : mSnd 221 507 (a_invV 510 1 600000 7302250 [(10, 158, 0, 0)]) := snd_invV v221_52 rfl rfl (by decide +kernel : decode (mBc 221) 507 = .ok (.invokevirtual 52, 3)) rfl
theorem s221_510 : mSnd 221 510 (a_icmp 513 1532 (fun x y => decide (x = y))) := snd_icmp_eq (by decide +kernel : decode (mBc 221) 510 = .ok (.if_icmp .eq 1022, 3)) rfl rfl
theorem s221_513 : mSnd 221 513 (a_push 514 (.int (iZ 0))) := snd_iconst (by decide +kernel : decode (mBc 221) 513 = .ok (.iconst 0, 1)) rfl rfl
theorem s221_514 : mSnd 221 514 (a_zret 600000 7302250) := snd_zret rfl rfl rfl (by decide +kernel : decode (mBc 221) 514 = .ok (.ireturn, 1))
theorem s221_515 : mSnd 221 515 (a_aload 516 1) := snd_aload_n (by decide +kernel : decode (mBc 221) 515 = .ok (.aload_n 1, 1)) rfl rfl
theorem s221_516 : mSnd 221 516 (a_invV 519 0 600000 7302250 [(9, 88, 0, 0)]) := snd_invV v221_53 rfl rfl (by decide +kernel : decode (mBc 221) 516 = .ok (.invokevirtual 53, 3)) rfl
theorem s221_519 : mSnd 221 519 (a_aload 520 2) := snd_aload_n (by decide +kernel : decode (mBc 221) 519 = .ok (.aload_n 2, 1)) rfl rfl
theorem s221_520 : mSnd 221 520 (a_invV 523 0 600000 7302250 [(10, 159, 0, 0)]) := snd_invV v221_57 rfl rfl (by decide +kernel : decode (mBc 221) 520 = .ok (.invokevirtual 57, 3)) rfl
theorem s221_523 : mSnd 221 523 (a_icmp 526 1532 (fun x y => decide (x = y))) := snd_icmp_eq (by decide +kernel : decode (mBc 221) 523 = .ok (.if_icmp .eq 1009, 3)) rfl rfl
theorem s221_526 : mSnd 221 526 (a_push 527 (.int (iZ 0))) := snd_iconst (by decide +kernel : decode (mBc 221) 526 = .ok (.iconst 0, 1)) rfl rfl
theorem s221_527 : mSnd 221 527 (a_zret 600000 7302250) := snd_zret rfl rfl rfl (by decide +kernel : decode (mBc 221) 527 = .ok (.ireturn, 1))
theorem s221_528 : mSnd 221 528 (a_aload 529 1) := snd_aload_n (by decide +kernel : decode (mBc 221) 528 = .ok (.aload_n 1, 1)) rfl rfl
theorem s221_529 : mSnd 221 529 (a_aload 530 0) := snd_aload_n (by decide +kernel : decode (mBc 221) 529 = .ok (.aload_n 0, 1)) rfl rfl
theorem s221_530 : mSnd 221 530 (a_iload 531 3) := snd_iload_n (by decide +kernel : decode (mBc 221) 530 = .ok (.iload_n 3, 1)) rfl rfl
theorem s221_531 : mSnd 221 531 (a_push 532 (.int (iZ 1))) := snd_iconst (by decide +kernel : decode (mBc 221) 531 = .ok (.iconst 1, 1)) rfl rfl
theorem s221_532 : mSnd 221 532 (a_ii 533 (fun x y => x + y)) := snd_iadd (by decide +kernel : decode (mBc 221) 532 = .ok (.iadd, 1)) rfl
theorem s221_533 : mSnd 221 533 (a_iald 534) := snd_iald (by decide +kernel : decode (mBc 221) 533 = .ok (.iaload, 1)) rfl
theorem s221_534 : mSnd 221 534 (a_aload 535 0) := snd_aload_n (by decide +kernel : decode (mBc 221) 534 = .ok (.aload_n 0, 1)) rfl rfl
theorem s221_535 : mSnd 221 535 (a_iload 536 3) := snd_iload_n (by decide +kernel : decode (mBc 221) 535 = .ok (.iload_n 3, 1)) rfl rfl
theorem s221_536 : mSnd 221 536 (a_push 537 (.int (iZ 2))) := snd_iconst (by decide +kernel : decode (mBc 221) 536 = .ok (.iconst 2, 1)) rfl rfl
theorem s221_537 : mSnd 221 537 (a_ii 538 (fun x y => x + y)) := snd_iadd (by decide +kernel : decode (mBc 221) 537 = .ok (.iadd, 1)) rfl
theorem s221_538 : mSnd 221 538 (a_iald 539) := snd_iald (by decide +kernel : decode (mBc 221) 538 = .ok (.iaload, 1)) rfl
theorem s221_539 : mSnd 221 539 (a_invV 542 2 600000 7302250 [(9, 89, 0, 0)]) := snd_invV v221_58 rfl rfl (by decide +kernel : decode (mBc 221) 539 = .ok (.invokevirtual 58, 3)) rfl
theorem s221_542 : mSnd 221 542 (a_aload 543 2) := snd_aload_n (by decide +kernel : decode (mBc 221) 542 = .ok (.aload_n 2, 1)) rfl rfl
theorem s221_543 : mSnd 221 543 (a_aload 544 0) := snd_aload_n (by decide +kernel : decode (mBc 221) 543 = .ok (.aload_n 0, 1)) rfl rfl
theorem s221_544 : mSnd 221 544 (a_iload 545 3) := snd_iload_n (by decide +kernel : decode (mBc 221) 544 = .ok (.iload_n 3, 1)) rfl rfl
theorem s221_545 : mSnd 221 545 (a_push 546 (.int (iZ 1))) := snd_iconst (by decide +kernel : decode (mBc 221) 545 = .ok (.iconst 1, 1)) rfl rfl
theorem s221_546 : mSnd 221 546 (a_ii 547 (fun x y => x + y)) := snd_iadd (by decide +kernel : decode (mBc 221) 546 = .ok (.iadd, 1)) rfl
theorem s221_547 : mSnd 221 547 (a_iald 548) := snd_iald (by decide +kernel : decode (mBc 221) 547 = .ok (.iaload, 1)) rfl
theorem s221_548 : mSnd 221 548 (a_aload 549 0) := snd_aload_n (by decide +kernel : decode (mBc 221) 548 = .ok (.aload_n 0, 1)) rfl rfl
theorem s221_549 : mSnd 221 549 (a_iload 550 3) := snd_iload_n (by decide +kernel : decode (mBc 221) 549 = .ok (.iload_n 3, 1)) rfl rfl
theorem s221_550 : mSnd 221 550 (a_push 551 (.int (iZ 2))) := snd_iconst (by decide +kernel : decode (mBc 221) 550 = .ok (.iconst 2, 1)) rfl rfl
theorem s221_551 : mSnd 221 551 (a_ii 552 (fun x y => x + y)) := snd_iadd (by decide +kernel : decode (mBc 221) 551 = .ok (.iadd, 1)) rfl
theorem s221_552 : mSnd 221 552 (a_iald 553) := snd_iald (by decide +kernel : decode (mBc 221) 552 = .ok (.iaload, 1)) rfl
theorem s221_553 : mSnd 221 553 (a_invV 556 2 600000 7302250 [(10, 192, 0, 0)]) := snd_invV v221_61 rfl rfl (by decide +kernel : decode (mBc 221) 553 = .ok (.invokevirtual 61, 3)) rfl
theorem s221_556 : mSnd 221 556 (a_icmp 559 1532 (fun x y => decide (x = y))) := snd_icmp_eq (by decide +kernel : decode (mBc 221) 556 = .ok (.if_icmp .eq 976, 3)) rfl rfl
theorem s221_559 : mSnd 221 559 (a_push 560 (.int (iZ 0))) := snd_iconst (by decide +kernel : decode (mBc 221) 559 = .ok (.iconst 0, 1)) rfl rfl
theorem s221_560 : mSnd 221 560 (a_zret 600000 7302250) := snd_zret rfl rfl rfl (by decide +kernel : decode (mBc 221) 560 = .ok (.ireturn, 1))
theorem s221_561 : mSnd 221 561 (a_aload 562 1) := snd_aload_n (by decide +kernel : decode (mBc 221) 561 = .ok (.aload_n 1, 1)) rfl rfl
theorem s221_562 : mSnd 221 562 (a_aload 563 0) := snd_aload_n (by decide +kernel : decode (mBc 221) 562 = .ok (.aload_n 0, 1)) rfl rfl
theorem s221_563 : mSnd 221 563 (a_iload 564 3) := snd_iload_n (by decide +kernel : decode (mBc 221) 563 = .ok (.iload_n 3, 1)) rfl rfl
theorem s221_564 : mSnd 221 564 (a_push 565 (.int (iZ 1))) := snd_iconst (by decide +kernel : decode (mBc 221) 564 = .ok (.iconst 1, 1)) rfl rfl
theorem s221_565 : mSnd 221 565 (a_ii 566 (fun x y => x + y)) := snd_iadd (by decide +kernel : decode (mBc 221) 565 = .ok (.iadd, 1)) rfl
theorem s221_566 : mSnd 221 566 (a_iald 567) := snd_iald (by decide +kernel : decode (mBc 221) 566 = .ok (.iaload, 1)) rfl
theorem s221_567 : mSnd 221 567 (a_aload 568 0) := snd_aload_n (by decide +kernel : decode (mBc 221) 567 = .ok (.aload_n 0, 1)) rfl rfl
theorem s221_568 : mSnd 221 568 (a_iload 569 3) := snd_iload_n (by decide +kernel : decode (mBc 221) 568 = .ok (.iload_n 3, 1)) rfl rfl
theorem s221_569 : mSnd 221 569 (a_push 570 (.int (iZ 2))) := snd_iconst (by decide +kernel : decode (mBc 221) 569 = .ok (.iconst 2, 1)) rfl rfl
theorem s221_570 : mSnd 221 570 (a_ii 571 (fun x y => x + y)) := snd_iadd (by decide +kernel : decode (mBc 221) 570 = .ok (.iadd, 1)) rfl
theorem s221_571 : mSnd 221 571 (a_iald 572) := snd_iald (by decide +kernel : decode (mBc 221) 571 = .ok (.iaload, 1)) rfl
theorem s221_572 : mSnd 221 572 (a_invV 575 2 600000 7302250 [(9, 90, 0, 0)]) := snd_invV v221_62 rfl rfl (by decide +kernel : decode (mBc 221) 572 = .ok (.invokevirtual 62, 3)) rfl
theorem s221_575 : mSnd 221 575 (a_aload 576 2) := snd_aload_n (by decide +kernel : decode (mBc 221) 575 = .ok (.aload_n 2, 1)) rfl rfl
theorem s221_576 : mSnd 221 576 (a_aload 577 0) := snd_aload_n (by decide +kernel : decode (mBc 221) 576 = .ok (.aload_n 0, 1)) rfl rfl
theorem s221_577 : mSnd 221 577 (a_iload 578 3) := snd_iload_n (by decide +kernel : decode (mBc 221) 577 = .ok (.iload_n 3, 1)) rfl rfl
theorem s221_578 : mSnd 221 578 (a_push 579 (.int (iZ 1))) := snd_iconst (by decide +kernel : decode (mBc 221) 578 = .ok (.iconst 1, 1)) rfl rfl
theorem s221_579 : mSnd 221 579 (a_ii 580 (fun x y => x + y)) := snd_iadd (by decide +kernel : decode (mBc 221) 579 = .ok (.iadd, 1)) rfl
theorem s221_580 : mSnd 221 580 (a_iald 581) := snd_iald (by decide +kernel : decode (mBc 221) 580 = .ok (.iaload, 1)) rfl
theorem s221_581 : mSnd 221 581 (a_aload 582 0) := snd_aload_n (by decide +kernel : decode (mBc 221) 581 = .ok (.aload_n 0, 1)) rfl rfl
theorem s221_582 : mSnd 221 582 (a_iload 583 3) := snd_iload_n (by decide +kernel : decode (mBc 221) 582 = .ok (.iload_n 3, 1)) rfl rfl
theorem s221_583 : mSnd 221 583 (a_push 584 (.int (iZ 2))) := snd_iconst (by decide +kernel : decode (mBc 221) 583 = .ok (.iconst 2, 1)) rfl rfl
theorem s221_584 : mSnd 221 584 (a_ii 585 (fun x y => x + y)) := snd_iadd (by decide +kernel : decode (mBc 221) 584 = .ok (.iadd, 1)) rfl
theorem s221_585 : mSnd 221 585 (a_iald 586) := snd_iald (by decide +kernel : decode (mBc 221) 585 = .ok (.iaload, 1)) rfl
theorem s221_586 : mSnd 221 586 (a_invV 589 2 600000 7302250 [(10, 163, 0, 0)]) := snd_invV v221_66 rfl rfl (by decide +kernel : decode (mBc 221) 586 = .ok (.invokevirtual 66, 3)) rfl
theorem s221_589 : mSnd 221 589 (a_lcmp 590) := snd_lcmp (by decide +kernel : decode (mBc 221) 589 = .ok (.lcmp, 1)) rfl
theorem s221_590 : mSnd 221 590 (a_if 593 1532 (fun x => decide (x = 0))) := snd_if_eq (by decide +kernel : decode (mBc 221) 590 = .ok (.ifCond .eq 942, 3)) rfl rfl
theorem s221_593 : mSnd 221 593 (a_push 594 (.int (iZ 0))) := snd_iconst (by decide +kernel : decode (mBc 221) 593 = .ok (.iconst 0, 1)) rfl rfl
theorem s221_594 : mSnd 221 594 (a_zret 600000 7302250) := snd_zret rfl rfl rfl (by decide +kernel : decode (mBc 221) 594 = .ok (.ireturn, 1))
theorem s221_595 : mSnd 221 595 (a_aload 596 1) := snd_aload_n (by decide +kernel : decode (mBc 221) 595 = .ok (.aload_n 1, 1)) rfl rfl
theorem s221_596 : mSnd 221 596 (a_aload 597 0) := snd_aload_n (by decide +kernel : decode (mBc 221) 596 = .ok (.aload_n 0, 1)) rfl rfl
theorem s221_597 : mSnd 221 597 (a_iload 598 3) := snd_iload_n (by decide +kernel : decode (mBc 221) 597 = .ok (.iload_n 3, 1)) rfl rfl
theorem s221_598 : mSnd 221 598 (a_push 599 (.int (iZ 1))) := snd_iconst (by decide +kernel : decode (mBc 221) 598 = .ok (.iconst 1, 1)) rfl rfl
theorem s221_599 : mSnd 221 599 (a_ii 600 (fun x y => x + y)) := snd_iadd (by decide +kernel : decode (mBc 221) 599 = .ok (.iadd, 1)) rfl
theorem s221_600 : mSnd 221 600 (a_iald 601) := snd_iald (by decide +kernel : decode (mBc 221) 600 = .ok (.iaload, 1)) rfl
theorem s221_601 : mSnd 221 601 (a_aload 602 0) := snd_aload_n (by decide +kernel : decode (mBc 221) 601 = .ok (.aload_n 0, 1)) rfl rfl
theorem s221_602 : mSnd 221 602 (a_iload 603 3) := snd_iload_n (by decide +kernel : decode (mBc 221) 602 = .ok (.iload_n 3, 1)) rfl rfl
theorem s221_603 : mSnd 221 603 (a_push 604 (.int (iZ 2))) := snd_iconst (by decide +kernel : decode (mBc 221) 603 = .ok (.iconst 2, 1)) rfl rfl
theorem s221_604 : mSnd 221 604 (a_ii 605 (fun x y => x + y)) := snd_iadd (by decide +kernel : decode (mBc 221) 604 = .ok (.iadd, 1)) rfl
theorem s221_605 : mSnd 221 605 (a_iald 606) := snd_iald (by decide +kernel : decode (mBc 221) 605 = .ok (.iaload, 1)) rfl
theorem s221_606 : mSnd 221 606 (a_aload 607 0) := snd_aload_n (by decide +kernel : decode (mBc 221) 606 = .ok (.aload_n 0, 1)) rfl rfl
theorem s221_607 : mSnd 221 607 (a_iload 608 3) := snd_iload_n (by decide +kernel : decode (mBc 221) 607 = .ok (.iload_n 3, 1)) rfl rfl
theorem s221_608 : mSnd 221 608 (a_push 609 (.int (iZ 3))) := snd_iconst (by decide +kernel : decode (mBc 221) 608 = .ok (.iconst 3, 1)) rfl rfl
theorem s221_609 : mSnd 221 609 (a_ii 610 (fun x y => x + y)) := snd_iadd (by decide +kernel : decode (mBc 221) 609 = .ok (.iadd, 1)) rfl
theorem s221_610 : mSnd 221 610 (a_iald 611) := snd_iald (by decide +kernel : decode (mBc 221) 610 = .ok (.iaload, 1)) rfl
theorem s221_611 : mSnd 221 611 (a_invV 614 3 600000 7302250 [(9, 91, 0, 0)]) := snd_invV v221_67 rfl rfl (by decide +kernel : decode (mBc 221) 611 = .ok (.invokevirtual 67, 3)) rfl
theorem s221_614 : mSnd 221 614 (a_aload 615 2) := snd_aload_n (by decide +kernel : decode (mBc 221) 614 = .ok (.aload_n 2, 1)) rfl rfl
theorem s221_615 : mSnd 221 615 (a_aload 616 0) := snd_aload_n (by decide +kernel : decode (mBc 221) 615 = .ok (.aload_n 0, 1)) rfl rfl
theorem s221_616 : mSnd 221 616 (a_iload 617 3) := snd_iload_n (by decide +kernel : decode (mBc 221) 616 = .ok (.iload_n 3, 1)) rfl rfl
theorem s221_617 : mSnd 221 617 (a_push 618 (.int (iZ 1))) := snd_iconst (by decide +kernel : decode (mBc 221) 617 = .ok (.iconst 1, 1)) rfl rfl
theorem s221_618 : mSnd 221 618 (a_ii 619 (fun x y => x + y)) := snd_iadd (by decide +kernel : decode (mBc 221) 618 = .ok (.iadd, 1)) rfl
theorem s221_619 : mSnd 221 619 (a_iald 620) := snd_iald (by decide +kernel : decode (mBc 221) 619 = .ok (.iaload, 1)) rfl
theorem s221_620 : mSnd 221 620 (a_aload 621 0) := snd_aload_n (by decide +kernel : decode (mBc 221) 620 = .ok (.aload_n 0, 1)) rfl rfl
theorem s221_621 : mSnd 221 621 (a_iload 622 3) := snd_iload_n (by decide +kernel : decode (mBc 221) 621 = .ok (.iload_n 3, 1)) rfl rfl
theorem s221_622 : mSnd 221 622 (a_push 623 (.int (iZ 2))) := snd_iconst (by decide +kernel : decode (mBc 221) 622 = .ok (.iconst 2, 1)) rfl rfl
theorem s221_623 : mSnd 221 623 (a_ii 624 (fun x y => x + y)) := snd_iadd (by decide +kernel : decode (mBc 221) 623 = .ok (.iadd, 1)) rfl
theorem s221_624 : mSnd 221 624 (a_iald 625) := snd_iald (by decide +kernel : decode (mBc 221) 624 = .ok (.iaload, 1)) rfl
theorem s221_625 : mSnd 221 625 (a_aload 626 0) := snd_aload_n (by decide +kernel : decode (mBc 221) 625 = .ok (.aload_n 0, 1)) rfl rfl
theorem s221_626 : mSnd 221 626 (a_iload 627 3) := snd_iload_n (by decide +kernel : decode (mBc 221) 626 = .ok (.iload_n 3, 1)) rfl rfl
theorem s221_627 : mSnd 221 627 (a_push 628 (.int (iZ 3))) := snd_iconst (by decide +kernel : decode (mBc 221) 627 = .ok (.iconst 3, 1)) rfl rfl
theorem s221_628 : mSnd 221 628 (a_ii 629 (fun x y => x + y)) := snd_iadd (by decide +kernel : decode (mBc 221) 628 = .ok (.iadd, 1)) rfl
theorem s221_629 : mSnd 221 629 (a_iald 630) := snd_iald (by decide +kernel : decode (mBc 221) 629 = .ok (.iaload, 1)) rfl
theorem s221_630 : mSnd 221 630 (a_invV 633 3 600000 7302250 [(10, 164, 0, 0)]) := snd_invV v221_71 rfl rfl (by decide +kernel : decode (mBc 221) 630 = .ok (.invokevirtual 71, 3)) rfl
theorem s221_633 : mSnd 221 633 (a_lcmp 634) := snd_lcmp (by decide +kernel : decode (mBc 221) 633 = .ok (.lcmp, 1)) rfl
theorem s221_634 : mSnd 221 634 (a_if 637 1532 (fun x => decide (x = 0))) := snd_if_eq (by decide +kernel : decode (mBc 221) 634 = .ok (.ifCond .eq 898, 3)) rfl rfl
theorem s221_637 : mSnd 221 637 (a_push 638 (.int (iZ 0))) := snd_iconst (by decide +kernel : decode (mBc 221) 637 = .ok (.iconst 0, 1)) rfl rfl
theorem s221_638 : mSnd 221 638 (a_zret 600000 7302250) := snd_zret rfl rfl rfl (by decide +kernel : decode (mBc 221) 638 = .ok (.ireturn, 1))
theorem s221_639 : mSnd 221 639 (a_aload 640 1) := snd_aload_n (by decide +kernel : decode (mBc 221) 639 = .ok (.aload_n 1, 1)) rfl rfl
theorem s221_640 : mSnd 221 640 (a_aload 641 0) := snd_aload_n (by decide +kernel : decode (mBc 221) 640 = .ok (.aload_n 0, 1)) rfl rfl
theorem s221_641 : mSnd 221 641 (a_iload 642 3) := snd_iload_n (by decide +kernel : decode (mBc 221) 641 = .ok (.iload_n 3, 1)) rfl rfl
theorem s221_642 : mSnd 221 642 (a_push 643 (.int (iZ 1))) := snd_iconst (by decide +kernel : decode (mBc 221) 642 = .ok (.iconst 1, 1)) rfl rfl
theorem s221_643 : mSnd 221 643 (a_ii 644 (fun x y => x + y)) := snd_iadd (by decide +kernel : decode (mBc 221) 643 = .ok (.iadd, 1)) rfl
theorem s221_644 : mSnd 221 644 (a_iald 645) := snd_iald (by decide +kernel : decode (mBc 221) 644 = .ok (.iaload, 1)) rfl
theorem s221_645 : mSnd 221 645 (a_aload 646 0) := snd_aload_n (by decide +kernel : decode (mBc 221) 645 = .ok (.aload_n 0, 1)) rfl rfl
theorem s221_646 : mSnd 221 646 (a_iload 647 3) := snd_iload_n (by decide +kernel : decode (mBc 221) 646 = .ok (.iload_n 3, 1)) rfl rfl
theorem s221_647 : mSnd 221 647 (a_push 648 (.int (iZ 2))) := snd_iconst (by decide +kernel : decode (mBc 221) 647 = .ok (.iconst 2, 1)) rfl rfl
theorem s221_648 : mSnd 221 648 (a_ii 649 (fun x y => x + y)) := snd_iadd (by decide +kernel : decode (mBc 221) 648 = .ok (.iadd, 1)) rfl
theorem s221_649 : mSnd 221 649 (a_iald 650) := snd_iald (by decide +kernel : decode (mBc 221) 649 = .ok (.iaload, 1)) rfl
theorem s221_650 : mSnd 221 650 (a_aload 651 0) := snd_aload_n (by decide +kernel : decode (mBc 221) 650 = .ok (.aload_n 0, 1)) rfl rfl
theorem s221_651 : mSnd 221 651 (a_iload 652 3) := snd_iload_n (by decide +kernel : decode (mBc 221) 651 = .ok (.iload_n 3, 1)) rfl rfl
theorem s221_652 : mSnd 221 652 (a_push 653 (.int (iZ 3))) := snd_iconst (by decide +kernel : decode (mBc 221) 652 = .ok (.iconst 3, 1)) rfl rfl
theorem s221_653 : mSnd 221 653 (a_ii 654 (fun x y => x + y)) := snd_iadd (by decide +kernel : decode (mBc 221) 653 = .ok (.iadd, 1)) rfl
theorem s221_654 : mSnd 221 654 (a_iald 655) := snd_iald (by decide +kernel : decode (mBc 221) 654 = .ok (.iaload, 1)) rfl
theorem s221_655 : mSnd 221 655 (a_aload 656 0) := snd_aload_n (by decide +kernel : decode (mBc 221) 655 = .ok (.aload_n 0, 1)) rfl rfl
theorem s221_656 : mSnd 221 656 (a_iload 657 3) := snd_iload_n (by decide +kernel : decode (mBc 221) 656 = .ok (.iload_n 3, 1)) rfl rfl
theorem s221_657 : mSnd 221 657 (a_push 658 (.int (iZ 4))) := snd_iconst (by decide +kernel : decode (mBc 221) 657 = .ok (.iconst 4, 1)) rfl rfl
theorem s221_658 : mSnd 221 658 (a_ii 659 (fun x y => x + y)) := snd_iadd (by decide +kernel : decode (mBc 221) 658 = .ok (.iadd, 1)) rfl
theorem s221_659 : mSnd 221 659 (a_iald 660) := snd_iald (by decide +kernel : decode (mBc 221) 659 = .ok (.iaload, 1)) rfl
theorem s221_660 : mSnd 221 660 (a_invV 663 4 600000 7302250 [(9, 92, 0, 0)]) := snd_invV v221_72 rfl rfl (by decide +kernel : decode (mBc 221) 660 = .ok (.invokevirtual 72, 3)) rfl
theorem s221_663 : mSnd 221 663 (a_aload 664 2) := snd_aload_n (by decide +kernel : decode (mBc 221) 663 = .ok (.aload_n 2, 1)) rfl rfl
theorem s221_664 : mSnd 221 664 (a_aload 665 0) := snd_aload_n (by decide +kernel : decode (mBc 221) 664 = .ok (.aload_n 0, 1)) rfl rfl
theorem s221_665 : mSnd 221 665 (a_iload 666 3) := snd_iload_n (by decide +kernel : decode (mBc 221) 665 = .ok (.iload_n 3, 1)) rfl rfl
theorem s221_666 : mSnd 221 666 (a_push 667 (.int (iZ 1))) := snd_iconst (by decide +kernel : decode (mBc 221) 666 = .ok (.iconst 1, 1)) rfl rfl
theorem s221_667 : mSnd 221 667 (a_ii 668 (fun x y => x + y)) := snd_iadd (by decide +kernel : decode (mBc 221) 667 = .ok (.iadd, 1)) rfl
theorem s221_668 : mSnd 221 668 (a_iald 669) := snd_iald (by decide +kernel : decode (mBc 221) 668 = .ok (.iaload, 1)) rfl
theorem s221_669 : mSnd 221 669 (a_aload 670 0) := snd_aload_n (by decide +kernel : decode (mBc 221) 669 = .ok (.aload_n 0, 1)) rfl rfl
theorem s221_670 : mSnd 221 670 (a_iload 671 3) := snd_iload_n (by decide +kernel : decode (mBc 221) 670 = .ok (.iload_n 3, 1)) rfl rfl
theorem s221_671 : mSnd 221 671 (a_push 672 (.int (iZ 2))) := snd_iconst (by decide +kernel : decode (mBc 221) 671 = .ok (.iconst 2, 1)) rfl rfl
theorem s221_672 : mSnd 221 672 (a_ii 673 (fun x y => x + y)) := snd_iadd (by decide +kernel : decode (mBc 221) 672 = .ok (.iadd, 1)) rfl
theorem s221_673 : mSnd 221 673 (a_iald 674) := snd_iald (by decide +kernel : decode (mBc 221) 673 = .ok (.iaload, 1)) rfl
theorem s221_674 : mSnd 221 674 (a_aload 675 0) := snd_aload_n (by decide +kernel : decode (mBc 221) 674 = .ok (.aload_n 0, 1)) rfl rfl
theorem s221_675 : mSnd 221 675 (a_iload 676 3) := snd_iload_n (by decide +kernel : decode (mBc 221) 675 = .ok (.iload_n 3, 1)) rfl rfl
theorem s221_676 : mSnd 221 676 (a_push 677 (.int (iZ 3))) := snd_iconst (by decide +kernel : decode (mBc 221) 676 = .ok (.iconst 3, 1)) rfl rfl
theorem s221_677 : mSnd 221 677 (a_ii 678 (fun x y => x + y)) := snd_iadd (by decide +kernel : decode (mBc 221) 677 = .ok (.iadd, 1)) rfl
theorem s221_678 : mSnd 221 678 (a_iald 679) := snd_iald (by decide +kernel : decode (mBc 221) 678 = .ok (.iaload, 1)) rfl
theorem s221_679 : mSnd 221 679 (a_aload 680 0) := snd_aload_n (by decide +kernel : decode (mBc 221) 679 = .ok (.aload_n 0, 1)) rfl rfl
theorem s221_680 : mSnd 221 680 (a_iload 681 3) := snd_iload_n (by decide +kernel : decode (mBc 221) 680 = .ok (.iload_n 3, 1)) rfl rfl
theorem s221_681 : mSnd 221 681 (a_push 682 (.int (iZ 4))) := snd_iconst (by decide +kernel : decode (mBc 221) 681 = .ok (.iconst 4, 1)) rfl rfl
theorem s221_682 : mSnd 221 682 (a_ii 683 (fun x y => x + y)) := snd_iadd (by decide +kernel : decode (mBc 221) 682 = .ok (.iadd, 1)) rfl
theorem s221_683 : mSnd 221 683 (a_iald 684) := snd_iald (by decide +kernel : decode (mBc 221) 683 = .ok (.iaload, 1)) rfl
theorem s221_684 : mSnd 221 684 (a_invV 687 4 600000 7302250 [(10, 170, 0, 0)]) := snd_invV v221_76 rfl rfl (by decide +kernel : decode (mBc 221) 684 = .ok (.invokevirtual 76, 3)) rfl
theorem s221_687 : mSnd 221 687 (a_lcmp 688) := snd_lcmp (by decide +kernel : decode (mBc 221) 687 = .ok (.lcmp, 1)) rfl
theorem s221_688 : mSnd 221 688 (a_if 691 1532 (fun x => decide (x = 0))) := snd_if_eq (by decide +kernel : decode (mBc 221) 688 = .ok (.ifCond .eq 844, 3)) rfl rfl
theorem s221_691 : mSnd 221 691 (a_push 692 (.int (iZ 0))) := snd_iconst (by decide +kernel : decode (mBc 221) 691 = .ok (.iconst 0, 1)) rfl rfl
theorem s221_692 : mSnd 221 692 (a_zret 600000 7302250) := snd_zret rfl rfl rfl (by decide +kernel : decode (mBc 221) 692 = .ok (.ireturn, 1))
theorem s221_693 : mSnd 221 693 (a_aload 694 1) := snd_aload_n (by decide +kernel : decode (mBc 221) 693 = .ok (.aload_n 1, 1)) rfl rfl
theorem s221_694 : mSnd 221 694 (a_aload 695 0) := snd_aload_n (by decide +kernel : decode (mBc 221) 694 = .ok (.aload_n 0, 1)) rfl rfl
theorem s221_695 : mSnd 221 695 (a_iload 696 3) := snd_iload_n (by decide +kernel : decode (mBc 221) 695 = .ok (.iload_n 3, 1)) rfl rfl
theorem s221_696 : mSnd 221 696 (a_push 697 (.int (iZ 1))) := snd_iconst (by decide +kernel : decode (mBc 221) 696 = .ok (.iconst 1, 1)) rfl rfl
theorem s221_697 : mSnd 221 697 (a_ii 698 (fun x y => x + y)) := snd_iadd (by decide +kernel : decode (mBc 221) 697 = .ok (.iadd, 1)) rfl
theorem s221_698 : mSnd 221 698 (a_iald 699) := snd_iald (by decide +kernel : decode (mBc 221) 698 = .ok (.iaload, 1)) rfl
theorem s221_699 : mSnd 221 699 (a_aload 700 0) := snd_aload_n (by decide +kernel : decode (mBc 221) 699 = .ok (.aload_n 0, 1)) rfl rfl
theorem s221_700 : mSnd 221 700 (a_iload 701 3) := snd_iload_n (by decide +kernel : decode (mBc 221) 700 = .ok (.iload_n 3, 1)) rfl rfl
theorem s221_701 : mSnd 221 701 (a_push 702 (.int (iZ 2))) := snd_iconst (by decide +kernel : decode (mBc 221) 701 = .ok (.iconst 2, 1)) rfl rfl
theorem s221_702 : mSnd 221 702 (a_ii 703 (fun x y => x + y)) := snd_iadd (by decide +kernel : decode (mBc 221) 702 = .ok (.iadd, 1)) rfl
theorem s221_703 : mSnd 221 703 (a_iald 704) := snd_iald (by decide +kernel : decode (mBc 221) 703 = .ok (.iaload, 1)) rfl
theorem s221_704 : mSnd 221 704 (a_aload 705 0) := snd_aload_n (by decide +kernel : decode (mBc 221) 704 = .ok (.aload_n 0, 1)) rfl rfl
theorem s221_705 : mSnd 221 705 (a_iload 706 3) := snd_iload_n (by decide +kernel : decode (mBc 221) 705 = .ok (.iload_n 3, 1)) rfl rfl
theorem s221_706 : mSnd 221 706 (a_push 707 (.int (iZ 3))) := snd_iconst (by decide +kernel : decode (mBc 221) 706 = .ok (.iconst 3, 1)) rfl rfl
theorem s221_707 : mSnd 221 707 (a_ii 708 (fun x y => x + y)) := snd_iadd (by decide +kernel : decode (mBc 221) 707 = .ok (.iadd, 1)) rfl
theorem s221_708 : mSnd 221 708 (a_iald 709) := snd_iald (by decide +kernel : decode (mBc 221) 708 = .ok (.iaload, 1)) rfl
theorem s221_709 : mSnd 221 709 (a_aload 710 0) := snd_aload_n (by decide +kernel : decode (mBc 221) 709 = .ok (.aload_n 0, 1)) rfl rfl
theorem s221_710 : mSnd 221 710 (a_iload 711 3) := snd_iload_n (by decide +kernel : decode (mBc 221) 710 = .ok (.iload_n 3, 1)) rfl rfl
theorem s221_711 : mSnd 221 711 (a_push 712 (.int (iZ 4))) := snd_iconst (by decide +kernel : decode (mBc 221) 711 = .ok (.iconst 4, 1)) rfl rfl
theorem s221_712 : mSnd 221 712 (a_ii 713 (fun x y => x + y)) := snd_iadd (by decide +kernel : decode (mBc 221) 712 = .ok (.iadd, 1)) rfl
theorem s221_713 : mSnd 221 713 (a_iald 714) := snd_iald (by decide +kernel : decode (mBc 221) 713 = .ok (.iaload, 1)) rfl
theorem s221_714 : mSnd 221 714 (a_invV 717 4 600000 7302250 [(9, 93, 0, 0)]) := snd_invV v221_77 rfl rfl (by decide +kernel : decode (mBc 221) 714 = .ok (.invokevirtual 77, 3)) rfl
theorem s221_717 : mSnd 221 717 (a_aload 718 2) := snd_aload_n (by decide +kernel : decode (mBc 221) 717 = .ok (.aload_n 2, 1)) rfl rfl
theorem s221_718 : mSnd 221 718 (a_aload 719 0) := snd_aload_n (by decide +kernel : decode (mBc 221) 718 = .ok (.aload_n 0, 1)) rfl rfl
theorem s221_719 : mSnd 221 719 (a_iload 720 3) := snd_iload_n (by decide +kernel : decode (mBc 221) 719 = .ok (.iload_n 3, 1)) rfl rfl
theorem s221_720 : mSnd 221 720 (a_push 721 (.int (iZ 1))) := snd_iconst (by decide +kernel : decode (mBc 221) 720 = .ok (.iconst 1, 1)) rfl rfl
theorem s221_721 : mSnd 221 721 (a_ii 722 (fun x y => x + y)) := snd_iadd (by decide +kernel : decode (mBc 221) 721 = .ok (.iadd, 1)) rfl
theorem s221_722 : mSnd 221 722 (a_iald 723) := snd_iald (by decide +kernel : decode (mBc 221) 722 = .ok (.iaload, 1)) rfl
theorem s221_723 : mSnd 221 723 (a_aload 724 0) := snd_aload_n (by decide +kernel : decode (mBc 221) 723 = .ok (.aload_n 0, 1)) rfl rfl
theorem s221_724 : mSnd 221 724 (a_iload 725 3) := snd_iload_n (by decide +kernel : decode (mBc 221) 724 = .ok (.iload_n 3, 1)) rfl rfl
theorem s221_725 : mSnd 221 725 (a_push 726 (.int (iZ 2))) := snd_iconst (by decide +kernel : decode (mBc 221) 725 = .ok (.iconst 2, 1)) rfl rfl
theorem s221_726 : mSnd 221 726 (a_ii 727 (fun x y => x + y)) := snd_iadd (by decide +kernel : decode (mBc 221) 726 = .ok (.iadd, 1)) rfl
theorem s221_727 : mSnd 221 727 (a_iald 728) := snd_iald (by decide +kernel : decode (mBc 221) 727 = .ok (.iaload, 1)) rfl
theorem s221_728 : mSnd 221 728 (a_aload 729 0) := snd_aload_n (by decide +kernel : decode (mBc 221) 728 = .ok (.aload_n 0, 1)) rfl rfl
theorem s221_729 : mSnd 221 729 (a_iload 730 3) := snd_iload_n (by decide +kernel : decode (mBc 221) 729 = .ok (.iload_n 3, 1)) rfl rfl
theorem s221_730 : mSnd 221 730 (a_push 731 (.int (iZ 3))) := snd_iconst (by decide +kernel : decode (mBc 221) 730 = .ok (.iconst 3, 1)) rfl rfl
theorem s221_731 : mSnd 221 731 (a_ii 732 (fun x y => x + y)) := snd_iadd (by decide +kernel : decode (mBc 221) 731 = .ok (.iadd, 1)) rfl
theorem s221_732 : mSnd 221 732 (a_iald 733) := snd_iald (by decide +kernel : decode (mBc 221) 732 = .ok (.iaload, 1)) rfl
theorem s221_733 : mSnd 221 733 (a_aload 734 0) := snd_aload_n (by decide +kernel : decode (mBc 221) 733 = .ok (.aload_n 0, 1)) rfl rfl
theorem s221_734 : mSnd 221 734 (a_iload 735 3) := snd_iload_n (by decide +kernel : decode (mBc 221) 734 = .ok (.iload_n 3, 1)) rfl rfl
theorem s221_735 : mSnd 221 735 (a_push 736 (.int (iZ 4))) := snd_iconst (by decide +kernel : decode (mBc 221) 735 = .ok (.iconst 4, 1)) rfl rfl
theorem s221_736 : mSnd 221 736 (a_ii 737 (fun x y => x + y)) := snd_iadd (by decide +kernel : decode (mBc 221) 736 = .ok (.iadd, 1)) rfl
theorem s221_737 : mSnd 221 737 (a_iald 738) := snd_iald (by decide +kernel : decode (mBc 221) 737 = .ok (.iaload, 1)) rfl
theorem s221_738 : mSnd 221 738 (a_invV 741 4 600000 7302250 [(10, 172, 0, 0)]) := snd_invV v221_80 rfl rfl (by decide +kernel : decode (mBc 221) 738 = .ok (.invokevirtual 80, 3)) rfl
theorem s221_741 : mSnd 221 741 (a_lcmp 742) := snd_lcmp (by decide +kernel : decode (mBc 221) 741 = .ok (.lcmp, 1)) rfl
theorem s221_742 : mSnd 221 742 (a_if 745 1532 (fun x => decide (x = 0))) := snd_if_eq (by decide +kernel : decode (mBc 221) 742 = .ok (.ifCond .eq 790, 3)) rfl rfl
theorem s221_745 : mSnd 221 745 (a_push 746 (.int (iZ 0))) := snd_iconst (by decide +kernel : decode (mBc 221) 745 = .ok (.iconst 0, 1)) rfl rfl
theorem s221_746 : mSnd 221 746 (a_zret 600000 7302250) := snd_zret rfl rfl rfl (by decide +kernel : decode (mBc 221) 746 = .ok (.ireturn, 1))
theorem s221_747 : mSnd 221 747 (a_aload 748 1) := snd_aload_n (by decide +kernel : decode (mBc 221) 747 = .ok (.aload_n 1, 1)) rfl rfl
theorem s221_748 : mSnd 221 748 (a_aload 749 0) := snd_aload_n (by decide +kernel : decode (mBc 221) 748 = .ok (.aload_n 0, 1)) rfl rfl
theorem s221_749 : mSnd 221 749 (a_iload 750 3) := snd_iload_n (by decide +kernel : decode (mBc 221) 749 = .ok (.iload_n 3, 1)) rfl rfl
theorem s221_750 : mSnd 221 750 (a_push 751 (.int (iZ 1))) := snd_iconst (by decide +kernel : decode (mBc 221) 750 = .ok (.iconst 1, 1)) rfl rfl
theorem s221_751 : mSnd 221 751 (a_ii 752 (fun x y => x + y)) := snd_iadd (by decide +kernel : decode (mBc 221) 751 = .ok (.iadd, 1)) rfl
theorem s221_752 : mSnd 221 752 (a_iald 753) := snd_iald (by decide +kernel : decode (mBc 221) 752 = .ok (.iaload, 1)) rfl
theorem s221_753 : mSnd 221 753 (a_aload 754 0) := snd_aload_n (by decide +kernel : decode (mBc 221) 753 = .ok (.aload_n 0, 1)) rfl rfl
theorem s221_754 : mSnd 221 754 (a_iload 755 3) := snd_iload_n (by decide +kernel : decode (mBc 221) 754 = .ok (.iload_n 3, 1)) rfl rfl
theorem s221_755 : mSnd 221 755 (a_push 756 (.int (iZ 2))) := snd_iconst (by decide +kernel : decode (mBc 221) 755 = .ok (.iconst 2, 1)) rfl rfl
theorem s221_756 : mSnd 221 756 (a_ii 757 (fun x y => x + y)) := snd_iadd (by decide +kernel : decode (mBc 221) 756 = .ok (.iadd, 1)) rfl
theorem s221_757 : mSnd 221 757 (a_iald 758) := snd_iald (by decide +kernel : decode (mBc 221) 757 = .ok (.iaload, 1)) rfl
theorem s221_758 : mSnd 221 758 (a_invV 761 2 600000 7302250 [(9, 94, 0, 0)]) := snd_invV v221_81 rfl rfl (by decide +kernel : decode (mBc 221) 758 = .ok (.invokevirtual 81, 3)) rfl
theorem s221_761 : mSnd 221 761 (a_aload 762 2) := snd_aload_n (by decide +kernel : decode (mBc 221) 761 = .ok (.aload_n 2, 1)) rfl rfl
theorem s221_762 : mSnd 221 762 (a_aload 763 0) := snd_aload_n (by decide +kernel : decode (mBc 221) 762 = .ok (.aload_n 0, 1)) rfl rfl
theorem s221_763 : mSnd 221 763 (a_iload 764 3) := snd_iload_n (by decide +kernel : decode (mBc 221) 763 = .ok (.iload_n 3, 1)) rfl rfl
theorem s221_764 : mSnd 221 764 (a_push 765 (.int (iZ 1))) := snd_iconst (by decide +kernel : decode (mBc 221) 764 = .ok (.iconst 1, 1)) rfl rfl
theorem s221_765 : mSnd 221 765 (a_ii 766 (fun x y => x + y)) := snd_iadd (by decide +kernel : decode (mBc 221) 765 = .ok (.iadd, 1)) rfl
theorem s221_766 : mSnd 221 766 (a_iald 767) := snd_iald (by decide +kernel : decode (mBc 221) 766 = .ok (.iaload, 1)) rfl
theorem s221_767 : mSnd 221 767 (a_aload 768 0) := snd_aload_n (by decide +kernel : decode (mBc 221) 767 = .ok (.aload_n 0, 1)) rfl rfl
theorem s221_768 : mSnd 221 768 (a_iload 769 3) := snd_iload_n (by decide +kernel : decode (mBc 221) 768 = .ok (.iload_n 3, 1)) rfl rfl
theorem s221_769 : mSnd 221 769 (a_push 770 (.int (iZ 2))) := snd_iconst (by decide +kernel : decode (mBc 221) 769 = .ok (.iconst 2, 1)) rfl rfl
theorem s221_770 : mSnd 221 770 (a_ii 771 (fun x y => x + y)) := snd_iadd (by decide +kernel : decode (mBc 221) 770 = .ok (.iadd, 1)) rfl
theorem s221_771 : mSnd 221 771 (a_iald 772) := snd_iald (by decide +kernel : decode (mBc 221) 771 = .ok (.iaload, 1)) rfl
theorem s221_772 : mSnd 221 772 (a_invV 775 2 600000 7302250 [(10, 173, 0, 0)]) := snd_invV v221_84 rfl rfl (by decide +kernel : decode (mBc 221) 772 = .ok (.invokevirtual 84, 3)) rfl
theorem s221_775 : mSnd 221 775 (a_icmp 778 1532 (fun x y => decide (x = y))) := snd_icmp_eq (by decide +kernel : decode (mBc 221) 775 = .ok (.if_icmp .eq 757, 3)) rfl rfl
theorem s221_778 : mSnd 221 778 (a_push 779 (.int (iZ 0))) := snd_iconst (by decide +kernel : decode (mBc 221) 778 = .ok (.iconst 0, 1)) rfl rfl
theorem s221_779 : mSnd 221 779 (a_zret 600000 7302250) := snd_zret rfl rfl rfl (by decide +kernel : decode (mBc 221) 779 = .ok (.ireturn, 1))
theorem s221_780 : mSnd 221 780 (a_aload 781 1) := snd_aload_n (by decide +kernel : decode (mBc 221) 780 = .ok (.aload_n 1, 1)) rfl rfl
theorem s221_781 : mSnd 221 781 (a_aload 782 0) := snd_aload_n (by decide +kernel : decode (mBc 221) 781 = .ok (.aload_n 0, 1)) rfl rfl
theorem s221_782 : mSnd 221 782 (a_iload 783 3) := snd_iload_n (by decide +kernel : decode (mBc 221) 782 = .ok (.iload_n 3, 1)) rfl rfl
theorem s221_783 : mSnd 221 783 (a_push 784 (.int (iZ 1))) := snd_iconst (by decide +kernel : decode (mBc 221) 783 = .ok (.iconst 1, 1)) rfl rfl
theorem s221_784 : mSnd 221 784 (a_ii 785 (fun x y => x + y)) := snd_iadd (by decide +kernel : decode (mBc 221) 784 = .ok (.iadd, 1)) rfl
theorem s221_785 : mSnd 221 785 (a_iald 786) := snd_iald (by decide +kernel : decode (mBc 221) 785 = .ok (.iaload, 1)) rfl
theorem s221_786 : mSnd 221 786 (a_aload 787 0) := snd_aload_n (by decide +kernel : decode (mBc 221) 786 = .ok (.aload_n 0, 1)) rfl rfl
theorem s221_787 : mSnd 221 787 (a_iload 788 3) := snd_iload_n (by decide +kernel : decode (mBc 221) 787 = .ok (.iload_n 3, 1)) rfl rfl
theorem s221_788 : mSnd 221 788 (a_push 789 (.int (iZ 2))) := snd_iconst (by decide +kernel : decode (mBc 221) 788 = .ok (.iconst 2, 1)) rfl rfl
theorem s221_789 : mSnd 221 789 (a_ii 790 (fun x y => x + y)) := snd_iadd (by decide +kernel : decode (mBc 221) 789 = .ok (.iadd, 1)) rfl
theorem s221_790 : mSnd 221 790 (a_iald 791) := snd_iald (by decide +kernel : decode (mBc 221) 790 = .ok (.iaload, 1)) rfl
theorem s221_791 : mSnd 221 791 (a_aload 792 0) := snd_aload_n (by decide +kernel : decode (mBc 221) 791 = .ok (.aload_n 0, 1)) rfl rfl
theorem s221_792 : mSnd 221 792 (a_iload 793 3) := snd_iload_n (by decide +kernel : decode (mBc 221) 792 = .ok (.iload_n 3, 1)) rfl rfl
theorem s221_793 : mSnd 221 793 (a_push 794 (.int (iZ 3))) := snd_iconst (by decide +kernel : decode (mBc 221) 793 = .ok (.iconst 3, 1)) rfl rfl
theorem s221_794 : mSnd 221 794 (a_ii 795 (fun x y => x + y)) := snd_iadd (by decide +kernel : decode (mBc 221) 794 = .ok (.iadd, 1)) rfl
theorem s221_795 : mSnd 221 795 (a_iald 796) := snd_iald (by decide +kernel : decode (mBc 221) 795 = .ok (.iaload, 1)) rfl
theorem s221_796 : mSnd 221 796 (a_aload 797 0) := snd_aload_n (by decide +kernel : decode (mBc 221) 796 = .ok (.aload_n 0, 1)) rfl rfl
theorem s221_797 : mSnd 221 797 (a_iload 798 3) := snd_iload_n (by decide +kernel : decode (mBc 221) 797 = .ok (.iload_n 3, 1)) rfl rfl
theorem s221_798 : mSnd 221 798 (a_push 799 (.int (iZ 4))) := snd_iconst (by decide +kernel : decode (mBc 221) 798 = .ok (.iconst 4, 1)) rfl rfl
theorem s221_799 : mSnd 221 799 (a_ii 800 (fun x y => x + y)) := snd_iadd (by decide +kernel : decode (mBc 221) 799 = .ok (.iadd, 1)) rfl
theorem s221_800 : mSnd 221 800 (a_iald 801) := snd_iald (by decide +kernel : decode (mBc 221) 800 = .ok (.iaload, 1)) rfl
theorem s221_801 : mSnd 221 801 (a_invV 804 4 600000 7302250 [(9, 95, 0, 0)]) := snd_invV v221_85 rfl rfl (by decide +kernel : decode (mBc 221) 801 = .ok (.invokevirtual 85, 3)) rfl
theorem s221_804 : mSnd 221 804 (a_aload 805 2) := snd_aload_n (by decide +kernel : decode (mBc 221) 804 = .ok (.aload_n 2, 1)) rfl rfl
theorem s221_805 : mSnd 221 805 (a_aload 806 0) := snd_aload_n (by decide +kernel : decode (mBc 221) 805 = .ok (.aload_n 0, 1)) rfl rfl
theorem s221_806 : mSnd 221 806 (a_iload 807 3) := snd_iload_n (by decide +kernel : decode (mBc 221) 806 = .ok (.iload_n 3, 1)) rfl rfl
theorem s221_807 : mSnd 221 807 (a_push 808 (.int (iZ 1))) := snd_iconst (by decide +kernel : decode (mBc 221) 807 = .ok (.iconst 1, 1)) rfl rfl
theorem s221_808 : mSnd 221 808 (a_ii 809 (fun x y => x + y)) := snd_iadd (by decide +kernel : decode (mBc 221) 808 = .ok (.iadd, 1)) rfl
theorem s221_809 : mSnd 221 809 (a_iald 810) := snd_iald (by decide +kernel : decode (mBc 221) 809 = .ok (.iaload, 1)) rfl
theorem s221_810 : mSnd 221 810 (a_aload 811 0) := snd_aload_n (by decide +kernel : decode (mBc 221) 810 = .ok (.aload_n 0, 1)) rfl rfl
theorem s221_811 : mSnd 221 811 (a_iload 812 3) := snd_iload_n (by decide +kernel : decode (mBc 221) 811 = .ok (.iload_n 3, 1)) rfl rfl
theorem s221_812 : mSnd 221 812 (a_push 813 (.int (iZ 2))) := snd_iconst (by decide +kernel : decode (mBc 221) 812 = .ok (.iconst 2, 1)) rfl rfl
theorem s221_813 : mSnd 221 813 (a_ii 814 (fun x y => x + y)) := snd_iadd (by decide +kernel : decode (mBc 221) 813 = .ok (.iadd, 1)) rfl
theorem s221_814 : mSnd 221 814 (a_iald 815) := snd_iald (by decide +kernel : decode (mBc 221) 814 = .ok (.iaload, 1)) rfl
theorem s221_815 : mSnd 221 815 (a_aload 816 0) := snd_aload_n (by decide +kernel : decode (mBc 221) 815 = .ok (.aload_n 0, 1)) rfl rfl
theorem s221_816 : mSnd 221 816 (a_iload 817 3) := snd_iload_n (by decide +kernel : decode (mBc 221) 816 = .ok (.iload_n 3, 1)) rfl rfl
theorem s221_817 : mSnd 221 817 (a_push 818 (.int (iZ 3))) := snd_iconst (by decide +kernel : decode (mBc 221) 817 = .ok (.iconst 3, 1)) rfl rfl
theorem s221_818 : mSnd 221 818 (a_ii 819 (fun x y => x + y)) := snd_iadd (by decide +kernel : decode (mBc 221) 818 = .ok (.iadd, 1)) rfl
theorem s221_819 : mSnd 221 819 (a_iald 820) := snd_iald (by decide +kernel : decode (mBc 221) 819 = .ok (.iaload, 1)) rfl
theorem s221_820 : mSnd 221 820 (a_aload 821 0) := snd_aload_n (by decide +kernel : decode (mBc 221) 820 = .ok (.aload_n 0, 1)) rfl rfl
theorem s221_821 : mSnd 221 821 (a_iload 822 3) := snd_iload_n (by decide +kernel : decode (mBc 221) 821 = .ok (.iload_n 3, 1)) rfl rfl
theorem s221_822 : mSnd 221 822 (a_push 823 (.int (iZ 4))) := snd_iconst (by decide +kernel : decode (mBc 221) 822 = .ok (.iconst 4, 1)) rfl rfl
theorem s221_823 : mSnd 221 823 (a_ii 824 (fun x y => x + y)) := snd_iadd (by decide +kernel : decode (mBc 221) 823 = .ok (.iadd, 1)) rfl
theorem s221_824 : mSnd 221 824 (a_iald 825) := snd_iald (by decide +kernel : decode (mBc 221) 824 = .ok (.iaload, 1)) rfl
theorem s221_825 : mSnd 221 825 (a_invV 828 4 600000 7302250 [(10, 183, 0, 0)]) := snd_invV v221_88 rfl rfl (by decide +kernel : decode (mBc 221) 825 = .ok (.invokevirtual 88, 3)) rfl
theorem s221_828 : mSnd 221 828 (a_lcmp 829) := snd_lcmp (by decide +kernel : decode (mBc 221) 828 = .ok (.lcmp, 1)) rfl
theorem s221_829 : mSnd 221 829 (a_if 832 1532 (fun x => decide (x = 0))) := snd_if_eq (by decide +kernel : decode (mBc 221) 829 = .ok (.ifCond .eq 703, 3)) rfl rfl
theorem s221_832 : mSnd 221 832 (a_push 833 (.int (iZ 0))) := snd_iconst (by decide +kernel : decode (mBc 221) 832 = .ok (.iconst 0, 1)) rfl rfl
theorem s221_833 : mSnd 221 833 (a_zret 600000 7302250) := snd_zret rfl rfl rfl (by decide +kernel : decode (mBc 221) 833 = .ok (.ireturn, 1))
theorem s221_834 : mSnd 221 834 (a_aload 835 1) := snd_aload_n (by decide +kernel : decode (mBc 221) 834 = .ok (.aload_n 1, 1)) rfl rfl
theorem s221_835 : mSnd 221 835 (a_aload 836 0) := snd_aload_n (by decide +kernel : decode (mBc 221) 835 = .ok (.aload_n 0, 1)) rfl rfl
theorem s221_836 : mSnd 221 836 (a_iload 837 3) := snd_iload_n (by decide +kernel : decode (mBc 221) 836 = .ok (.iload_n 3, 1)) rfl rfl
theorem s221_837 : mSnd 221 837 (a_push 838 (.int (iZ 1))) := snd_iconst (by decide +kernel : decode (mBc 221) 837 = .ok (.iconst 1, 1)) rfl rfl
theorem s221_838 : mSnd 221 838 (a_ii 839 (fun x y => x + y)) := snd_iadd (by decide +kernel : decode (mBc 221) 838 = .ok (.iadd, 1)) rfl
theorem s221_839 : mSnd 221 839 (a_iald 840) := snd_iald (by decide +kernel : decode (mBc 221) 839 = .ok (.iaload, 1)) rfl
theorem s221_840 : mSnd 221 840 (a_aload 841 0) := snd_aload_n (by decide +kernel : decode (mBc 221) 840 = .ok (.aload_n 0, 1)) rfl rfl
theorem s221_841 : mSnd 221 841 (a_iload 842 3) := snd_iload_n (by decide +kernel : decode (mBc 221) 841 = .ok (.iload_n 3, 1)) rfl rfl
theorem s221_842 : mSnd 221 842 (a_push 843 (.int (iZ 2))) := snd_iconst (by decide +kernel : decode (mBc 221) 842 = .ok (.iconst 2, 1)) rfl rfl
theorem s221_843 : mSnd 221 843 (a_ii 844 (fun x y => x + y)) := snd_iadd (by decide +kernel : decode (mBc 221) 843 = .ok (.iadd, 1)) rfl
theorem s221_844 : mSnd 221 844 (a_iald 845) := snd_iald (by decide +kernel : decode (mBc 221) 844 = .ok (.iaload, 1)) rfl
theorem s221_845 : mSnd 221 845 (a_aload 846 0) := snd_aload_n (by decide +kernel : decode (mBc 221) 845 = .ok (.aload_n 0, 1)) rfl rfl
theorem s221_846 : mSnd 221 846 (a_iload 847 3) := snd_iload_n (by decide +kernel : decode (mBc 221) 846 = .ok (.iload_n 3, 1)) rfl rfl
theorem s221_847 : mSnd 221 847 (a_push 848 (.int (iZ 3))) := snd_iconst (by decide +kernel : decode (mBc 221) 847 = .ok (.iconst 3, 1)) rfl rfl
theorem s221_848 : mSnd 221 848 (a_ii 849 (fun x y => x + y)) := snd_iadd (by decide +kernel : decode (mBc 221) 848 = .ok (.iadd, 1)) rfl
theorem s221_849 : mSnd 221 849 (a_iald 850) := snd_iald (by decide +kernel : decode (mBc 221) 849 = .ok (.iaload, 1)) rfl
theorem s221_850 : mSnd 221 850 (a_aload 851 0) := snd_aload_n (by decide +kernel : decode (mBc 221) 850 = .ok (.aload_n 0, 1)) rfl rfl
theorem s221_851 : mSnd 221 851 (a_iload 852 3) := snd_iload_n (by decide +kernel : decode (mBc 221) 851 = .ok (.iload_n 3, 1)) rfl rfl
theorem s221_852 : mSnd 221 852 (a_push 853 (.int (iZ 4))) := snd_iconst (by decide +kernel : decode (mBc 221) 852 = .ok (.iconst 4, 1)) rfl rfl
theorem s221_853 : mSnd 221 853 (a_ii 854 (fun x y => x + y)) := snd_iadd (by decide +kernel : decode (mBc 221) 853 = .ok (.iadd, 1)) rfl
theorem s221_854 : mSnd 221 854 (a_iald 855) := snd_iald (by decide +kernel : decode (mBc 221) 854 = .ok (.iaload, 1)) rfl
theorem s221_855 : mSnd 221 855 (a_invV 858 4 600000 7302250 [(9, 96, 0, 0)]) := snd_invV v221_89 rfl rfl (by decide +kernel : decode (mBc 221) 855 = .ok (.invokevirtual 89, 3)) rfl
theorem s221_858 : mSnd 221 858 (a_aload 859 2) := snd_aload_n (by decide +kernel : decode (mBc 221) 858 = .ok (.aload_n 2, 1)) rfl rfl
theorem s221_859 : mSnd 221 859 (a_aload 860 0) := snd_aload_n (by decide +kernel : decode (mBc 221) 859 = .ok (.aload_n 0, 1)) rfl rfl
theorem s221_860 : mSnd 221 860 (a_iload 861 3) := snd_iload_n (by decide +kernel : decode (mBc 221) 860 = .ok (.iload_n 3, 1)) rfl rfl
theorem s221_861 : mSnd 221 861 (a_push 862 (.int (iZ 1))) := snd_iconst (by decide +kernel : decode (mBc 221) 861 = .ok (.iconst 1, 1)) rfl rfl
theorem s221_862 : mSnd 221 862 (a_ii 863 (fun x y => x + y)) := snd_iadd (by decide +kernel : decode (mBc 221) 862 = .ok (.iadd, 1)) rfl
theorem s221_863 : mSnd 221 863 (a_iald 864) := snd_iald (by decide +kernel : decode (mBc 221) 863 = .ok (.iaload, 1)) rfl
theorem s221_864 : mSnd 221 864 (a_aload 865 0) := snd_aload_n (by decide +kernel : decode (mBc 221) 864 = .ok (.aload_n 0, 1)) rfl rfl
theorem s221_865 : mSnd 221 865 (a_iload 866 3) := snd_iload_n (by decide +kernel : decode (mBc 221) 865 = .ok (.iload_n 3, 1)) rfl rfl
theorem s221_866 : mSnd 221 866 (a_push 867 (.int (iZ 2))) := snd_iconst (by decide +kernel : decode (mBc 221) 866 = .ok (.iconst 2, 1)) rfl rfl
theorem s221_867 : mSnd 221 867 (a_ii 868 (fun x y => x + y)) := snd_iadd (by decide +kernel : decode (mBc 221) 867 = .ok (.iadd, 1)) rfl
theorem s221_868 : mSnd 221 868 (a_iald 869) := snd_iald (by decide +kernel : decode (mBc 221) 868 = .ok (.iaload, 1)) rfl
theorem s221_869 : mSnd 221 869 (a_aload 870 0) := snd_aload_n (by decide +kernel : decode (mBc 221) 869 = .ok (.aload_n 0, 1)) rfl rfl
theorem s221_870 : mSnd 221 870 (a_iload 871 3) := snd_iload_n (by decide +kernel : decode (mBc 221) 870 = .ok (.iload_n 3, 1)) rfl rfl
theorem s221_871 : mSnd 221 871 (a_push 872 (.int (iZ 3))) := snd_iconst (by decide +kernel : decode (mBc 221) 871 = .ok (.iconst 3, 1)) rfl rfl
theorem s221_872 : mSnd 221 872 (a_ii 873 (fun x y => x + y)) := snd_iadd (by decide +kernel : decode (mBc 221) 872 = .ok (.iadd, 1)) rfl
theorem s221_873 : mSnd 221 873 (a_iald 874) := snd_iald (by decide +kernel : decode (mBc 221) 873 = .ok (.iaload, 1)) rfl
theorem s221_874 : mSnd 221 874 (a_aload 875 0) := snd_aload_n (by decide +kernel : decode (mBc 221) 874 = .ok (.aload_n 0, 1)) rfl rfl
theorem s221_875 : mSnd 221 875 (a_iload 876 3) := snd_iload_n (by decide +kernel : decode (mBc 221) 875 = .ok (.iload_n 3, 1)) rfl rfl
theorem s221_876 : mSnd 221 876 (a_push 877 (.int (iZ 4))) := snd_iconst (by decide +kernel : decode (mBc 221) 876 = .ok (.iconst 4, 1)) rfl rfl
theorem s221_877 : mSnd 221 877 (a_ii 878 (fun x y => x + y)) := snd_iadd (by decide +kernel : decode (mBc 221) 877 = .ok (.iadd, 1)) rfl
theorem s221_878 : mSnd 221 878 (a_iald 879) := snd_iald (by decide +kernel : decode (mBc 221) 878 = .ok (.iaload, 1)) rfl
theorem s221_879 : mSnd 221 879 (a_invV 882 4 600000 7302250 [(10, 184, 0, 0)]) := snd_invV v221_92 rfl rfl (by decide +kernel : decode (mBc 221) 879 = .ok (.invokevirtual 92, 3)) rfl
theorem s221_882 : mSnd 221 882 (a_lcmp 883) := snd_lcmp (by decide +kernel : decode (mBc 221) 882 = .ok (.lcmp, 1)) rfl
theorem s221_883 : mSnd 221 883 (a_if 886 1532 (fun x => decide (x = 0))) := snd_if_eq (by decide +kernel : decode (mBc 221) 883 = .ok (.ifCond .eq 649, 3)) rfl rfl
theorem s221_886 : mSnd 221 886 (a_push 887 (.int (iZ 0))) := snd_iconst (by decide +kernel : decode (mBc 221) 886 = .ok (.iconst 0, 1)) rfl rfl
theorem s221_887 : mSnd 221 887 (a_zret 600000 7302250) := snd_zret rfl rfl rfl (by decide +kernel : decode (mBc 221) 887 = .ok (.ireturn, 1))
theorem s221_888 : mSnd 221 888 (a_aload 889 1) := snd_aload_n (by decide +kernel : decode (mBc 221) 888 = .ok (.aload_n 1, 1)) rfl rfl
theorem s221_889 : mSnd 221 889 (a_aload 890 0) := snd_aload_n (by decide +kernel : decode (mBc 221) 889 = .ok (.aload_n 0, 1)) rfl rfl
theorem s221_890 : mSnd 221 890 (a_iload 891 3) := snd_iload_n (by decide +kernel : decode (mBc 221) 890 = .ok (.iload_n 3, 1)) rfl rfl
theorem s221_891 : mSnd 221 891 (a_push 892 (.int (iZ 1))) := snd_iconst (by decide +kernel : decode (mBc 221) 891 = .ok (.iconst 1, 1)) rfl rfl
theorem s221_892 : mSnd 221 892 (a_ii 893 (fun x y => x + y)) := snd_iadd (by decide +kernel : decode (mBc 221) 892 = .ok (.iadd, 1)) rfl
theorem s221_893 : mSnd 221 893 (a_iald 894) := snd_iald (by decide +kernel : decode (mBc 221) 893 = .ok (.iaload, 1)) rfl
theorem s221_894 : mSnd 221 894 (a_aload 895 0) := snd_aload_n (by decide +kernel : decode (mBc 221) 894 = .ok (.aload_n 0, 1)) rfl rfl
theorem s221_895 : mSnd 221 895 (a_iload 896 3) := snd_iload_n (by decide +kernel : decode (mBc 221) 895 = .ok (.iload_n 3, 1)) rfl rfl
theorem s221_896 : mSnd 221 896 (a_push 897 (.int (iZ 2))) := snd_iconst (by decide +kernel : decode (mBc 221) 896 = .ok (.iconst 2, 1)) rfl rfl
theorem s221_897 : mSnd 221 897 (a_ii 898 (fun x y => x + y)) := snd_iadd (by decide +kernel : decode (mBc 221) 897 = .ok (.iadd, 1)) rfl
theorem s221_898 : mSnd 221 898 (a_iald 899) := snd_iald (by decide +kernel : decode (mBc 221) 898 = .ok (.iaload, 1)) rfl
theorem s221_899 : mSnd 221 899 (a_invV 902 2 600000 7302250 [(9, 97, 0, 0)]) := snd_invV v221_93 rfl rfl (by decide +kernel : decode (mBc 221) 899 = .ok (.invokevirtual 93, 3)) rfl
theorem s221_902 : mSnd 221 902 (a_aload 903 2) := snd_aload_n (by decide +kernel : decode (mBc 221) 902 = .ok (.aload_n 2, 1)) rfl rfl
theorem s221_903 : mSnd 221 903 (a_aload 904 0) := snd_aload_n (by decide +kernel : decode (mBc 221) 903 = .ok (.aload_n 0, 1)) rfl rfl
theorem s221_904 : mSnd 221 904 (a_iload 905 3) := snd_iload_n (by decide +kernel : decode (mBc 221) 904 = .ok (.iload_n 3, 1)) rfl rfl
theorem s221_905 : mSnd 221 905 (a_push 906 (.int (iZ 1))) := snd_iconst (by decide +kernel : decode (mBc 221) 905 = .ok (.iconst 1, 1)) rfl rfl
theorem s221_906 : mSnd 221 906 (a_ii 907 (fun x y => x + y)) := snd_iadd (by decide +kernel : decode (mBc 221) 906 = .ok (.iadd, 1)) rfl
theorem s221_907 : mSnd 221 907 (a_iald 908) := snd_iald (by decide +kernel : decode (mBc 221) 907 = .ok (.iaload, 1)) rfl
theorem s221_908 : mSnd 221 908 (a_aload 909 0) := snd_aload_n (by decide +kernel : decode (mBc 221) 908 = .ok (.aload_n 0, 1)) rfl rfl
theorem s221_909 : mSnd 221 909 (a_iload 910 3) := snd_iload_n (by decide +kernel : decode (mBc 221) 909 = .ok (.iload_n 3, 1)) rfl rfl
theorem s221_910 : mSnd 221 910 (a_push 911 (.int (iZ 2))) := snd_iconst (by decide +kernel : decode (mBc 221) 910 = .ok (.iconst 2, 1)) rfl rfl
theorem s221_911 : mSnd 221 911 (a_ii 912 (fun x y => x + y)) := snd_iadd (by decide +kernel : decode (mBc 221) 911 = .ok (.iadd, 1)) rfl
theorem s221_912 : mSnd 221 912 (a_iald 913) := snd_iald (by decide +kernel : decode (mBc 221) 912 = .ok (.iaload, 1)) rfl
theorem s221_913 : mSnd 221 913 (a_invV 916 2 600000 7302250 [(10, 187, 0, 0)]) := snd_invV v221_96 rfl rfl (by decide +kernel : decode (mBc 221) 913 = .ok (.invokevirtual 96, 3)) rfl
theorem s221_916 : mSnd 221 916 (a_lcmp 917) := snd_lcmp (by decide +kernel : decode (mBc 221) 916 = .ok (.lcmp, 1)) rfl
theorem s221_917 : mSnd 221 917 (a_if 920 1532 (fun x => decide (x = 0))) := snd_if_eq (by decide +kernel : decode (mBc 221) 917 = .ok (.ifCond .eq 615, 3)) rfl rfl
theorem s221_920 : mSnd 221 920 (a_push 921 (.int (iZ 0))) := snd_iconst (by decide +kernel : decode (mBc 221) 920 = .ok (.iconst 0, 1)) rfl rfl
theorem s221_921 : mSnd 221 921 (a_zret 600000 7302250) := snd_zret rfl rfl rfl (by decide +kernel : decode (mBc 221) 921 = .ok (.ireturn, 1))
theorem s221_922 : mSnd 221 922 (a_aload 923 1) := snd_aload_n (by decide +kernel : decode (mBc 221) 922 = .ok (.aload_n 1, 1)) rfl rfl
theorem s221_923 : mSnd 221 923 (a_aload 924 0) := snd_aload_n (by decide +kernel : decode (mBc 221) 923 = .ok (.aload_n 0, 1)) rfl rfl
theorem s221_924 : mSnd 221 924 (a_iload 925 3) := snd_iload_n (by decide +kernel : decode (mBc 221) 924 = .ok (.iload_n 3, 1)) rfl rfl
theorem s221_925 : mSnd 221 925 (a_push 926 (.int (iZ 1))) := snd_iconst (by decide +kernel : decode (mBc 221) 925 = .ok (.iconst 1, 1)) rfl rfl
theorem s221_926 : mSnd 221 926 (a_ii 927 (fun x y => x + y)) := snd_iadd (by decide +kernel : decode (mBc 221) 926 = .ok (.iadd, 1)) rfl
theorem s221_927 : mSnd 221 927 (a_iald 928) := snd_iald (by decide +kernel : decode (mBc 221) 927 = .ok (.iaload, 1)) rfl
theorem s221_928 : mSnd 221 928 (a_aload 929 0) := snd_aload_n (by decide +kernel : decode (mBc 221) 928 = .ok (.aload_n 0, 1)) rfl rfl
theorem s221_929 : mSnd 221 929 (a_iload 930 3) := snd_iload_n (by decide +kernel : decode (mBc 221) 929 = .ok (.iload_n 3, 1)) rfl rfl
theorem s221_930 : mSnd 221 930 (a_push 931 (.int (iZ 2))) := snd_iconst (by decide +kernel : decode (mBc 221) 930 = .ok (.iconst 2, 1)) rfl rfl
theorem s221_931 : mSnd 221 931 (a_ii 932 (fun x y => x + y)) := snd_iadd (by decide +kernel : decode (mBc 221) 931 = .ok (.iadd, 1)) rfl
theorem s221_932 : mSnd 221 932 (a_iald 933) := snd_iald (by decide +kernel : decode (mBc 221) 932 = .ok (.iaload, 1)) rfl
theorem s221_933 : mSnd 221 933 (a_aload 934 0) := snd_aload_n (by decide +kernel : decode (mBc 221) 933 = .ok (.aload_n 0, 1)) rfl rfl
theorem s221_934 : mSnd 221 934 (a_iload 935 3) := snd_iload_n (by decide +kernel : decode (mBc 221) 934 = .ok (.iload_n 3, 1)) rfl rfl
theorem s221_935 : mSnd 221 935 (a_push 936 (.int (iZ 3))) := snd_iconst (by decide +kernel : decode (mBc 221) 935 = .ok (.iconst 3, 1)) rfl rfl
theorem s221_936 : mSnd 221 936 (a_ii 937 (fun x y => x + y)) := snd_iadd (by decide +kernel : decode (mBc 221) 936 = .ok (.iadd, 1)) rfl
theorem s221_937 : mSnd 221 937 (a_iald 938) := snd_iald (by decide +kernel : decode (mBc 221) 937 = .ok (.iaload, 1)) rfl
theorem s221_938 : mSnd 221 938 (a_invV 941 3 600000 7302250 [(9, 98, 0, 0)]) := snd_invV v221_97 rfl rfl (by decide +kernel : decode (mBc 221) 938 = .ok (.invokevirtual 97, 3)) rfl
theorem s221_941 : mSnd 221 941 (a_aload 942 2) := snd_aload_n (by decide +kernel : decode (mBc 221) 941 = .ok (.aload_n 2, 1)) rfl rfl
theorem s221_942 : mSnd 221 942 (a_aload 943 0) := snd_aload_n (by decide +kernel : decode (mBc 221) 942 = .ok (.aload_n 0, 1)) rfl rfl
theorem s221_943 : mSnd 221 943 (a_iload 944 3) := snd_iload_n (by decide +kernel : decode (mBc 221) 943 = .ok (.iload_n 3, 1)) rfl rfl
theorem s221_944 : mSnd 221 944 (a_push 945 (.int (iZ 1))) := snd_iconst (by decide +kernel : decode (mBc 221) 944 = .ok (.iconst 1, 1)) rfl rfl
theorem s221_945 : mSnd 221 945 (a_ii 946 (fun x y => x + y)) := snd_iadd (by decide +kernel : decode (mBc 221) 945 = .ok (.iadd, 1)) rfl
theorem s221_946 : mSnd 221 946 (a_iald 947) := snd_iald (by decide +kernel : decode (mBc 221) 946 = .ok (.iaload, 1)) rfl
theorem s221_947 : mSnd 221 947 (a_aload 948 0) := snd_aload_n (by decide +kernel : decode (mBc 221) 947 = .ok (.aload_n 0, 1)) rfl rfl
theorem s221_948 : mSnd 221 948 (a_iload 949 3) := snd_iload_n (by decide +kernel : decode (mBc 221) 948 = .ok (.iload_n 3, 1)) rfl rfl
theorem s221_949 : mSnd 221 949 (a_push 950 (.int (iZ 2))) := snd_iconst (by decide +kernel : decode (mBc 221) 949 = .ok (.iconst 2, 1)) rfl rfl
theorem s221_950 : mSnd 221 950 (a_ii 951 (fun x y => x + y)) := snd_iadd (by decide +kernel : decode (mBc 221) 950 = .ok (.iadd, 1)) rfl
theorem s221_951 : mSnd 221 951 (a_iald 952) := snd_iald (by decide +kernel : decode (mBc 221) 951 = .ok (.iaload, 1)) rfl
theorem s221_952 : mSnd 221 952 (a_aload 953 0) := snd_aload_n (by decide +kernel : decode (mBc 221) 952 = .ok (.aload_n 0, 1)) rfl rfl
theorem s221_953 : mSnd 221 953 (a_iload 954 3) := snd_iload_n (by decide +kernel : decode (mBc 221) 953 = .ok (.iload_n 3, 1)) rfl rfl
theorem s221_954 : mSnd 221 954 (a_push 955 (.int (iZ 3))) := snd_iconst (by decide +kernel : decode (mBc 221) 954 = .ok (.iconst 3, 1)) rfl rfl
theorem s221_955 : mSnd 221 955 (a_ii 956 (fun x y => x + y)) := snd_iadd (by decide +kernel : decode (mBc 221) 955 = .ok (.iadd, 1)) rfl
theorem s221_956 : mSnd 221 956 (a_iald 957) := snd_iald (by decide +kernel : decode (mBc 221) 956 = .ok (.iaload, 1)) rfl
theorem s221_957 : mSnd 221 957 (a_invV 960 3 600000 7302250 [(10, 188, 0, 0)]) := snd_invV v221_100 rfl rfl (by decide +kernel : decode (mBc 221) 957 = .ok (.invokevirtual 100, 3)) rfl
theorem s221_960 : mSnd 221 960 (a_lcmp 961) := snd_lcmp (by decide +kernel : decode (mBc 221) 960 = .ok (.lcmp, 1)) rfl
theorem s221_961 : mSnd 221 961 (a_if 964 1532 (fun x => decide (x = 0))) := snd_if_eq (by decide +kernel : decode (mBc 221) 961 = .ok (.ifCond .eq 571, 3)) rfl rfl
theorem s221_964 : mSnd 221 964 (a_push 965 (.int (iZ 0))) := snd_iconst (by decide +kernel : decode (mBc 221) 964 = .ok (.iconst 0, 1)) rfl rfl
theorem s221_965 : mSnd 221 965 (a_zret 600000 7302250) := snd_zret rfl rfl rfl (by decide +kernel : decode (mBc 221) 965 = .ok (.ireturn, 1))
theorem s221_966 : mSnd 221 966 (a_aload 967 1) := snd_aload_n (by decide +kernel : decode (mBc 221) 966 = .ok (.aload_n 1, 1)) rfl rfl
theorem s221_967 : mSnd 221 967 (a_aload 968 0) := snd_aload_n (by decide +kernel : decode (mBc 221) 967 = .ok (.aload_n 0, 1)) rfl rfl
theorem s221_968 : mSnd 221 968 (a_iload 969 3) := snd_iload_n (by decide +kernel : decode (mBc 221) 968 = .ok (.iload_n 3, 1)) rfl rfl
theorem s221_969 : mSnd 221 969 (a_push 970 (.int (iZ 1))) := snd_iconst (by decide +kernel : decode (mBc 221) 969 = .ok (.iconst 1, 1)) rfl rfl
theorem s221_970 : mSnd 221 970 (a_ii 971 (fun x y => x + y)) := snd_iadd (by decide +kernel : decode (mBc 221) 970 = .ok (.iadd, 1)) rfl
theorem s221_971 : mSnd 221 971 (a_iald 972) := snd_iald (by decide +kernel : decode (mBc 221) 971 = .ok (.iaload, 1)) rfl
theorem s221_972 : mSnd 221 972 (a_invV 975 1 600000 7302250 [(9, 99, 0, 0)]) := snd_invV v221_101 rfl rfl (by decide +kernel : decode (mBc 221) 972 = .ok (.invokevirtual 101, 3)) rfl
theorem s221_975 : mSnd 221 975 (a_aload 976 2) := snd_aload_n (by decide +kernel : decode (mBc 221) 975 = .ok (.aload_n 2, 1)) rfl rfl
theorem s221_976 : mSnd 221 976 (a_aload 977 0) := snd_aload_n (by decide +kernel : decode (mBc 221) 976 = .ok (.aload_n 0, 1)) rfl rfl
theorem s221_977 : mSnd 221 977 (a_iload 978 3) := snd_iload_n (by decide +kernel : decode (mBc 221) 977 = .ok (.iload_n 3, 1)) rfl rfl
theorem s221_978 : mSnd 221 978 (a_push 979 (.int (iZ 1))) := snd_iconst (by decide +kernel : decode (mBc 221) 978 = .ok (.iconst 1, 1)) rfl rfl
theorem s221_979 : mSnd 221 979 (a_ii 980 (fun x y => x + y)) := snd_iadd (by decide +kernel : decode (mBc 221) 979 = .ok (.iadd, 1)) rfl
theorem s221_980 : mSnd 221 980 (a_iald 981) := snd_iald (by decide +kernel : decode (mBc 221) 980 = .ok (.iaload, 1)) rfl
theorem s221_981 : mSnd 221 981 (a_invV 984 1 600000 7302250 [(10, 189, 0, 0)]) := snd_invV v221_104 rfl rfl (by decide +kernel : decode (mBc 221) 981 = .ok (.invokevirtual 104, 3)) rfl
theorem s221_984 : mSnd 221 984 (a_icmp 987 1532 (fun x y => decide (x = y))) := snd_icmp_eq (by decide +kernel : decode (mBc 221) 984 = .ok (.if_icmp .eq 548, 3)) rfl rfl
theorem s221_987 : mSnd 221 987 (a_push 988 (.int (iZ 0))) := snd_iconst (by decide +kernel : decode (mBc 221) 987 = .ok (.iconst 0, 1)) rfl rfl
theorem s221_988 : mSnd 221 988 (a_zret 600000 7302250) := snd_zret rfl rfl rfl (by decide +kernel : decode (mBc 221) 988 = .ok (.ireturn, 1))
theorem s221_989 : mSnd 221 989 (a_aload 990 1) := snd_aload_n (by decide +kernel : decode (mBc 221) 989 = .ok (.aload_n 1, 1)) rfl rfl
theorem s221_990 : mSnd 221 990 (a_aload 991 0) := snd_aload_n (by decide +kernel : decode (mBc 221) 990 = .ok (.aload_n 0, 1)) rfl rfl
theorem s221_991 : mSnd 221 991 (a_iload 992 3) := snd_iload_n (by decide +kernel : decode (mBc 221) 991 = .ok (.iload_n 3, 1)) rfl rfl
theorem s221_992 : mSnd 221 992 (a_push 993 (.int (iZ 1))) := snd_iconst (by decide +kernel : decode (mBc 221) 992 = .ok (.iconst 1, 1)) rfl rfl
theorem s221_993 : mSnd 221 993 (a_ii 994 (fun x y => x + y)) := snd_iadd (by decide +kernel : decode (mBc 221) 993 = .ok (.iadd, 1)) rfl
theorem s221_994 : mSnd 221 994 (a_iald 995) := snd_iald (by decide +kernel : decode (mBc 221) 994 = .ok (.iaload, 1)) rfl
theorem s221_995 : mSnd 221 995 (a_aload 996 0) := snd_aload_n (by decide +kernel : decode (mBc 221) 995 = .ok (.aload_n 0, 1)) rfl rfl
theorem s221_996 : mSnd 221 996 (a_iload 997 3) := snd_iload_n (by decide +kernel : decode (mBc 221) 996 = .ok (.iload_n 3, 1)) rfl rfl
theorem s221_997 : mSnd 221 997 (a_push 998 (.int (iZ 2))) := snd_iconst (by decide +kernel : decode (mBc 221) 997 = .ok (.iconst 2, 1)) rfl rfl
theorem s221_998 : mSnd 221 998 (a_ii 999 (fun x y => x + y)) := snd_iadd (by decide +kernel : decode (mBc 221) 998 = .ok (.iadd, 1)) rfl
theorem s221_999 : mSnd 221 999 (a_iald 1000) := snd_iald (by decide +kernel : decode (mBc 221) 999 = .ok (.iaload, 1)) rfl
theorem s221_1000 : mSnd 221 1000 (a_aload 1001 0) := snd_aload_n (by decide +kernel : decode (mBc 221) 1000 = .ok (.aload_n 0, 1)) rfl rfl
theorem s221_1001 : mSnd 221 1001 (a_iload 1002 3) := snd_iload_n (by decide +kernel : decode (mBc 221) 1001 = .ok (.iload_n 3, 1)) rfl rfl
theorem s221_1002 : mSnd 221 1002 (a_push 1003 (.int (iZ 3))) := snd_iconst (by decide +kernel : decode (mBc 221) 1002 = .ok (.iconst 3, 1)) rfl rfl
theorem s221_1003 : mSnd 221 1003 (a_ii 1004 (fun x y => x + y)) := snd_iadd (by decide +kernel : decode (mBc 221) 1003 = .ok (.iadd, 1)) rfl
theorem s221_1004 : mSnd 221 1004 (a_iald 1005) := snd_iald (by decide +kernel : decode (mBc 221) 1004 = .ok (.iaload, 1)) rfl
theorem s221_1005 : mSnd 221 1005 (a_invV 1008 3 600000 7302250 [(9, 100, 0, 0)]) := snd_invV v221_105 rfl rfl (by decide +kernel : decode (mBc 221) 1005 = .ok (.invokevirtual 105, 3)) rfl
theorem s221_1008 : mSnd 221 1008 (a_aload 1009 2) := snd_aload_n (by decide +kernel : decode (mBc 221) 1008 = .ok (.aload_n 2, 1)) rfl rfl
theorem s221_1009 : mSnd 221 1009 (a_aload 1010 0) := snd_aload_n (by decide +kernel : decode (mBc 221) 1009 = .ok (.aload_n 0, 1)) rfl rfl
theorem s221_1010 : mSnd 221 1010 (a_iload 1011 3) := snd_iload_n (by decide +kernel : decode (mBc 221) 1010 = .ok (.iload_n 3, 1)) rfl rfl
theorem s221_1011 : mSnd 221 1011 (a_push 1012 (.int (iZ 1))) := snd_iconst (by decide +kernel : decode (mBc 221) 1011 = .ok (.iconst 1, 1)) rfl rfl
theorem s221_1012 : mSnd 221 1012 (a_ii 1013 (fun x y => x + y)) := snd_iadd (by decide +kernel : decode (mBc 221) 1012 = .ok (.iadd, 1)) rfl
theorem s221_1013 : mSnd 221 1013 (a_iald 1014) := snd_iald (by decide +kernel : decode (mBc 221) 1013 = .ok (.iaload, 1)) rfl
theorem s221_1014 : mSnd 221 1014 (a_aload 1015 0) := snd_aload_n (by decide +kernel : decode (mBc 221) 1014 = .ok (.aload_n 0, 1)) rfl rfl
theorem s221_1015 : mSnd 221 1015 (a_iload 1016 3) := snd_iload_n (by decide +kernel : decode (mBc 221) 1015 = .ok (.iload_n 3, 1)) rfl rfl
theorem s221_1016 : mSnd 221 1016 (a_push 1017 (.int (iZ 2))) := snd_iconst (by decide +kernel : decode (mBc 221) 1016 = .ok (.iconst 2, 1)) rfl rfl
theorem s221_1017 : mSnd 221 1017 (a_ii 1018 (fun x y => x + y)) := snd_iadd (by decide +kernel : decode (mBc 221) 1017 = .ok (.iadd, 1)) rfl
theorem s221_1018 : mSnd 221 1018 (a_iald 1019) := snd_iald (by decide +kernel : decode (mBc 221) 1018 = .ok (.iaload, 1)) rfl
theorem s221_1019 : mSnd 221 1019 (a_aload 1020 0) := snd_aload_n (by decide +kernel : decode (mBc 221) 1019 = .ok (.aload_n 0, 1)) rfl rfl
theorem s221_1020 : mSnd 221 1020 (a_iload 1021 3) := snd_iload_n (by decide +kernel : decode (mBc 221) 1020 = .ok (.iload_n 3, 1)) rfl rfl
theorem s221_1021 : mSnd 221 1021 (a_push 1022 (.int (iZ 3))) := snd_iconst (by decide +kernel : decode (mBc 221) 1021 = .ok (.iconst 3, 1)) rfl rfl
theorem s221_1022 : mSnd 221 1022 (a_ii 1023 (fun x y => x + y)) := snd_iadd (by decide +kernel : decode (mBc 221) 1022 = .ok (.iadd, 1)) rfl
theorem s221_1023 : mSnd 221 1023 (a_iald 1024) := snd_iald (by decide +kernel : decode (mBc 221) 1023 = .ok (.iaload, 1)) rfl
theorem s221_1024 : mSnd 221 1024 (a_invV 1027 3 600000 7302250 [(10, 193, 0, 0)]) := snd_invV v221_108 rfl rfl (by decide +kernel : decode (mBc 221) 1024 = .ok (.invokevirtual 108, 3)) rfl
theorem s221_1027 : mSnd 221 1027 (a_icmp 1030 1532 (fun x y => decide (x = y))) := snd_icmp_eq (by decide +kernel : decode (mBc 221) 1027 = .ok (.if_icmp .eq 505, 3)) rfl rfl
theorem s221_1030 : mSnd 221 1030 (a_push 1031 (.int (iZ 0))) := snd_iconst (by decide +kernel : decode (mBc 221) 1030 = .ok (.iconst 0, 1)) rfl rfl
theorem s221_1031 : mSnd 221 1031 (a_zret 600000 7302250) := snd_zret rfl rfl rfl (by decide +kernel : decode (mBc 221) 1031 = .ok (.ireturn, 1))
theorem s221_1032 : mSnd 221 1032 (a_aload 1033 1) := snd_aload_n (by decide +kernel : decode (mBc 221) 1032 = .ok (.aload_n 1, 1)) rfl rfl
theorem s221_1033 : mSnd 221 1033 (a_aload 1034 0) := snd_aload_n (by decide +kernel : decode (mBc 221) 1033 = .ok (.aload_n 0, 1)) rfl rfl
theorem s221_1034 : mSnd 221 1034 (a_iload 1035 3) := snd_iload_n (by decide +kernel : decode (mBc 221) 1034 = .ok (.iload_n 3, 1)) rfl rfl
theorem s221_1035 : mSnd 221 1035 (a_push 1036 (.int (iZ 1))) := snd_iconst (by decide +kernel : decode (mBc 221) 1035 = .ok (.iconst 1, 1)) rfl rfl
theorem s221_1036 : mSnd 221 1036 (a_ii 1037 (fun x y => x + y)) := snd_iadd (by decide +kernel : decode (mBc 221) 1036 = .ok (.iadd, 1)) rfl
theorem s221_1037 : mSnd 221 1037 (a_iald 1038) := snd_iald (by decide +kernel : decode (mBc 221) 1037 = .ok (.iaload, 1)) rfl
theorem s221_1038 : mSnd 221 1038 (a_aload 1039 0) := snd_aload_n (by decide +kernel : decode (mBc 221) 1038 = .ok (.aload_n 0, 1)) rfl rfl
theorem s221_1039 : mSnd 221 1039 (a_iload 1040 3) := snd_iload_n (by decide +kernel : decode (mBc 221) 1039 = .ok (.iload_n 3, 1)) rfl rfl
theorem s221_1040 : mSnd 221 1040 (a_push 1041 (.int (iZ 2))) := snd_iconst (by decide +kernel : decode (mBc 221) 1040 = .ok (.iconst 2, 1)) rfl rfl
theorem s221_1041 : mSnd 221 1041 (a_ii 1042 (fun x y => x + y)) := snd_iadd (by decide +kernel : decode (mBc 221) 1041 = .ok (.iadd, 1)) rfl
theorem s221_1042 : mSnd 221 1042 (a_iald 1043) := snd_iald (by decide +kernel : decode (mBc 221) 1042 = .ok (.iaload, 1)) rfl
theorem s221_1043 : mSnd 221 1043 (a_aload 1044 0) := snd_aload_n (by decide +kernel : decode (mBc 221) 1043 = .ok (.aload_n 0, 1)) rfl rfl
theorem s221_1044 : mSnd 221 1044 (a_iload 1045 3) := snd_iload_n (by decide +kernel : decode (mBc 221) 1044 = .ok (.iload_n 3, 1)) rfl rfl
theorem s221_1045 : mSnd 221 1045 (a_push 1046 (.int (iZ 3))) := snd_iconst (by decide +kernel : decode (mBc 221) 1045 = .ok (.iconst 3, 1)) rfl rfl
theorem s221_1046 : mSnd 221 1046 (a_ii 1047 (fun x y => x + y)) := snd_iadd (by decide +kernel : decode (mBc 221) 1046 = .ok (.iadd, 1)) rfl
theorem s221_1047 : mSnd 221 1047 (a_iald 1048) := snd_iald (by decide +kernel : decode (mBc 221) 1047 = .ok (.iaload, 1)) rfl
theorem s221_1048 : mSnd 221 1048 (a_invV 1051 3 600000 7302250 [(9, 101, 0, 0)]) := snd_invV v221_109 rfl rfl (by decide +kernel : decode (mBc 221) 1048 = .ok (.invokevirtual 109, 3)) rfl
theorem s221_1051 : mSnd 221 1051 (a_aload 1052 2) := snd_aload_n (by decide +kernel : decode (mBc 221) 1051 = .ok (.aload_n 2, 1)) rfl rfl
theorem s221_1052 : mSnd 221 1052 (a_aload 1053 0) := snd_aload_n (by decide +kernel : decode (mBc 221) 1052 = .ok (.aload_n 0, 1)) rfl rfl
theorem s221_1053 : mSnd 221 1053 (a_iload 1054 3) := snd_iload_n (by decide +kernel : decode (mBc 221) 1053 = .ok (.iload_n 3, 1)) rfl rfl
theorem s221_1054 : mSnd 221 1054 (a_push 1055 (.int (iZ 1))) := snd_iconst (by decide +kernel : decode (mBc 221) 1054 = .ok (.iconst 1, 1)) rfl rfl
theorem s221_1055 : mSnd 221 1055 (a_ii 1056 (fun x y => x + y)) := snd_iadd (by decide +kernel : decode (mBc 221) 1055 = .ok (.iadd, 1)) rfl
theorem s221_1056 : mSnd 221 1056 (a_iald 1057) := snd_iald (by decide +kernel : decode (mBc 221) 1056 = .ok (.iaload, 1)) rfl
theorem s221_1057 : mSnd 221 1057 (a_aload 1058 0) := snd_aload_n (by decide +kernel : decode (mBc 221) 1057 = .ok (.aload_n 0, 1)) rfl rfl
theorem s221_1058 : mSnd 221 1058 (a_iload 1059 3) := snd_iload_n (by decide +kernel : decode (mBc 221) 1058 = .ok (.iload_n 3, 1)) rfl rfl
theorem s221_1059 : mSnd 221 1059 (a_push 1060 (.int (iZ 2))) := snd_iconst (by decide +kernel : decode (mBc 221) 1059 = .ok (.iconst 2, 1)) rfl rfl
theorem s221_1060 : mSnd 221 1060 (a_ii 1061 (fun x y => x + y)) := snd_iadd (by decide +kernel : decode (mBc 221) 1060 = .ok (.iadd, 1)) rfl
theorem s221_1061 : mSnd 221 1061 (a_iald 1062) := snd_iald (by decide +kernel : decode (mBc 221) 1061 = .ok (.iaload, 1)) rfl
theorem s221_1062 : mSnd 221 1062 (a_aload 1063 0) := snd_aload_n (by decide +kernel : decode (mBc 221) 1062 = .ok (.aload_n 0, 1)) rfl rfl
theorem s221_1063 : mSnd 221 1063 (a_iload 1064 3) := snd_iload_n (by decide +kernel : decode (mBc 221) 1063 = .ok (.iload_n 3, 1)) rfl rfl
theorem s221_1064 : mSnd 221 1064 (a_push 1065 (.int (iZ 3))) := snd_iconst (by decide +kernel : decode (mBc 221) 1064 = .ok (.iconst 3, 1)) rfl rfl
theorem s221_1065 : mSnd 221 1065 (a_ii 1066 (fun x y => x + y)) := snd_iadd (by decide +kernel : decode (mBc 221) 1065 = .ok (.iadd, 1)) rfl
theorem s221_1066 : mSnd 221 1066 (a_iald 1067) := snd_iald (by decide +kernel : decode (mBc 221) 1066 = .ok (.iaload, 1)) rfl
theorem s221_1067 : mSnd 221 1067 (a_invV 1070 3 600000 7302250 [(10, 194, 0, 0)]) := snd_invV v221_112 rfl rfl (by decide +kernel : decode (mBc 221) 1067 = .ok (.invokevirtual 112, 3)) rfl
theorem s221_1070 : mSnd 221 1070 (a_icmp 1073 1532 (fun x y => decide (x = y))) := snd_icmp_eq (by decide +kernel : decode (mBc 221) 1070 = .ok (.if_icmp .eq 462, 3)) rfl rfl
theorem s221_1073 : mSnd 221 1073 (a_push 1074 (.int (iZ 0))) := snd_iconst (by decide +kernel : decode (mBc 221) 1073 = .ok (.iconst 0, 1)) rfl rfl
theorem s221_1074 : mSnd 221 1074 (a_zret 600000 7302250) := snd_zret rfl rfl rfl (by decide +kernel : decode (mBc 221) 1074 = .ok (.ireturn, 1))
theorem s221_1075 : mSnd 221 1075 (a_aload 1076 1) := snd_aload_n (by decide +kernel : decode (mBc 221) 1075 = .ok (.aload_n 1, 1)) rfl rfl
theorem s221_1076 : mSnd 221 1076 (a_aload 1077 0) := snd_aload_n (by decide +kernel : decode (mBc 221) 1076 = .ok (.aload_n 0, 1)) rfl rfl
theorem s221_1077 : mSnd 221 1077 (a_iload 1078 3) := snd_iload_n (by decide +kernel : decode (mBc 221) 1077 = .ok (.iload_n 3, 1)) rfl rfl
theorem s221_1078 : mSnd 221 1078 (a_push 1079 (.int (iZ 1))) := snd_iconst (by decide +kernel : decode (mBc 221) 1078 = .ok (.iconst 1, 1)) rfl rfl
theorem s221_1079 : mSnd 221 1079 (a_ii 1080 (fun x y => x + y)) := snd_iadd (by decide +kernel : decode (mBc 221) 1079 = .ok (.iadd, 1)) rfl
theorem s221_1080 : mSnd 221 1080 (a_iald 1081) := snd_iald (by decide +kernel : decode (mBc 221) 1080 = .ok (.iaload, 1)) rfl
theorem s221_1081 : mSnd 221 1081 (a_invV 1084 1 600000 7302250 [(9, 102, 0, 0)]) := snd_invV v221_113 rfl rfl (by decide +kernel : decode (mBc 221) 1081 = .ok (.invokevirtual 113, 3)) rfl
theorem s221_1084 : mSnd 221 1084 (a_aload 1085 2) := snd_aload_n (by decide +kernel : decode (mBc 221) 1084 = .ok (.aload_n 2, 1)) rfl rfl
theorem s221_1085 : mSnd 221 1085 (a_aload 1086 0) := snd_aload_n (by decide +kernel : decode (mBc 221) 1085 = .ok (.aload_n 0, 1)) rfl rfl
theorem s221_1086 : mSnd 221 1086 (a_iload 1087 3) := snd_iload_n (by decide +kernel : decode (mBc 221) 1086 = .ok (.iload_n 3, 1)) rfl rfl
theorem s221_1087 : mSnd 221 1087 (a_push 1088 (.int (iZ 1))) := snd_iconst (by decide +kernel : decode (mBc 221) 1087 = .ok (.iconst 1, 1)) rfl rfl
theorem s221_1088 : mSnd 221 1088 (a_ii 1089 (fun x y => x + y)) := snd_iadd (by decide +kernel : decode (mBc 221) 1088 = .ok (.iadd, 1)) rfl
theorem s221_1089 : mSnd 221 1089 (a_iald 1090) := snd_iald (by decide +kernel : decode (mBc 221) 1089 = .ok (.iaload, 1)) rfl
theorem s221_1090 : mSnd 221 1090 (a_invV 1093 1 600000 7302250 [(10, 196, 0, 0)]) := snd_invV v221_116 rfl rfl (by decide +kernel : decode (mBc 221) 1090 = .ok (.invokevirtual 116, 3)) rfl
theorem s221_1093 : mSnd 221 1093 (a_icmp 1096 1532 (fun x y => decide (x = y))) := snd_icmp_eq (by decide +kernel : decode (mBc 221) 1093 = .ok (.if_icmp .eq 439, 3)) rfl rfl
theorem s221_1096 : mSnd 221 1096 (a_push 1097 (.int (iZ 0))) := snd_iconst (by decide +kernel : decode (mBc 221) 1096 = .ok (.iconst 0, 1)) rfl rfl
theorem s221_1097 : mSnd 221 1097 (a_zret 600000 7302250) := snd_zret rfl rfl rfl (by decide +kernel : decode (mBc 221) 1097 = .ok (.ireturn, 1))
theorem s221_1098 : mSnd 221 1098 (a_aload 1099 1) := snd_aload_n (by decide +kernel : decode (mBc 221) 1098 = .ok (.aload_n 1, 1)) rfl rfl
theorem s221_1099 : mSnd 221 1099 (a_aload 1100 0) := snd_aload_n (by decide +kernel : decode (mBc 221) 1099 = .ok (.aload_n 0, 1)) rfl rfl
theorem s221_1100 : mSnd 221 1100 (a_iload 1101 3) := snd_iload_n (by decide +kernel : decode (mBc 221) 1100 = .ok (.iload_n 3, 1)) rfl rfl
theorem s221_1101 : mSnd 221 1101 (a_push 1102 (.int (iZ 1))) := snd_iconst (by decide +kernel : decode (mBc 221) 1101 = .ok (.iconst 1, 1)) rfl rfl
theorem s221_1102 : mSnd 221 1102 (a_ii 1103 (fun x y => x + y)) := snd_iadd (by decide +kernel : decode (mBc 221) 1102 = .ok (.iadd, 1)) rfl
theorem s221_1103 : mSnd 221 1103 (a_iald 1104) := snd_iald (by decide +kernel : decode (mBc 221) 1103 = .ok (.iaload, 1)) rfl
theorem s221_1104 : mSnd 221 1104 (a_invV 1107 1 600000 7302250 [(9, 103, 0, 0)]) := snd_invV v221_117 rfl rfl (by decide +kernel : decode (mBc 221) 1104 = .ok (.invokevirtual 117, 3)) rfl
theorem s221_1107 : mSnd 221 1107 (a_aload 1108 2) := snd_aload_n (by decide +kernel : decode (mBc 221) 1107 = .ok (.aload_n 2, 1)) rfl rfl
theorem s221_1108 : mSnd 221 1108 (a_aload 1109 0) := snd_aload_n (by decide +kernel : decode (mBc 221) 1108 = .ok (.aload_n 0, 1)) rfl rfl
theorem s221_1109 : mSnd 221 1109 (a_iload 1110 3) := snd_iload_n (by decide +kernel : decode (mBc 221) 1109 = .ok (.iload_n 3, 1)) rfl rfl
theorem s221_1110 : mSnd 221 1110 (a_push 1111 (.int (iZ 1))) := snd_iconst (by decide +kernel : decode (mBc 221) 1110 = .ok (.iconst 1, 1)) rfl rfl
theorem s221_1111 : mSnd 221 1111 (a_ii 1112 (fun x y => x + y)) := snd_iadd (by decide +kernel : decode (mBc 221) 1111 = .ok (.iadd, 1)) rfl
theorem s221_1112 : mSnd 221 1112 (a_iald 1113) := snd_iald (by decide +kernel : decode (mBc 221) 1112 = .ok (.iaload, 1)) rfl
theorem s221_1113 : mSnd 221 1113 (a_invV 1116 1 600000 7302250 [(10, 197, 0, 0)]) := snd_invV v221_121 rfl rfl (by decide +kernel : decode (mBc 221) 1113 = .ok (.invokevirtual 121, 3)) rfl
theorem s221_1116 : mSnd 221 1116 (a_lcmp 1117) := snd_lcmp (by decide +kernel : decode (mBc 221) 1116 = .ok (.lcmp, 1)) rfl
theorem s221_1117 : mSnd 221 1117 (a_if 1120 1532 (fun x => decide (x = 0))) := snd_if_eq (by decide +kernel : decode (mBc 221) 1117 = .ok (.ifCond .eq 415, 3)) rfl rfl
theorem s221_1120 : mSnd 221 1120 (a_push 1121 (.int (iZ 0))) := snd_iconst (by decide +kernel : decode (mBc 221) 1120 = .ok (.iconst 0, 1)) rfl rfl
theorem s221_1121 : mSnd 221 1121 (a_zret 600000 7302250) := snd_zret rfl rfl rfl (by decide +kernel : decode (mBc 221) 1121 = .ok (.ireturn, 1))
theorem s221_1122 : mSnd 221 1122 (a_aload 1123 1) := snd_aload_n (by decide +kernel : decode (mBc 221) 1122 = .ok (.aload_n 1, 1)) rfl rfl
theorem s221_1123 : mSnd 221 1123 (a_aload 1124 0) := snd_aload_n (by decide +kernel : decode (mBc 221) 1123 = .ok (.aload_n 0, 1)) rfl rfl
theorem s221_1124 : mSnd 221 1124 (a_iload 1125 3) := snd_iload_n (by decide +kernel : decode (mBc 221) 1124 = .ok (.iload_n 3, 1)) rfl rfl
theorem s221_1125 : mSnd 221 1125 (a_push 1126 (.int (iZ 1))) := snd_iconst (by decide +kernel : decode (mBc 221) 1125 = .ok (.iconst 1, 1)) rfl rfl
theorem s221_1126 : mSnd 221 1126 (a_ii 1127 (fun x y => x + y)) := snd_iadd (by decide +kernel : decode (mBc 221) 1126 = .ok (.iadd, 1)) rfl
theorem s221_1127 : mSnd 221 1127 (a_iald 1128) := snd_iald (by decide +kernel : decode (mBc 221) 1127 = .ok (.iaload, 1)) rfl
theorem s221_1128 : mSnd 221 1128 (a_aload 1129 0) := snd_aload_n (by decide +kernel : decode (mBc 221) 1128 = .ok (.aload_n 0, 1)) rfl rfl
theorem s221_1129 : mSnd 221 1129 (a_iload 1130 3) := snd_iload_n (by decide +kernel : decode (mBc 221) 1129 = .ok (.iload_n 3, 1)) rfl rfl
theorem s221_1130 : mSnd 221 1130 (a_push 1131 (.int (iZ 2))) := snd_iconst (by decide +kernel : decode (mBc 221) 1130 = .ok (.iconst 2, 1)) rfl rfl
theorem s221_1131 : mSnd 221 1131 (a_ii 1132 (fun x y => x + y)) := snd_iadd (by decide +kernel : decode (mBc 221) 1131 = .ok (.iadd, 1)) rfl
theorem s221_1132 : mSnd 221 1132 (a_iald 1133) := snd_iald (by decide +kernel : decode (mBc 221) 1132 = .ok (.iaload, 1)) rfl
theorem s221_1133 : mSnd 221 1133 (a_i2l 1134) := snd_i2l (by decide +kernel : decode (mBc 221) 1133 = .ok (.i2l, 1)) rfl
theorem s221_1134 : mSnd 221 1134 (a_push 1136 (.int (iZ 32))) := snd_bipush (by decide +kernel : decode (mBc 221) 1134 = .ok (.bipush 32, 2)) (by decide +kernel) rfl
theorem s221_1136 : mSnd 221 1136 (a_lsh 1137 (fun x y => x <<< (y.toInt64 &&& 63))) := snd_lshl (by decide +kernel : decode (mBc 221) 1136 = .ok (.lshl, 1)) rfl
theorem s221_1137 : mSnd 221 1137 (a_aload 1138 0) := snd_aload_n (by decide +kernel : decode (mBc 221) 1137 = .ok (.aload_n 0, 1)) rfl rfl
theorem s221_1138 : mSnd 221 1138 (a_iload 1139 3) := snd_iload_n (by decide +kernel : decode (mBc 221) 1138 = .ok (.iload_n 3, 1)) rfl rfl
theorem s221_1139 : mSnd 221 1139 (a_push 1140 (.int (iZ 3))) := snd_iconst (by decide +kernel : decode (mBc 221) 1139 = .ok (.iconst 3, 1)) rfl rfl
theorem s221_1140 : mSnd 221 1140 (a_ii 1141 (fun x y => x + y)) := snd_iadd (by decide +kernel : decode (mBc 221) 1140 = .ok (.iadd, 1)) rfl
theorem s221_1141 : mSnd 221 1141 (a_iald 1142) := snd_iald (by decide +kernel : decode (mBc 221) 1141 = .ok (.iaload, 1)) rfl
theorem s221_1142 : mSnd 221 1142 (a_i2l 1143) := snd_i2l (by decide +kernel : decode (mBc 221) 1142 = .ok (.i2l, 1)) rfl
theorem s221_1143 : mSnd 221 1143 (a_push 1146 (.long (lZ 4294967295))) := snd_ldc2 q1286 (by decide +kernel : decode (mBc 221) 1143 = .ok (.ldc2_w 122, 3)) rfl
theorem s221_1146 : mSnd 221 1146 (a_ll 1147 (fun x y => x &&& y)) := snd_land (by decide +kernel : decode (mBc 221) 1146 = .ok (.land, 1)) rfl
theorem s221_1147 : mSnd 221 1147 (a_ll 1148 (fun x y => x ||| y)) := snd_lor (by decide +kernel : decode (mBc 221) 1147 = .ok (.lor, 1)) rfl
theorem s221_1148 : mSnd 221 1148 (a_invV 1151 2 600000 7302250 [(9, 104, 0, 0)]) := snd_invV v221_124 rfl rfl (by decide +kernel : decode (mBc 221) 1148 = .ok (.invokevirtual 124, 3)) rfl
theorem s221_1151 : mSnd 221 1151 (a_aload 1152 2) := snd_aload_n (by decide +kernel : decode (mBc 221) 1151 = .ok (.aload_n 2, 1)) rfl rfl
theorem s221_1152 : mSnd 221 1152 (a_aload 1153 0) := snd_aload_n (by decide +kernel : decode (mBc 221) 1152 = .ok (.aload_n 0, 1)) rfl rfl
theorem s221_1153 : mSnd 221 1153 (a_iload 1154 3) := snd_iload_n (by decide +kernel : decode (mBc 221) 1153 = .ok (.iload_n 3, 1)) rfl rfl
theorem s221_1154 : mSnd 221 1154 (a_push 1155 (.int (iZ 1))) := snd_iconst (by decide +kernel : decode (mBc 221) 1154 = .ok (.iconst 1, 1)) rfl rfl
theorem s221_1155 : mSnd 221 1155 (a_ii 1156 (fun x y => x + y)) := snd_iadd (by decide +kernel : decode (mBc 221) 1155 = .ok (.iadd, 1)) rfl
theorem s221_1156 : mSnd 221 1156 (a_iald 1157) := snd_iald (by decide +kernel : decode (mBc 221) 1156 = .ok (.iaload, 1)) rfl
theorem s221_1157 : mSnd 221 1157 (a_aload 1158 0) := snd_aload_n (by decide +kernel : decode (mBc 221) 1157 = .ok (.aload_n 0, 1)) rfl rfl
theorem s221_1158 : mSnd 221 1158 (a_iload 1159 3) := snd_iload_n (by decide +kernel : decode (mBc 221) 1158 = .ok (.iload_n 3, 1)) rfl rfl
theorem s221_1159 : mSnd 221 1159 (a_push 1160 (.int (iZ 2))) := snd_iconst (by decide +kernel : decode (mBc 221) 1159 = .ok (.iconst 2, 1)) rfl rfl
theorem s221_1160 : mSnd 221 1160 (a_ii 1161 (fun x y => x + y)) := snd_iadd (by decide +kernel : decode (mBc 221) 1160 = .ok (.iadd, 1)) rfl
theorem s221_1161 : mSnd 221 1161 (a_iald 1162) := snd_iald (by decide +kernel : decode (mBc 221) 1161 = .ok (.iaload, 1)) rfl
theorem s221_1162 : mSnd 221 1162 (a_i2l 1163) := snd_i2l (by decide +kernel : decode (mBc 221) 1162 = .ok (.i2l, 1)) rfl
theorem s221_1163 : mSnd 221 1163 (a_push 1165 (.int (iZ 32))) := snd_bipush (by decide +kernel : decode (mBc 221) 1163 = .ok (.bipush 32, 2)) (by decide +kernel) rfl
theorem s221_1165 : mSnd 221 1165 (a_lsh 1166 (fun x y => x <<< (y.toInt64 &&& 63))) := snd_lshl (by decide +kernel : decode (mBc 221) 1165 = .ok (.lshl, 1)) rfl
theorem s221_1166 : mSnd 221 1166 (a_aload 1167 0) := snd_aload_n (by decide +kernel : decode (mBc 221) 1166 = .ok (.aload_n 0, 1)) rfl rfl
theorem s221_1167 : mSnd 221 1167 (a_iload 1168 3) := snd_iload_n (by decide +kernel : decode (mBc 221) 1167 = .ok (.iload_n 3, 1)) rfl rfl
theorem s221_1168 : mSnd 221 1168 (a_push 1169 (.int (iZ 3))) := snd_iconst (by decide +kernel : decode (mBc 221) 1168 = .ok (.iconst 3, 1)) rfl rfl
theorem s221_1169 : mSnd 221 1169 (a_ii 1170 (fun x y => x + y)) := snd_iadd (by decide +kernel : decode (mBc 221) 1169 = .ok (.iadd, 1)) rfl
theorem s221_1170 : mSnd 221 1170 (a_iald 1171) := snd_iald (by decide +kernel : decode (mBc 221) 1170 = .ok (.iaload, 1)) rfl
theorem s221_1171 : mSnd 221 1171 (a_i2l 1172) := snd_i2l (by decide +kernel : decode (mBc 221) 1171 = .ok (.i2l, 1)) rfl
theorem s221_1172 : mSnd 221 1172 (a_push 1175 (.long (lZ 4294967295))) := snd_ldc2 q1286 (by decide +kernel : decode (mBc 221) 1172 = .ok (.ldc2_w 122, 3)) rfl
theorem s221_1175 : mSnd 221 1175 (a_ll 1176 (fun x y => x &&& y)) := snd_land (by decide +kernel : decode (mBc 221) 1175 = .ok (.land, 1)) rfl
theorem s221_1176 : mSnd 221 1176 (a_ll 1177 (fun x y => x ||| y)) := snd_lor (by decide +kernel : decode (mBc 221) 1176 = .ok (.lor, 1)) rfl
theorem s221_1177 : mSnd 221 1177 (a_invV 1180 2 600000 7302250 [(10, 198, 0, 0)]) := snd_invV v221_128 rfl rfl (by decide +kernel : decode (mBc 221) 1177 = .ok (.invokevirtual 128, 3)) rfl
theorem s221_1180 : mSnd 221 1180 (a_icmp 1183 1532 (fun x y => decide (x = y))) := snd_icmp_eq (by decide +kernel : decode (mBc 221) 1180 = .ok (.if_icmp .eq 352, 3)) rfl rfl
theorem s221_1183 : mSnd 221 1183 (a_push 1184 (.int (iZ 0))) := snd_iconst (by decide +kernel : decode (mBc 221) 1183 = .ok (.iconst 0, 1)) rfl rfl
theorem s221_1184 : mSnd 221 1184 (a_zret 600000 7302250) := snd_zret rfl rfl rfl (by decide +kernel : decode (mBc 221) 1184 = .ok (.ireturn, 1))
theorem s221_1185 : mSnd 221 1185 (a_aload 1186 1) := snd_aload_n (by decide +kernel : decode (mBc 221) 1185 = .ok (.aload_n 1, 1)) rfl rfl
theorem s221_1186 : mSnd 221 1186 (a_aload 1187 0) := snd_aload_n (by decide +kernel : decode (mBc 221) 1186 = .ok (.aload_n 0, 1)) rfl rfl
theorem s221_1187 : mSnd 221 1187 (a_iload 1188 3) := snd_iload_n (by decide +kernel : decode (mBc 221) 1187 = .ok (.iload_n 3, 1)) rfl rfl
theorem s221_1188 : mSnd 221 1188 (a_push 1189 (.int (iZ 1))) := snd_iconst (by decide +kernel : decode (mBc 221) 1188 = .ok (.iconst 1, 1)) rfl rfl
theorem s221_1189 : mSnd 221 1189 (a_ii 1190 (fun x y => x + y)) := snd_iadd (by decide +kernel : decode (mBc 221) 1189 = .ok (.iadd, 1)) rfl
theorem s221_1190 : mSnd 221 1190 (a_iald 1191) := snd_iald (by decide +kernel : decode (mBc 221) 1190 = .ok (.iaload, 1)) rfl
theorem s221_1191 : mSnd 221 1191 (a_invV 1194 1 600000 7302250 [(9, 105, 0, 0)]) := snd_invV v221_129 rfl rfl (by decide +kernel : decode (mBc 221) 1191 = .ok (.invokevirtual 129, 3)) rfl
theorem s221_1194 : mSnd 221 1194 (a_aload 1195 2) := snd_aload_n (by decide +kernel : decode (mBc 221) 1194 = .ok (.aload_n 2, 1)) rfl rfl
theorem s221_1195 : mSnd 221 1195 (a_aload 1196 0) := snd_aload_n (by decide +kernel : decode (mBc 221) 1195 = .ok (.aload_n 0, 1)) rfl rfl
theorem s221_1196 : mSnd 221 1196 (a_iload 1197 3) := snd_iload_n (by decide +kernel : decode (mBc 221) 1196 = .ok (.iload_n 3, 1)) rfl rfl
theorem s221_1197 : mSnd 221 1197 (a_push 1198 (.int (iZ 1))) := snd_iconst (by decide +kernel : decode (mBc 221) 1197 = .ok (.iconst 1, 1)) rfl rfl
theorem s221_1198 : mSnd 221 1198 (a_ii 1199 (fun x y => x + y)) := snd_iadd (by decide +kernel : decode (mBc 221) 1198 = .ok (.iadd, 1)) rfl
theorem s221_1199 : mSnd 221 1199 (a_iald 1200) := snd_iald (by decide +kernel : decode (mBc 221) 1199 = .ok (.iaload, 1)) rfl
theorem s221_1200 : mSnd 221 1200 (a_invV 1203 1 600000 7302250 [(10, 199, 0, 0)]) := snd_invV v221_132 rfl rfl (by decide +kernel : decode (mBc 221) 1200 = .ok (.invokevirtual 132, 3)) rfl
theorem s221_1203 : mSnd 221 1203 (a_icmp 1206 1532 (fun x y => decide (x = y))) := snd_icmp_eq (by decide +kernel : decode (mBc 221) 1203 = .ok (.if_icmp .eq 329, 3)) rfl rfl
theorem s221_1206 : mSnd 221 1206 (a_push 1207 (.int (iZ 0))) := snd_iconst (by decide +kernel : decode (mBc 221) 1206 = .ok (.iconst 0, 1)) rfl rfl
theorem s221_1207 : mSnd 221 1207 (a_zret 600000 7302250) := snd_zret rfl rfl rfl (by decide +kernel : decode (mBc 221) 1207 = .ok (.ireturn, 1))
theorem s221_1208 : mSnd 221 1208 (a_aload 1209 1) := snd_aload_n (by decide +kernel : decode (mBc 221) 1208 = .ok (.aload_n 1, 1)) rfl rfl
theorem s221_1209 : mSnd 221 1209 (a_aload 1210 0) := snd_aload_n (by decide +kernel : decode (mBc 221) 1209 = .ok (.aload_n 0, 1)) rfl rfl
theorem s221_1210 : mSnd 221 1210 (a_iload 1211 3) := snd_iload_n (by decide +kernel : decode (mBc 221) 1210 = .ok (.iload_n 3, 1)) rfl rfl
theorem s221_1211 : mSnd 221 1211 (a_push 1212 (.int (iZ 1))) := snd_iconst (by decide +kernel : decode (mBc 221) 1211 = .ok (.iconst 1, 1)) rfl rfl
theorem s221_1212 : mSnd 221 1212 (a_ii 1213 (fun x y => x + y)) := snd_iadd (by decide +kernel : decode (mBc 221) 1212 = .ok (.iadd, 1)) rfl
theorem s221_1213 : mSnd 221 1213 (a_iald 1214) := snd_iald (by decide +kernel : decode (mBc 221) 1213 = .ok (.iaload, 1)) rfl
theorem s221_1214 : mSnd 221 1214 (a_aload 1215 0) := snd_aload_n (by decide +kernel : decode (mBc 221) 1214 = .ok (.aload_n 0, 1)) rfl rfl
theorem s221_1215 : mSnd 221 1215 (a_iload 1216 3) := snd_iload_n (by decide +kernel : decode (mBc 221) 1215 = .ok (.iload_n 3, 1)) rfl rfl
theorem s221_1216 : mSnd 221 1216 (a_push 1217 (.int (iZ 2))) := snd_iconst (by decide +kernel : decode (mBc 221) 1216 = .ok (.iconst 2, 1)) rfl rfl
theorem s221_1217 : mSnd 221 1217 (a_ii 1218 (fun x y => x + y)) := snd_iadd (by decide +kernel : decode (mBc 221) 1217 = .ok (.iadd, 1)) rfl
theorem s221_1218 : mSnd 221 1218 (a_iald 1219) := snd_iald (by decide +kernel : decode (mBc 221) 1218 = .ok (.iaload, 1)) rfl
theorem s221_1219 : mSnd 221 1219 (a_aload 1220 0) := snd_aload_n (by decide +kernel : decode (mBc 221) 1219 = .ok (.aload_n 0, 1)) rfl rfl
theorem s221_1220 : mSnd 221 1220 (a_iload 1221 3) := snd_iload_n (by decide +kernel : decode (mBc 221) 1220 = .ok (.iload_n 3, 1)) rfl rfl
theorem s221_1221 : mSnd 221 1221 (a_push 1222 (.int (iZ 3))) := snd_iconst (by decide +kernel : decode (mBc 221) 1221 = .ok (.iconst 3, 1)) rfl rfl
theorem s221_1222 : mSnd 221 1222 (a_ii 1223 (fun x y => x + y)) := snd_iadd (by decide +kernel : decode (mBc 221) 1222 = .ok (.iadd, 1)) rfl
theorem s221_1223 : mSnd 221 1223 (a_iald 1224) := snd_iald (by decide +kernel : decode (mBc 221) 1223 = .ok (.iaload, 1)) rfl
theorem s221_1224 : mSnd 221 1224 (a_invV 1227 3 600000 7302250 [(9, 106, 0, 0)]) := snd_invV v221_133 rfl rfl (by decide +kernel : decode (mBc 221) 1224 = .ok (.invokevirtual 133, 3)) rfl
theorem s221_1227 : mSnd 221 1227 (a_aload 1228 2) := snd_aload_n (by decide +kernel : decode (mBc 221) 1227 = .ok (.aload_n 2, 1)) rfl rfl
theorem s221_1228 : mSnd 221 1228 (a_aload 1229 0) := snd_aload_n (by decide +kernel : decode (mBc 221) 1228 = .ok (.aload_n 0, 1)) rfl rfl
theorem s221_1229 : mSnd 221 1229 (a_iload 1230 3) := snd_iload_n (by decide +kernel : decode (mBc 221) 1229 = .ok (.iload_n 3, 1)) rfl rfl
theorem s221_1230 : mSnd 221 1230 (a_push 1231 (.int (iZ 1))) := snd_iconst (by decide +kernel : decode (mBc 221) 1230 = .ok (.iconst 1, 1)) rfl rfl
theorem s221_1231 : mSnd 221 1231 (a_ii 1232 (fun x y => x + y)) := snd_iadd (by decide +kernel : decode (mBc 221) 1231 = .ok (.iadd, 1)) rfl
theorem s221_1232 : mSnd 221 1232 (a_iald 1233) := snd_iald (by decide +kernel : decode (mBc 221) 1232 = .ok (.iaload, 1)) rfl
theorem s221_1233 : mSnd 221 1233 (a_aload 1234 0) := snd_aload_n (by decide +kernel : decode (mBc 221) 1233 = .ok (.aload_n 0, 1)) rfl rfl
theorem s221_1234 : mSnd 221 1234 (a_iload 1235 3) := snd_iload_n (by decide +kernel : decode (mBc 221) 1234 = .ok (.iload_n 3, 1)) rfl rfl
theorem s221_1235 : mSnd 221 1235 (a_push 1236 (.int (iZ 2))) := snd_iconst (by decide +kernel : decode (mBc 221) 1235 = .ok (.iconst 2, 1)) rfl rfl
theorem s221_1236 : mSnd 221 1236 (a_ii 1237 (fun x y => x + y)) := snd_iadd (by decide +kernel : decode (mBc 221) 1236 = .ok (.iadd, 1)) rfl
theorem s221_1237 : mSnd 221 1237 (a_iald 1238) := snd_iald (by decide +kernel : decode (mBc 221) 1237 = .ok (.iaload, 1)) rfl
theorem s221_1238 : mSnd 221 1238 (a_aload 1239 0) := snd_aload_n (by decide +kernel : decode (mBc 221) 1238 = .ok (.aload_n 0, 1)) rfl rfl
theorem s221_1239 : mSnd 221 1239 (a_iload 1240 3) := snd_iload_n (by decide +kernel : decode (mBc 221) 1239 = .ok (.iload_n 3, 1)) rfl rfl
theorem s221_1240 : mSnd 221 1240 (a_push 1241 (.int (iZ 3))) := snd_iconst (by decide +kernel : decode (mBc 221) 1240 = .ok (.iconst 3, 1)) rfl rfl
theorem s221_1241 : mSnd 221 1241 (a_ii 1242 (fun x y => x + y)) := snd_iadd (by decide +kernel : decode (mBc 221) 1241 = .ok (.iadd, 1)) rfl
theorem s221_1242 : mSnd 221 1242 (a_iald 1243) := snd_iald (by decide +kernel : decode (mBc 221) 1242 = .ok (.iaload, 1)) rfl
theorem s221_1243 : mSnd 221 1243 (a_invV 1246 3 600000 7302250 [(10, 207, 0, 0)]) := snd_invV v221_136 rfl rfl (by decide +kernel : decode (mBc 221) 1243 = .ok (.invokevirtual 136, 3)) rfl
theorem s221_1246 : mSnd 221 1246 (a_icmp 1249 1532 (fun x y => decide (x = y))) := snd_icmp_eq (by decide +kernel : decode (mBc 221) 1246 = .ok (.if_icmp .eq 286, 3)) rfl rfl
theorem s221_1249 : mSnd 221 1249 (a_push 1250 (.int (iZ 0))) := snd_iconst (by decide +kernel : decode (mBc 221) 1249 = .ok (.iconst 0, 1)) rfl rfl
theorem s221_1250 : mSnd 221 1250 (a_zret 600000 7302250) := snd_zret rfl rfl rfl (by decide +kernel : decode (mBc 221) 1250 = .ok (.ireturn, 1))
theorem s221_1251 : mSnd 221 1251 (a_aload 1252 1) := snd_aload_n (by decide +kernel : decode (mBc 221) 1251 = .ok (.aload_n 1, 1)) rfl rfl
theorem s221_1252 : mSnd 221 1252 (a_aload 1253 0) := snd_aload_n (by decide +kernel : decode (mBc 221) 1252 = .ok (.aload_n 0, 1)) rfl rfl
theorem s221_1253 : mSnd 221 1253 (a_iload 1254 3) := snd_iload_n (by decide +kernel : decode (mBc 221) 1253 = .ok (.iload_n 3, 1)) rfl rfl
theorem s221_1254 : mSnd 221 1254 (a_push 1255 (.int (iZ 1))) := snd_iconst (by decide +kernel : decode (mBc 221) 1254 = .ok (.iconst 1, 1)) rfl rfl
theorem s221_1255 : mSnd 221 1255 (a_ii 1256 (fun x y => x + y)) := snd_iadd (by decide +kernel : decode (mBc 221) 1255 = .ok (.iadd, 1)) rfl
theorem s221_1256 : mSnd 221 1256 (a_iald 1257) := snd_iald (by decide +kernel : decode (mBc 221) 1256 = .ok (.iaload, 1)) rfl
theorem s221_1257 : mSnd 221 1257 (a_invV 1260 1 600000 7302250 [(9, 107, 0, 0)]) := snd_invV v221_137 rfl rfl (by decide +kernel : decode (mBc 221) 1257 = .ok (.invokevirtual 137, 3)) rfl
theorem s221_1260 : mSnd 221 1260 (a_aload 1261 2) := snd_aload_n (by decide +kernel : decode (mBc 221) 1260 = .ok (.aload_n 2, 1)) rfl rfl
theorem s221_1261 : mSnd 221 1261 (a_aload 1262 0) := snd_aload_n (by decide +kernel : decode (mBc 221) 1261 = .ok (.aload_n 0, 1)) rfl rfl
theorem s221_1262 : mSnd 221 1262 (a_iload 1263 3) := snd_iload_n (by decide +kernel : decode (mBc 221) 1262 = .ok (.iload_n 3, 1)) rfl rfl
theorem s221_1263 : mSnd 221 1263 (a_push 1264 (.int (iZ 1))) := snd_iconst (by decide +kernel : decode (mBc 221) 1263 = .ok (.iconst 1, 1)) rfl rfl
theorem s221_1264 : mSnd 221 1264 (a_ii 1265 (fun x y => x + y)) := snd_iadd (by decide +kernel : decode (mBc 221) 1264 = .ok (.iadd, 1)) rfl
theorem s221_1265 : mSnd 221 1265 (a_iald 1266) := snd_iald (by decide +kernel : decode (mBc 221) 1265 = .ok (.iaload, 1)) rfl
theorem s221_1266 : mSnd 221 1266 (a_invV 1269 1 600000 7302250 [(10, 208, 0, 0)]) := snd_invV v221_140 rfl rfl (by decide +kernel : decode (mBc 221) 1266 = .ok (.invokevirtual 140, 3)) rfl
theorem s221_1269 : mSnd 221 1269 (a_icmp 1272 1532 (fun x y => decide (x = y))) := snd_icmp_eq (by decide +kernel : decode (mBc 221) 1269 = .ok (.if_icmp .eq 263, 3)) rfl rfl
theorem s221_1272 : mSnd 221 1272 (a_push 1273 (.int (iZ 0))) := snd_iconst (by decide +kernel : decode (mBc 221) 1272 = .ok (.iconst 0, 1)) rfl rfl
theorem s221_1273 : mSnd 221 1273 (a_zret 600000 7302250) := snd_zret rfl rfl rfl (by decide +kernel : decode (mBc 221) 1273 = .ok (.ireturn, 1))
theorem s221_1274 : mSnd 221 1274 (a_aload 1275 1) := snd_aload_n (by decide +kernel : decode (mBc 221) 1274 = .ok (.aload_n 1, 1)) rfl rfl
theorem s221_1275 : mSnd 221 1275 (a_aload 1276 0) := snd_aload_n (by decide +kernel : decode (mBc 221) 1275 = .ok (.aload_n 0, 1)) rfl rfl
theorem s221_1276 : mSnd 221 1276 (a_iload 1277 3) := snd_iload_n (by decide +kernel : decode (mBc 221) 1276 = .ok (.iload_n 3, 1)) rfl rfl
theorem s221_1277 : mSnd 221 1277 (a_push 1278 (.int (iZ 1))) := snd_iconst (by decide +kernel : decode (mBc 221) 1277 = .ok (.iconst 1, 1)) rfl rfl
theorem s221_1278 : mSnd 221 1278 (a_ii 1279 (fun x y => x + y)) := snd_iadd (by decide +kernel : decode (mBc 221) 1278 = .ok (.iadd, 1)) rfl
theorem s221_1279 : mSnd 221 1279 (a_iald 1280) := snd_iald (by decide +kernel : decode (mBc 221) 1279 = .ok (.iaload, 1)) rfl
theorem s221_1280 : mSnd 221 1280 (a_invV 1283 1 600000 7302250 [(9, 108, 0, 0)]) := snd_invV v221_141 rfl rfl (by decide +kernel : decode (mBc 221) 1280 = .ok (.invokevirtual 141, 3)) rfl
theorem s221_1283 : mSnd 221 1283 (a_aload 1284 2) := snd_aload_n (by decide +kernel : decode (mBc 221) 1283 = .ok (.aload_n 2, 1)) rfl rfl
theorem s221_1284 : mSnd 221 1284 (a_aload 1285 0) := snd_aload_n (by decide +kernel : decode (mBc 221) 1284 = .ok (.aload_n 0, 1)) rfl rfl
theorem s221_1285 : mSnd 221 1285 (a_iload 1286 3) := snd_iload_n (by decide +kernel : decode (mBc 221) 1285 = .ok (.iload_n 3, 1)) rfl rfl
theorem s221_1286 : mSnd 221 1286 (a_push 1287 (.int (iZ 1))) := snd_iconst (by decide +kernel : decode (mBc 221) 1286 = .ok (.iconst 1, 1)) rfl rfl
theorem s221_1287 : mSnd 221 1287 (a_ii 1288 (fun x y => x + y)) := snd_iadd (by decide +kernel : decode (mBc 221) 1287 = .ok (.iadd, 1)) rfl
theorem s221_1288 : mSnd 221 1288 (a_iald 1289) := snd_iald (by decide +kernel : decode (mBc 221) 1288 = .ok (.iaload, 1)) rfl
theorem s221_1289 : mSnd 221 1289 (a_invV 1292 1 600000 7302250 [(10, 209, 0, 0)]) := snd_invV v221_144 rfl rfl (by decide +kernel : decode (mBc 221) 1289 = .ok (.invokevirtual 144, 3)) rfl
theorem s221_1292 : mSnd 221 1292 (a_icmp 1295 1532 (fun x y => decide (x = y))) := snd_icmp_eq (by decide +kernel : decode (mBc 221) 1292 = .ok (.if_icmp .eq 240, 3)) rfl rfl
theorem s221_1295 : mSnd 221 1295 (a_push 1296 (.int (iZ 0))) := snd_iconst (by decide +kernel : decode (mBc 221) 1295 = .ok (.iconst 0, 1)) rfl rfl
theorem s221_1296 : mSnd 221 1296 (a_zret 600000 7302250) := snd_zret rfl rfl rfl (by decide +kernel : decode (mBc 221) 1296 = .ok (.ireturn, 1))
theorem s221_1297 : mSnd 221 1297 (a_aload 1298 1) := snd_aload_n (by decide +kernel : decode (mBc 221) 1297 = .ok (.aload_n 1, 1)) rfl rfl
theorem s221_1298 : mSnd 221 1298 (a_aload 1299 0) := snd_aload_n (by decide +kernel : decode (mBc 221) 1298 = .ok (.aload_n 0, 1)) rfl rfl
theorem s221_1299 : mSnd 221 1299 (a_iload 1300 3) := snd_iload_n (by decide +kernel : decode (mBc 221) 1299 = .ok (.iload_n 3, 1)) rfl rfl
theorem s221_1300 : mSnd 221 1300 (a_push 1301 (.int (iZ 1))) := snd_iconst (by decide +kernel : decode (mBc 221) 1300 = .ok (.iconst 1, 1)) rfl rfl
theorem s221_1301 : mSnd 221 1301 (a_ii 1302 (fun x y => x + y)) := snd_iadd (by decide +kernel : decode (mBc 221) 1301 = .ok (.iadd, 1)) rfl
theorem s221_1302 : mSnd 221 1302 (a_iald 1303) := snd_iald (by decide +kernel : decode (mBc 221) 1302 = .ok (.iaload, 1)) rfl
theorem s221_1303 : mSnd 221 1303 (a_aload 1304 0) := snd_aload_n (by decide +kernel : decode (mBc 221) 1303 = .ok (.aload_n 0, 1)) rfl rfl
theorem s221_1304 : mSnd 221 1304 (a_iload 1305 3) := snd_iload_n (by decide +kernel : decode (mBc 221) 1304 = .ok (.iload_n 3, 1)) rfl rfl
theorem s221_1305 : mSnd 221 1305 (a_push 1306 (.int (iZ 2))) := snd_iconst (by decide +kernel : decode (mBc 221) 1305 = .ok (.iconst 2, 1)) rfl rfl
theorem s221_1306 : mSnd 221 1306 (a_ii 1307 (fun x y => x + y)) := snd_iadd (by decide +kernel : decode (mBc 221) 1306 = .ok (.iadd, 1)) rfl
theorem s221_1307 : mSnd 221 1307 (a_iald 1308) := snd_iald (by decide +kernel : decode (mBc 221) 1307 = .ok (.iaload, 1)) rfl
theorem s221_1308 : mSnd 221 1308 (a_aload 1309 0) := snd_aload_n (by decide +kernel : decode (mBc 221) 1308 = .ok (.aload_n 0, 1)) rfl rfl
theorem s221_1309 : mSnd 221 1309 (a_iload 1310 3) := snd_iload_n (by decide +kernel : decode (mBc 221) 1309 = .ok (.iload_n 3, 1)) rfl rfl
theorem s221_1310 : mSnd 221 1310 (a_push 1311 (.int (iZ 3))) := snd_iconst (by decide +kernel : decode (mBc 221) 1310 = .ok (.iconst 3, 1)) rfl rfl
theorem s221_1311 : mSnd 221 1311 (a_ii 1312 (fun x y => x + y)) := snd_iadd (by decide +kernel : decode (mBc 221) 1311 = .ok (.iadd, 1)) rfl
theorem s221_1312 : mSnd 221 1312 (a_iald 1313) := snd_iald (by decide +kernel : decode (mBc 221) 1312 = .ok (.iaload, 1)) rfl
theorem s221_1313 : mSnd 221 1313 (a_invV 1316 3 600000 7302250 [(9, 109, 2, 42)]) := snd_invV v221_145 rfl rfl (by decide +kernel : decode (mBc 221) 1313 = .ok (.invokevirtual 145, 3)) rfl
theorem s221_1316 : mSnd 221 1316 (a_aload 1317 2) := snd_aload_n (by decide +kernel : decode (mBc 221) 1316 = .ok (.aload_n 2, 1)) rfl rfl
theorem s221_1317 : mSnd 221 1317 (a_aload 1318 0) := snd_aload_n (by decide +kernel : decode (mBc 221) 1317 = .ok (.aload_n 0, 1)) rfl rfl
theorem s221_1318 : mSnd 221 1318 (a_iload 1319 3) := snd_iload_n (by decide +kernel : decode (mBc 221) 1318 = .ok (.iload_n 3, 1)) rfl rfl
theorem s221_1319 : mSnd 221 1319 (a_push 1320 (.int (iZ 1))) := snd_iconst (by decide +kernel : decode (mBc 221) 1319 = .ok (.iconst 1, 1)) rfl rfl
theorem s221_1320 : mSnd 221 1320 (a_ii 1321 (fun x y => x + y)) := snd_iadd (by decide +kernel : decode (mBc 221) 1320 = .ok (.iadd, 1)) rfl
theorem s221_1321 : mSnd 221 1321 (a_iald 1322) := snd_iald (by decide +kernel : decode (mBc 221) 1321 = .ok (.iaload, 1)) rfl
theorem s221_1322 : mSnd 221 1322 (a_aload 1323 0) := snd_aload_n (by decide +kernel : decode (mBc 221) 1322 = .ok (.aload_n 0, 1)) rfl rfl
theorem s221_1323 : mSnd 221 1323 (a_iload 1324 3) := snd_iload_n (by decide +kernel : decode (mBc 221) 1323 = .ok (.iload_n 3, 1)) rfl rfl
theorem s221_1324 : mSnd 221 1324 (a_push 1325 (.int (iZ 2))) := snd_iconst (by decide +kernel : decode (mBc 221) 1324 = .ok (.iconst 2, 1)) rfl rfl
theorem s221_1325 : mSnd 221 1325 (a_ii 1326 (fun x y => x + y)) := snd_iadd (by decide +kernel : decode (mBc 221) 1325 = .ok (.iadd, 1)) rfl
theorem s221_1326 : mSnd 221 1326 (a_iald 1327) := snd_iald (by decide +kernel : decode (mBc 221) 1326 = .ok (.iaload, 1)) rfl
theorem s221_1327 : mSnd 221 1327 (a_aload 1328 0) := snd_aload_n (by decide +kernel : decode (mBc 221) 1327 = .ok (.aload_n 0, 1)) rfl rfl
theorem s221_1328 : mSnd 221 1328 (a_iload 1329 3) := snd_iload_n (by decide +kernel : decode (mBc 221) 1328 = .ok (.iload_n 3, 1)) rfl rfl
theorem s221_1329 : mSnd 221 1329 (a_push 1330 (.int (iZ 3))) := snd_iconst (by decide +kernel : decode (mBc 221) 1329 = .ok (.iconst 3, 1)) rfl rfl
theorem s221_1330 : mSnd 221 1330 (a_ii 1331 (fun x y => x + y)) := snd_iadd (by decide +kernel : decode (mBc 221) 1330 = .ok (.iadd, 1)) rfl
theorem s221_1331 : mSnd 221 1331 (a_iald 1332) := snd_iald (by decide +kernel : decode (mBc 221) 1331 = .ok (.iaload, 1)) rfl
theorem s221_1332 : mSnd 221 1332 (a_invV 1335 3 600000 7302250 [(10, 211, 0, 0)]) := snd_invV v221_148 rfl rfl (by decide +kernel : decode (mBc 221) 1332 = .ok (.invokevirtual 148, 3)) rfl
theorem s221_1335 : mSnd 221 1335 (a_icmp 1338 1532 (fun x y => decide (x = y))) := snd_icmp_eq (by decide +kernel : decode (mBc 221) 1335 = .ok (.if_icmp .eq 197, 3)) rfl rfl
theorem s221_1338 : mSnd 221 1338 (a_push 1339 (.int (iZ 0))) := snd_iconst (by decide +kernel : decode (mBc 221) 1338 = .ok (.iconst 0, 1)) rfl rfl
theorem s221_1339 : mSnd 221 1339 (a_zret 600000 7302250) := snd_zret rfl rfl rfl (by decide +kernel : decode (mBc 221) 1339 = .ok (.ireturn, 1))
theorem s221_1340 : mSnd 221 1340 (a_aload 1341 1) := snd_aload_n (by decide +kernel : decode (mBc 221) 1340 = .ok (.aload_n 1, 1)) rfl rfl
theorem s221_1341 : mSnd 221 1341 (a_aload 1342 0) := snd_aload_n (by decide +kernel : decode (mBc 221) 1341 = .ok (.aload_n 0, 1)) rfl rfl
theorem s221_1342 : mSnd 221 1342 (a_iload 1343 3) := snd_iload_n (by decide +kernel : decode (mBc 221) 1342 = .ok (.iload_n 3, 1)) rfl rfl
theorem s221_1343 : mSnd 221 1343 (a_push 1344 (.int (iZ 1))) := snd_iconst (by decide +kernel : decode (mBc 221) 1343 = .ok (.iconst 1, 1)) rfl rfl
theorem s221_1344 : mSnd 221 1344 (a_ii 1345 (fun x y => x + y)) := snd_iadd (by decide +kernel : decode (mBc 221) 1344 = .ok (.iadd, 1)) rfl
theorem s221_1345 : mSnd 221 1345 (a_iald 1346) := snd_iald (by decide +kernel : decode (mBc 221) 1345 = .ok (.iaload, 1)) rfl
theorem s221_1346 : mSnd 221 1346 (a_aload 1347 0) := snd_aload_n (by decide +kernel : decode (mBc 221) 1346 = .ok (.aload_n 0, 1)) rfl rfl
theorem s221_1347 : mSnd 221 1347 (a_iload 1348 3) := snd_iload_n (by decide +kernel : decode (mBc 221) 1347 = .ok (.iload_n 3, 1)) rfl rfl
theorem s221_1348 : mSnd 221 1348 (a_push 1349 (.int (iZ 2))) := snd_iconst (by decide +kernel : decode (mBc 221) 1348 = .ok (.iconst 2, 1)) rfl rfl
theorem s221_1349 : mSnd 221 1349 (a_ii 1350 (fun x y => x + y)) := snd_iadd (by decide +kernel : decode (mBc 221) 1349 = .ok (.iadd, 1)) rfl
theorem s221_1350 : mSnd 221 1350 (a_iald 1351) := snd_iald (by decide +kernel : decode (mBc 221) 1350 = .ok (.iaload, 1)) rfl
theorem s221_1351 : mSnd 221 1351 (a_aload 1352 0) := snd_aload_n (by decide +kernel : decode (mBc 221) 1351 = .ok (.aload_n 0, 1)) rfl rfl
theorem s221_1352 : mSnd 221 1352 (a_iload 1353 3) := snd_iload_n (by decide +kernel : decode (mBc 221) 1352 = .ok (.iload_n 3, 1)) rfl rfl
theorem s221_1353 : mSnd 221 1353 (a_push 1354 (.int (iZ 3))) := snd_iconst (by decide +kernel : decode (mBc 221) 1353 = .ok (.iconst 3, 1)) rfl rfl
theorem s221_1354 : mSnd 221 1354 (a_ii 1355 (fun x y => x + y)) := snd_iadd (by decide +kernel : decode (mBc 221) 1354 = .ok (.iadd, 1)) rfl
theorem s221_1355 : mSnd 221 1355 (a_iald 1356) := snd_iald (by decide +kernel : decode (mBc 221) 1355 = .ok (.iaload, 1)) rfl
theorem s221_1356 : mSnd 221 1356 (a_invV 1359 3 600000 7302250 [(9, 110, 0, 0)]) := snd_invV v221_149 rfl rfl (by decide +kernel : decode (mBc 221) 1356 = .ok (.invokevirtual 149, 3)) rfl
theorem s221_1359 : mSnd 221 1359 (a_aload 1360 2) := snd_aload_n (by decide +kernel : decode (mBc 221) 1359 = .ok (.aload_n 2, 1)) rfl rfl
theorem s221_1360 : mSnd 221 1360 (a_aload 1361 0) := snd_aload_n (by decide +kernel : decode (mBc 221) 1360 = .ok (.aload_n 0, 1)) rfl rfl
theorem s221_1361 : mSnd 221 1361 (a_iload 1362 3) := snd_iload_n (by decide +kernel : decode (mBc 221) 1361 = .ok (.iload_n 3, 1)) rfl rfl
theorem s221_1362 : mSnd 221 1362 (a_push 1363 (.int (iZ 1))) := snd_iconst (by decide +kernel : decode (mBc 221) 1362 = .ok (.iconst 1, 1)) rfl rfl
theorem s221_1363 : mSnd 221 1363 (a_ii 1364 (fun x y => x + y)) := snd_iadd (by decide +kernel : decode (mBc 221) 1363 = .ok (.iadd, 1)) rfl
theorem s221_1364 : mSnd 221 1364 (a_iald 1365) := snd_iald (by decide +kernel : decode (mBc 221) 1364 = .ok (.iaload, 1)) rfl
theorem s221_1365 : mSnd 221 1365 (a_aload 1366 0) := snd_aload_n (by decide +kernel : decode (mBc 221) 1365 = .ok (.aload_n 0, 1)) rfl rfl
theorem s221_1366 : mSnd 221 1366 (a_iload 1367 3) := snd_iload_n (by decide +kernel : decode (mBc 221) 1366 = .ok (.iload_n 3, 1)) rfl rfl
theorem s221_1367 : mSnd 221 1367 (a_push 1368 (.int (iZ 2))) := snd_iconst (by decide +kernel : decode (mBc 221) 1367 = .ok (.iconst 2, 1)) rfl rfl
theorem s221_1368 : mSnd 221 1368 (a_ii 1369 (fun x y => x + y)) := snd_iadd (by decide +kernel : decode (mBc 221) 1368 = .ok (.iadd, 1)) rfl
theorem s221_1369 : mSnd 221 1369 (a_iald 1370) := snd_iald (by decide +kernel : decode (mBc 221) 1369 = .ok (.iaload, 1)) rfl
theorem s221_1370 : mSnd 221 1370 (a_aload 1371 0) := snd_aload_n (by decide +kernel : decode (mBc 221) 1370 = .ok (.aload_n 0, 1)) rfl rfl
theorem s221_1371 : mSnd 221 1371 (a_iload 1372 3) := snd_iload_n (by decide +kernel : decode (mBc 221) 1371 = .ok (.iload_n 3, 1)) rfl rfl
theorem s221_1372 : mSnd 221 1372 (a_push 1373 (.int (iZ 3))) := snd_iconst (by decide +kernel : decode (mBc 221) 1372 = .ok (.iconst 3, 1)) rfl rfl
theorem s221_1373 : mSnd 221 1373 (a_ii 1374 (fun x y => x + y)) := snd_iadd (by decide +kernel : decode (mBc 221) 1373 = .ok (.iadd, 1)) rfl
theorem s221_1374 : mSnd 221 1374 (a_iald 1375) := snd_iald (by decide +kernel : decode (mBc 221) 1374 = .ok (.iaload, 1)) rfl
theorem s221_1375 : mSnd 221 1375 (a_invV 1378 3 600000 7302250 [(10, 212, 0, 0)]) := snd_invV v221_152 rfl rfl (by decide +kernel : decode (mBc 221) 1375 = .ok (.invokevirtual 152, 3)) rfl
theorem s221_1378 : mSnd 221 1378 (a_icmp 1381 1532 (fun x y => decide (x = y))) := snd_icmp_eq (by decide +kernel : decode (mBc 221) 1378 = .ok (.if_icmp .eq 154, 3)) rfl rfl
theorem s221_1381 : mSnd 221 1381 (a_push 1382 (.int (iZ 0))) := snd_iconst (by decide +kernel : decode (mBc 221) 1381 = .ok (.iconst 0, 1)) rfl rfl
theorem s221_1382 : mSnd 221 1382 (a_zret 600000 7302250) := snd_zret rfl rfl rfl (by decide +kernel : decode (mBc 221) 1382 = .ok (.ireturn, 1))
theorem s221_1383 : mSnd 221 1383 (a_aload 1384 1) := snd_aload_n (by decide +kernel : decode (mBc 221) 1383 = .ok (.aload_n 1, 1)) rfl rfl
theorem s221_1384 : mSnd 221 1384 (a_aload 1385 0) := snd_aload_n (by decide +kernel : decode (mBc 221) 1384 = .ok (.aload_n 0, 1)) rfl rfl
theorem s221_1385 : mSnd 221 1385 (a_iload 1386 3) := snd_iload_n (by decide +kernel : decode (mBc 221) 1385 = .ok (.iload_n 3, 1)) rfl rfl
theorem s221_1386 : mSnd 221 1386 (a_push 1387 (.int (iZ 1))) := snd_iconst (by decide +kernel : decode (mBc 221) 1386 = .ok (.iconst 1, 1)) rfl rfl
theorem s221_1387 : mSnd 221 1387 (a_ii 1388 (fun x y => x + y)) := snd_iadd (by decide +kernel : decode (mBc 221) 1387 = .ok (.iadd, 1)) rfl
theorem s221_1388 : mSnd 221 1388 (a_iald 1389) := snd_iald (by decide +kernel : decode (mBc 221) 1388 = .ok (.iaload, 1)) rfl
theorem s221_1389 : mSnd 221 1389 (a_aload 1390 0) := snd_aload_n (by decide +kernel : decode (mBc 221) 1389 = .ok (.aload_n 0, 1)) rfl rfl
theorem s221_1390 : mSnd 221 1390 (a_iload 1391 3) := snd_iload_n (by decide +kernel : decode (mBc 221) 1390 = .ok (.iload_n 3, 1)) rfl rfl
theorem s221_1391 : mSnd 221 1391 (a_push 1392 (.int (iZ 2))) := snd_iconst (by decide +kernel : decode (mBc 221) 1391 = .ok (.iconst 2, 1)) rfl rfl
theorem s221_1392 : mSnd 221 1392 (a_ii 1393 (fun x y => x + y)) := snd_iadd (by decide +kernel : decode (mBc 221) 1392 = .ok (.iadd, 1)) rfl
theorem s221_1393 : mSnd 221 1393 (a_iald 1394) := snd_iald (by decide +kernel : decode (mBc 221) 1393 = .ok (.iaload, 1)) rfl
theorem s221_1394 : mSnd 221 1394 (a_aload 1395 0) := snd_aload_n (by decide +kernel : decode (mBc 221) 1394 = .ok (.aload_n 0, 1)) rfl rfl
theorem s221_1395 : mSnd 221 1395 (a_iload 1396 3) := snd_iload_n (by decide +kernel : decode (mBc 221) 1395 = .ok (.iload_n 3, 1)) rfl rfl
theorem s221_1396 : mSnd 221 1396 (a_push 1397 (.int (iZ 3))) := snd_iconst (by decide +kernel : decode (mBc 221) 1396 = .ok (.iconst 3, 1)) rfl rfl
theorem s221_1397 : mSnd 221 1397 (a_ii 1398 (fun x y => x + y)) := snd_iadd (by decide +kernel : decode (mBc 221) 1397 = .ok (.iadd, 1)) rfl
theorem s221_1398 : mSnd 221 1398 (a_iald 1399) := snd_iald (by decide +kernel : decode (mBc 221) 1398 = .ok (.iaload, 1)) rfl
theorem s221_1399 : mSnd 221 1399 (a_aload 1400 0) := snd_aload_n (by decide +kernel : decode (mBc 221) 1399 = .ok (.aload_n 0, 1)) rfl rfl
theorem s221_1400 : mSnd 221 1400 (a_iload 1401 3) := snd_iload_n (by decide +kernel : decode (mBc 221) 1400 = .ok (.iload_n 3, 1)) rfl rfl
theorem s221_1401 : mSnd 221 1401 (a_push 1402 (.int (iZ 4))) := snd_iconst (by decide +kernel : decode (mBc 221) 1401 = .ok (.iconst 4, 1)) rfl rfl
theorem s221_1402 : mSnd 221 1402 (a_ii 1403 (fun x y => x + y)) := snd_iadd (by decide +kernel : decode (mBc 221) 1402 = .ok (.iadd, 1)) rfl
theorem s221_1403 : mSnd 221 1403 (a_iald 1404) := snd_iald (by decide +kernel : decode (mBc 221) 1403 = .ok (.iaload, 1)) rfl
theorem s221_1404 : mSnd 221 1404 (a_invV 1407 4 600000 7302250 [(9, 111, 0, 0)]) := snd_invV v221_153 rfl rfl (by decide +kernel : decode (mBc 221) 1404 = .ok (.invokevirtual 153, 3)) rfl
theorem s221_1407 : mSnd 221 1407 (a_aload 1408 2) := snd_aload_n (by decide +kernel : decode (mBc 221) 1407 = .ok (.aload_n 2, 1)) rfl rfl
theorem s221_1408 : mSnd 221 1408 (a_aload 1409 0) := snd_aload_n (by decide +kernel : decode (mBc 221) 1408 = .ok (.aload_n 0, 1)) rfl rfl
theorem s221_1409 : mSnd 221 1409 (a_iload 1410 3) := snd_iload_n (by decide +kernel : decode (mBc 221) 1409 = .ok (.iload_n 3, 1)) rfl rfl
theorem s221_1410 : mSnd 221 1410 (a_push 1411 (.int (iZ 1))) := snd_iconst (by decide +kernel : decode (mBc 221) 1410 = .ok (.iconst 1, 1)) rfl rfl
theorem s221_1411 : mSnd 221 1411 (a_ii 1412 (fun x y => x + y)) := snd_iadd (by decide +kernel : decode (mBc 221) 1411 = .ok (.iadd, 1)) rfl
theorem s221_1412 : mSnd 221 1412 (a_iald 1413) := snd_iald (by decide +kernel : decode (mBc 221) 1412 = .ok (.iaload, 1)) rfl
theorem s221_1413 : mSnd 221 1413 (a_aload 1414 0) := snd_aload_n (by decide +kernel : decode (mBc 221) 1413 = .ok (.aload_n 0, 1)) rfl rfl
theorem s221_1414 : mSnd 221 1414 (a_iload 1415 3) := snd_iload_n (by decide +kernel : decode (mBc 221) 1414 = .ok (.iload_n 3, 1)) rfl rfl
theorem s221_1415 : mSnd 221 1415 (a_push 1416 (.int (iZ 2))) := snd_iconst (by decide +kernel : decode (mBc 221) 1415 = .ok (.iconst 2, 1)) rfl rfl
theorem s221_1416 : mSnd 221 1416 (a_ii 1417 (fun x y => x + y)) := snd_iadd (by decide +kernel : decode (mBc 221) 1416 = .ok (.iadd, 1)) rfl
theorem s221_1417 : mSnd 221 1417 (a_iald 1418) := snd_iald (by decide +kernel : decode (mBc 221) 1417 = .ok (.iaload, 1)) rfl
theorem s221_1418 : mSnd 221 1418 (a_aload 1419 0) := snd_aload_n (by decide +kernel : decode (mBc 221) 1418 = .ok (.aload_n 0, 1)) rfl rfl
theorem s221_1419 : mSnd 221 1419 (a_iload 1420 3) := snd_iload_n (by decide +kernel : decode (mBc 221) 1419 = .ok (.iload_n 3, 1)) rfl rfl
theorem s221_1420 : mSnd 221 1420 (a_push 1421 (.int (iZ 3))) := snd_iconst (by decide +kernel : decode (mBc 221) 1420 = .ok (.iconst 3, 1)) rfl rfl
theorem s221_1421 : mSnd 221 1421 (a_ii 1422 (fun x y => x + y)) := snd_iadd (by decide +kernel : decode (mBc 221) 1421 = .ok (.iadd, 1)) rfl
theorem s221_1422 : mSnd 221 1422 (a_iald 1423) := snd_iald (by decide +kernel : decode (mBc 221) 1422 = .ok (.iaload, 1)) rfl
theorem s221_1423 : mSnd 221 1423 (a_aload 1424 0) := snd_aload_n (by decide +kernel : decode (mBc 221) 1423 = .ok (.aload_n 0, 1)) rfl rfl
theorem s221_1424 : mSnd 221 1424 (a_iload 1425 3) := snd_iload_n (by decide +kernel : decode (mBc 221) 1424 = .ok (.iload_n 3, 1)) rfl rfl
theorem s221_1425 : mSnd 221 1425 (a_push 1426 (.int (iZ 4))) := snd_iconst (by decide +kernel : decode (mBc 221) 1425 = .ok (.iconst 4, 1)) rfl rfl
theorem s221_1426 : mSnd 221 1426 (a_ii 1427 (fun x y => x + y)) := snd_iadd (by decide +kernel : decode (mBc 221) 1426 = .ok (.iadd, 1)) rfl
theorem s221_1427 : mSnd 221 1427 (a_iald 1428) := snd_iald (by decide +kernel : decode (mBc 221) 1427 = .ok (.iaload, 1)) rfl
theorem s221_1428 : mSnd 221 1428 (a_invV 1431 4 600000 7302250 [(10, 213, 0, 0)]) := snd_invV v221_156 rfl rfl (by decide +kernel : decode (mBc 221) 1428 = .ok (.invokevirtual 156, 3)) rfl
theorem s221_1431 : mSnd 221 1431 (a_icmp 1434 1532 (fun x y => decide (x = y))) := snd_icmp_eq (by decide +kernel : decode (mBc 221) 1431 = .ok (.if_icmp .eq 101, 3)) rfl rfl
theorem s221_1434 : mSnd 221 1434 (a_push 1435 (.int (iZ 0))) := snd_iconst (by decide +kernel : decode (mBc 221) 1434 = .ok (.iconst 0, 1)) rfl rfl
theorem s221_1435 : mSnd 221 1435 (a_zret 600000 7302250) := snd_zret rfl rfl rfl (by decide +kernel : decode (mBc 221) 1435 = .ok (.ireturn, 1))
theorem s221_1436 : mSnd 221 1436 (a_aload 1437 1) := snd_aload_n (by decide +kernel : decode (mBc 221) 1436 = .ok (.aload_n 1, 1)) rfl rfl
theorem s221_1437 : mSnd 221 1437 (a_aload 1438 0) := snd_aload_n (by decide +kernel : decode (mBc 221) 1437 = .ok (.aload_n 0, 1)) rfl rfl
theorem s221_1438 : mSnd 221 1438 (a_iload 1439 3) := snd_iload_n (by decide +kernel : decode (mBc 221) 1438 = .ok (.iload_n 3, 1)) rfl rfl
theorem s221_1439 : mSnd 221 1439 (a_push 1440 (.int (iZ 1))) := snd_iconst (by decide +kernel : decode (mBc 221) 1439 = .ok (.iconst 1, 1)) rfl rfl
theorem s221_1440 : mSnd 221 1440 (a_ii 1441 (fun x y => x + y)) := snd_iadd (by decide +kernel : decode (mBc 221) 1440 = .ok (.iadd, 1)) rfl
theorem s221_1441 : mSnd 221 1441 (a_iald 1442) := snd_iald (by decide +kernel : decode (mBc 221) 1441 = .ok (.iaload, 1)) rfl
theorem s221_1442 : mSnd 221 1442 (a_aload 1443 0) := snd_aload_n (by decide +kernel : decode (mBc 221) 1442 = .ok (.aload_n 0, 1)) rfl rfl
theorem s221_1443 : mSnd 221 1443 (a_iload 1444 3) := snd_iload_n (by decide +kernel : decode (mBc 221) 1443 = .ok (.iload_n 3, 1)) rfl rfl
theorem s221_1444 : mSnd 221 1444 (a_push 1445 (.int (iZ 2))) := snd_iconst (by decide +kernel : decode (mBc 221) 1444 = .ok (.iconst 2, 1)) rfl rfl
theorem s221_1445 : mSnd 221 1445 (a_ii 1446 (fun x y => x + y)) := snd_iadd (by decide +kernel : decode (mBc 221) 1445 = .ok (.iadd, 1)) rfl
theorem s221_1446 : mSnd 221 1446 (a_iald 1447) := snd_iald (by decide +kernel : decode (mBc 221) 1446 = .ok (.iaload, 1)) rfl
theorem s221_1447 : mSnd 221 1447 (a_aload 1448 0) := snd_aload_n (by decide +kernel : decode (mBc 221) 1447 = .ok (.aload_n 0, 1)) rfl rfl
theorem s221_1448 : mSnd 221 1448 (a_iload 1449 3) := snd_iload_n (by decide +kernel : decode (mBc 221) 1448 = .ok (.iload_n 3, 1)) rfl rfl
theorem s221_1449 : mSnd 221 1449 (a_push 1450 (.int (iZ 3))) := snd_iconst (by decide +kernel : decode (mBc 221) 1449 = .ok (.iconst 3, 1)) rfl rfl
theorem s221_1450 : mSnd 221 1450 (a_ii 1451 (fun x y => x + y)) := snd_iadd (by decide +kernel : decode (mBc 221) 1450 = .ok (.iadd, 1)) rfl
theorem s221_1451 : mSnd 221 1451 (a_iald 1452) := snd_iald (by decide +kernel : decode (mBc 221) 1451 = .ok (.iaload, 1)) rfl
theorem s221_1452 : mSnd 221 1452 (a_aload 1453 0) := snd_aload_n (by decide +kernel : decode (mBc 221) 1452 = .ok (.aload_n 0, 1)) rfl rfl
theorem s221_1453 : mSnd 221 1453 (a_iload 1454 3) := snd_iload_n (by decide +kernel : decode (mBc 221) 1453 = .ok (.iload_n 3, 1)) rfl rfl
theorem s221_1454 : mSnd 221 1454 (a_push 1455 (.int (iZ 4))) := snd_iconst (by decide +kernel : decode (mBc 221) 1454 = .ok (.iconst 4, 1)) rfl rfl
theorem s221_1455 : mSnd 221 1455 (a_ii 1456 (fun x y => x + y)) := snd_iadd (by decide +kernel : decode (mBc 221) 1455 = .ok (.iadd, 1)) rfl
theorem s221_1456 : mSnd 221 1456 (a_iald 1457) := snd_iald (by decide +kernel : decode (mBc 221) 1456 = .ok (.iaload, 1)) rfl
theorem s221_1457 : mSnd 221 1457 (a_aload 1458 0) := snd_aload_n (by decide +kernel : decode (mBc 221) 1457 = .ok (.aload_n 0, 1)) rfl rfl
theorem s221_1458 : mSnd 221 1458 (a_iload 1459 3) := snd_iload_n (by decide +kernel : decode (mBc 221) 1458 = .ok (.iload_n 3, 1)) rfl rfl
theorem s221_1459 : mSnd 221 1459 (a_push 1460 (.int (iZ 5))) := snd_iconst (by decide +kernel : decode (mBc 221) 1459 = .ok (.iconst 5, 1)) rfl rfl
theorem s221_1460 : mSnd 221 1460 (a_ii 1461 (fun x y => x + y)) := snd_iadd (by decide +kernel : decode (mBc 221) 1460 = .ok (.iadd, 1)) rfl
theorem s221_1461 : mSnd 221 1461 (a_iald 1462) := snd_iald (by decide +kernel : decode (mBc 221) 1461 = .ok (.iaload, 1)) rfl
theorem s221_1462 : mSnd 221 1462 (a_invV 1465 5 600000 7302250 [(9, 112, 0, 0)]) := snd_invV v221_157 rfl rfl (by decide +kernel : decode (mBc 221) 1462 = .ok (.invokevirtual 157, 3)) rfl
theorem s221_1465 : mSnd 221 1465 (a_aload 1466 2) := snd_aload_n (by decide +kernel : decode (mBc 221) 1465 = .ok (.aload_n 2, 1)) rfl rfl
theorem s221_1466 : mSnd 221 1466 (a_aload 1467 0) := snd_aload_n (by decide +kernel : decode (mBc 221) 1466 = .ok (.aload_n 0, 1)) rfl rfl
theorem s221_1467 : mSnd 221 1467 (a_iload 1468 3) := snd_iload_n (by decide +kernel : decode (mBc 221) 1467 = .ok (.iload_n 3, 1)) rfl rfl
theorem s221_1468 : mSnd 221 1468 (a_push 1469 (.int (iZ 1))) := snd_iconst (by decide +kernel : decode (mBc 221) 1468 = .ok (.iconst 1, 1)) rfl rfl
theorem s221_1469 : mSnd 221 1469 (a_ii 1470 (fun x y => x + y)) := snd_iadd (by decide +kernel : decode (mBc 221) 1469 = .ok (.iadd, 1)) rfl
theorem s221_1470 : mSnd 221 1470 (a_iald 1471) := snd_iald (by decide +kernel : decode (mBc 221) 1470 = .ok (.iaload, 1)) rfl
theorem s221_1471 : mSnd 221 1471 (a_aload 1472 0) := snd_aload_n (by decide +kernel : decode (mBc 221) 1471 = .ok (.aload_n 0, 1)) rfl rfl
theorem s221_1472 : mSnd 221 1472 (a_iload 1473 3) := snd_iload_n (by decide +kernel : decode (mBc 221) 1472 = .ok (.iload_n 3, 1)) rfl rfl
theorem s221_1473 : mSnd 221 1473 (a_push 1474 (.int (iZ 2))) := snd_iconst (by decide +kernel : decode (mBc 221) 1473 = .ok (.iconst 2, 1)) rfl rfl
theorem s221_1474 : mSnd 221 1474 (a_ii 1475 (fun x y => x + y)) := snd_iadd (by decide +kernel : decode (mBc 221) 1474 = .ok (.iadd, 1)) rfl
theorem s221_1475 : mSnd 221 1475 (a_iald 1476) := snd_iald (by decide +kernel : decode (mBc 221) 1475 = .ok (.iaload, 1)) rfl
theorem s221_1476 : mSnd 221 1476 (a_aload 1477 0) := snd_aload_n (by decide +kernel : decode (mBc 221) 1476 = .ok (.aload_n 0, 1)) rfl rfl
theorem s221_1477 : mSnd 221 1477 (a_iload 1478 3) := snd_iload_n (by decide +kernel : decode (mBc 221) 1477 = .ok (.iload_n 3, 1)) rfl rfl
theorem s221_1478 : mSnd 221 1478 (a_push 1479 (.int (iZ 3))) := snd_iconst (by decide +kernel : decode (mBc 221) 1478 = .ok (.iconst 3, 1)) rfl rfl
theorem s221_1479 : mSnd 221 1479 (a_ii 1480 (fun x y => x + y)) := snd_iadd (by decide +kernel : decode (mBc 221) 1479 = .ok (.iadd, 1)) rfl
theorem s221_1480 : mSnd 221 1480 (a_iald 1481) := snd_iald (by decide +kernel : decode (mBc 221) 1480 = .ok (.iaload, 1)) rfl
theorem s221_1481 : mSnd 221 1481 (a_aload 1482 0) := snd_aload_n (by decide +kernel : decode (mBc 221) 1481 = .ok (.aload_n 0, 1)) rfl rfl
theorem s221_1482 : mSnd 221 1482 (a_iload 1483 3) := snd_iload_n (by decide +kernel : decode (mBc 221) 1482 = .ok (.iload_n 3, 1)) rfl rfl
theorem s221_1483 : mSnd 221 1483 (a_push 1484 (.int (iZ 4))) := snd_iconst (by decide +kernel : decode (mBc 221) 1483 = .ok (.iconst 4, 1)) rfl rfl
theorem s221_1484 : mSnd 221 1484 (a_ii 1485 (fun x y => x + y)) := snd_iadd (by decide +kernel : decode (mBc 221) 1484 = .ok (.iadd, 1)) rfl
theorem s221_1485 : mSnd 221 1485 (a_iald 1486) := snd_iald (by decide +kernel : decode (mBc 221) 1485 = .ok (.iaload, 1)) rfl
theorem s221_1486 : mSnd 221 1486 (a_aload 1487 0) := snd_aload_n (by decide +kernel : decode (mBc 221) 1486 = .ok (.aload_n 0, 1)) rfl rfl
theorem s221_1487 : mSnd 221 1487 (a_iload 1488 3) := snd_iload_n (by decide +kernel : decode (mBc 221) 1487 = .ok (.iload_n 3, 1)) rfl rfl
theorem s221_1488 : mSnd 221 1488 (a_push 1489 (.int (iZ 5))) := snd_iconst (by decide +kernel : decode (mBc 221) 1488 = .ok (.iconst 5, 1)) rfl rfl
theorem s221_1489 : mSnd 221 1489 (a_ii 1490 (fun x y => x + y)) := snd_iadd (by decide +kernel : decode (mBc 221) 1489 = .ok (.iadd, 1)) rfl
theorem s221_1490 : mSnd 221 1490 (a_iald 1491) := snd_iald (by decide +kernel : decode (mBc 221) 1490 = .ok (.iaload, 1)) rfl
theorem s221_1491 : mSnd 221 1491 (a_invV 1494 5 600000 7302250 [(10, 214, 0, 0)]) := snd_invV v221_161 rfl rfl (by decide +kernel : decode (mBc 221) 1491 = .ok (.invokevirtual 161, 3)) rfl
theorem s221_1494 : mSnd 221 1494 (a_icmp 1497 1532 (fun x y => decide (x = y))) := snd_icmp_eq (by decide +kernel : decode (mBc 221) 1494 = .ok (.if_icmp .eq 38, 3)) rfl rfl
theorem s221_1497 : mSnd 221 1497 (a_push 1498 (.int (iZ 0))) := snd_iconst (by decide +kernel : decode (mBc 221) 1497 = .ok (.iconst 0, 1)) rfl rfl
theorem s221_1498 : mSnd 221 1498 (a_zret 600000 7302250) := snd_zret rfl rfl rfl (by decide +kernel : decode (mBc 221) 1498 = .ok (.ireturn, 1))
theorem s221_1499 : mSnd 221 1499 (a_aload 1500 1) := snd_aload_n (by decide +kernel : decode (mBc 221) 1499 = .ok (.aload_n 1, 1)) rfl rfl
theorem s221_1500 : mSnd 221 1500 (a_aload 1501 0) := snd_aload_n (by decide +kernel : decode (mBc 221) 1500 = .ok (.aload_n 0, 1)) rfl rfl
theorem s221_1501 : mSnd 221 1501 (a_iload 1502 3) := snd_iload_n (by decide +kernel : decode (mBc 221) 1501 = .ok (.iload_n 3, 1)) rfl rfl
theorem s221_1502 : mSnd 221 1502 (a_push 1503 (.int (iZ 1))) := snd_iconst (by decide +kernel : decode (mBc 221) 1502 = .ok (.iconst 1, 1)) rfl rfl
theorem s221_1503 : mSnd 221 1503 (a_ii 1504 (fun x y => x + y)) := snd_iadd (by decide +kernel : decode (mBc 221) 1503 = .ok (.iadd, 1)) rfl
theorem s221_1504 : mSnd 221 1504 (a_iald 1505) := snd_iald (by decide +kernel : decode (mBc 221) 1504 = .ok (.iaload, 1)) rfl
theorem s221_1505 : mSnd 221 1505 (a_aload 1506 0) := snd_aload_n (by decide +kernel : decode (mBc 221) 1505 = .ok (.aload_n 0, 1)) rfl rfl
theorem s221_1506 : mSnd 221 1506 (a_iload 1507 3) := snd_iload_n (by decide +kernel : decode (mBc 221) 1506 = .ok (.iload_n 3, 1)) rfl rfl
theorem s221_1507 : mSnd 221 1507 (a_push 1508 (.int (iZ 2))) := snd_iconst (by decide +kernel : decode (mBc 221) 1507 = .ok (.iconst 2, 1)) rfl rfl
theorem s221_1508 : mSnd 221 1508 (a_ii 1509 (fun x y => x + y)) := snd_iadd (by decide +kernel : decode (mBc 221) 1508 = .ok (.iadd, 1)) rfl
theorem s221_1509 : mSnd 221 1509 (a_iald 1510) := snd_iald (by decide +kernel : decode (mBc 221) 1509 = .ok (.iaload, 1)) rfl
theorem s221_1510 : mSnd 221 1510 (a_invV 1513 2 600000 7302250 [(9, 113, 0, 0)]) := snd_invV v221_162 rfl rfl (by decide +kernel : decode (mBc 221) 1510 = .ok (.invokevirtual 162, 3)) rfl
theorem s221_1513 : mSnd 221 1513 (a_aload 1514 2) := snd_aload_n (by decide +kernel : decode (mBc 221) 1513 = .ok (.aload_n 2, 1)) rfl rfl
theorem s221_1514 : mSnd 221 1514 (a_aload 1515 0) := snd_aload_n (by decide +kernel : decode (mBc 221) 1514 = .ok (.aload_n 0, 1)) rfl rfl
theorem s221_1515 : mSnd 221 1515 (a_iload 1516 3) := snd_iload_n (by decide +kernel : decode (mBc 221) 1515 = .ok (.iload_n 3, 1)) rfl rfl
theorem s221_1516 : mSnd 221 1516 (a_push 1517 (.int (iZ 1))) := snd_iconst (by decide +kernel : decode (mBc 221) 1516 = .ok (.iconst 1, 1)) rfl rfl
theorem s221_1517 : mSnd 221 1517 (a_ii 1518 (fun x y => x + y)) := snd_iadd (by decide +kernel : decode (mBc 221) 1517 = .ok (.iadd, 1)) rfl
theorem s221_1518 : mSnd 221 1518 (a_iald 1519) := snd_iald (by decide +kernel : decode (mBc 221) 1518 = .ok (.iaload, 1)) rfl
theorem s221_1519 : mSnd 221 1519 (a_aload 1520 0) := snd_aload_n (by decide +kernel : decode (mBc 221) 1519 = .ok (.aload_n 0, 1)) rfl rfl
theorem s221_1520 : mSnd 221 1520 (a_iload 1521 3) := snd_iload_n (by decide +kernel : decode (mBc 221) 1520 = .ok (.iload_n 3, 1)) rfl rfl
theorem s221_1521 : mSnd 221 1521 (a_push 1522 (.int (iZ 2))) := snd_iconst (by decide +kernel : decode (mBc 221) 1521 = .ok (.iconst 2, 1)) rfl rfl
theorem s221_1522 : mSnd 221 1522 (a_ii 1523 (fun x y => x + y)) := snd_iadd (by decide +kernel : decode (mBc 221) 1522 = .ok (.iadd, 1)) rfl
theorem s221_1523 : mSnd 221 1523 (a_iald 1524) := snd_iald (by decide +kernel : decode (mBc 221) 1523 = .ok (.iaload, 1)) rfl
theorem s221_1524 : mSnd 221 1524 (a_invV 1527 2 600000 7302250 [(10, 215, 0, 0)]) := snd_invV v221_165 rfl rfl (by decide +kernel : decode (mBc 221) 1524 = .ok (.invokevirtual 165, 3)) rfl
theorem s221_1527 : mSnd 221 1527 (a_icmp 1530 1532 (fun x y => decide (x = y))) := snd_icmp_eq (by decide +kernel : decode (mBc 221) 1527 = .ok (.if_icmp .eq 5, 3)) rfl rfl
theorem s221_1530 : mSnd 221 1530 (a_push 1531 (.int (iZ 0))) := snd_iconst (by decide +kernel : decode (mBc 221) 1530 = .ok (.iconst 0, 1)) rfl rfl
theorem s221_1531 : mSnd 221 1531 (a_zret 600000 7302250) := snd_zret rfl rfl rfl (by decide +kernel : decode (mBc 221) 1531 = .ok (.ireturn, 1))
theorem s221_1532 : mSnd 221 1532 (a_iinc 1535 3 (iZ 6)) := snd_iinc (by decide +kernel : decode (mBc 221) 1532 = .ok (.iinc 3 6, 3)) rfl (by decide) rfl
theorem s221_1535 : mSnd 221 1535 (a_goto 18) := snd_goto (by decide +kernel : decode (mBc 221) 1535 = .ok (.goto (-1517), 3)) rfl
theorem s221_1538 : mSnd 221 1538 (a_push 1539 (.int (iZ 1))) := snd_iconst (by decide +kernel : decode (mBc 221) 1538 = .ok (.iconst 1, 1)) rfl rfl
theorem s221_1539 : mSnd 221 1539 (a_zret 600000 7302250) := snd_zret rfl rfl rfl (by decide +kernel : decode (mBc 221) 1539 = .ok (.ireturn, 1))
theorem ok221 : mOkl2 221 ct221 := ⟨⟨s221_0, s221_3, s221_4, s221_7, s221_8, s221_11, s221_12, s221_15, s221_16, s221_17, s221_18, s221_19, trivial⟩, ⟨s221_20, s221_21, s221_23, s221_24, s221_27, s221_28, s221_29, s221_30, s221_32, s221_33, s221_188, s221_189, trivial⟩, ⟨s221_190, s221_191, s221_192, s221_193, s221_194, s221_197, s221_198, s221_199, s221_200, s221_201, s221_202, s221_203, trivial⟩, ⟨s221_206, s221_209, s221_210, s221_211, s221_212, s221_213, s221_214, s221_215, s221_216, s221_217, s221_218, s221_219, trivial⟩, ⟨s221_220, s221_221, s221_222, s221_223, s221_224, s221_225, s221_226, s221_227, s221_230, s221_231, s221_232, s221_233, trivial⟩, ⟨s221_234, s221_235, s221_236, s221_237, s221_238, s221_239, s221_240, s221_241, s221_242, s221_243, s221_244, s221_245, trivial⟩, ⟨s221_246, s221_249, s221_252, s221_253, s221_254, s221_255, s221_256, s221_257, s221_258, s221_259, s221_260, s221_261, trivial⟩, ⟨s221_262, s221_263, s221_264, s221_265, s221_266, s221_267, s221_268, s221_269, s221_270, s221_273, s221_274, s221_275, trivial⟩, ⟨s221_276, s221_277, s221_278, s221_279, s221_280, s221_281, s221_282, s221_283, s221_284, s221_285, s221_286, s221_287, trivial⟩, ⟨s221_288, s221_289, s221_292, s221_295, s221_296, s221_297, s221_298, s221_299, s221_300, s221_301, s221_302, s221_303, trivial⟩, ⟨s221_304, s221_305, s221_306, s221_307, s221_308, s221_311, s221_312, s221_313, s221_314, s221_315, s221_316, s221_317, trivial⟩, ⟨s221_318, s221_319, s221_320, s221_321, s221_322, s221_325, s221_328, s221_329, s221_330, s221_331, s221_332, s221_333, trivial⟩, ⟨s221_334, s221_335, s221_336, s221_337, s221_338, s221_339, s221_340, s221_341, s221_344, s221_345, s221_346, s221_347, trivial⟩, ⟨s221_348, s221_349, s221_350, s221_351, s221_352, s221_353, s221_354, s221_355, s221_358, s221_361, s221_362, s221_363, trivial⟩, ⟨s221_364, s221_365, s221_366, s221_367, s221_368, s221_369, s221_370, s221_371, s221_372, s221_373, s221_374, s221_375, trivial⟩, ⟨s221_376, s221_377, s221_378, s221_379, s221_380, s221_381, s221_382, s221_383, s221_384, s221_387, s221_388, s221_389, trivial⟩, ⟨s221_390, s221_391, s221_392, s221_393, s221_394, s221_395, s221_396, s221_397, s221_398, s221_399, s221_400, s221_401, trivial⟩, ⟨s221_402, s221_403, s221_404, s221_405, s221_406, s221_407, s221_408, s221_411, s221_414, s221_415, s221_416, s221_417, trivial⟩, ⟨s221_418, s221_419, s221_420, s221_421, s221_422, s221_423, s221_424, s221_425, s221_426, s221_427, s221_430, s221_431, trivial⟩, ⟨s221_432, s221_433, s221_434, s221_435, s221_436, s221_437, s221_438, s221_439, s221_440, s221_441, s221_444, s221_447, trivial⟩, ⟨s221_448, s221_449, s221_450, s221_451, s221_452, s221_453, s221_454, s221_455, s221_456, s221_457, s221_458, s221_459, trivial⟩, ⟨s221_460, s221_461, s221_462, s221_463, s221_464, s221_465, s221_468, s221_469, s221_470, s221_471, s221_472, s221_473, trivial⟩, ⟨s221_474, s221_475, s221_476, s221_477, s221_478, s221_479, s221_480, s221_481, s221_482, s221_483, s221_484, s221_487, trivial⟩, ⟨s221_490, s221_491, s221_492, s221_493, s221_494, s221_495, s221_496, s221_497, s221_498, s221_501, s221_502, s221_503, trivial⟩, ⟨s221_504, s221_505, s221_506, s221_507, s221_510, s221_513, s221_514, s221_515, s221_516, s221_519, s221_520, s221_523, trivial⟩, ⟨s221_526, s221_527, s221_528, s221_529, s221_530, s221_531, s221_532, s221_533, s221_534, s221_535, s221_536, s221_537, trivial⟩, ⟨s221_538, s221_539, s221_542, s221_543, s221_544, s221_545, s221_546, s221_547, s221_548, s221_549, s221_550, s221_551, trivial⟩, ⟨s221_552, s221_553, s221_556, s221_559, s221_560, s221_561, s221_562, s221_563, s221_564, s221_565, s221_566, s221_567, trivial⟩, ⟨s221_568, s221_569, s221_570, s221_571, s221_572, s221_575, s221_576, s221_577, s221_578, s221_579, s221_580, s221_581, trivial⟩, ⟨s221_582, s221_583, s221_584, s221_585, s221_586, s221_589, s221_590, s221_593, s221_594, s221_595, s221_596, s221_597, trivial⟩, ⟨s221_598, s221_599, s221_600, s221_601, s221_602, s221_603, s221_604, s221_605, s221_606, s221_607, s221_608, s221_609, trivial⟩, ⟨s221_610, s221_611, s221_614, s221_615, s221_616, s221_617, s221_618, s221_619, s221_620, s221_621, s221_622, s221_623, trivial⟩, ⟨s221_624, s221_625, s221_626, s221_627, s221_628, s221_629, s221_630, s221_633, s221_634, s221_637, s221_638, s221_639, trivial⟩, ⟨s221_640, s221_641, s221_642, s221_643, s221_644, s221_645, s221_646, s221_647, s221_648, s221_649, s221_650, s221_651, trivial⟩, ⟨s221_652, s221_653, s221_654, s221_655, s221_656, s221_657, s221_658, s221_659, s221_660, s221_663, s221_664, s221_665, trivial⟩, ⟨s221_666, s221_667, s221_668, s221_669, s221_670, s221_671, s221_672, s221_673, s221_674, s221_675, s221_676, s221_677, trivial⟩, ⟨s221_678, s221_679, s221_680, s221_681, s221_682, s221_683, s221_684, s221_687, s221_688, s221_691, s221_692, s221_693, trivial⟩, ⟨s221_694, s221_695, s221_696, s221_697, s221_698, s221_699, s221_700, s221_701, s221_702, s221_703, s221_704, s221_705, trivial⟩, ⟨s221_706, s221_707, s221_708, s221_709, s221_710, s221_711, s221_712, s221_713, s221_714, s221_717, s221_718, s221_719, trivial⟩, ⟨s221_720, s221_721, s221_722, s221_723, s221_724, s221_725, s221_726, s221_727, s221_728, s221_729, s221_730, s221_731, trivial⟩, ⟨s221_732, s221_733, s221_734, s221_735, s221_736, s221_737, s221_738, s221_741, s221_742, s221_745, s221_746, s221_747, trivial⟩, ⟨s221_748, s221_749, s221_750, s221_751, s221_752, s221_753, s221_754, s221_755, s221_756, s221_757, s221_758, s221_761, trivial⟩, ⟨s221_762, s221_763, s221_764, s221_765, s221_766, s221_767, s221_768, s221_769, s221_770, s221_771, s221_772, s221_775, trivial⟩, ⟨s221_778, s221_779, s221_780, s221_781, s221_782, s221_783, s221_784, s221_785, s221_786, s221_787, s221_788, s221_789, trivial⟩, ⟨s221_790, s221_791, s221_792, s221_793, s221_794, s221_795, s221_796, s221_797, s221_798, s221_799, s221_800, s221_801, trivial⟩, ⟨s221_804, s221_805, s221_806, s221_807, s221_808, s221_809, s221_810, s221_811, s221_812, s221_813, s221_814, s221_815, trivial⟩, ⟨s221_816, s221_817, s221_818, s221_819, s221_820, s221_821, s221_822, s221_823, s221_824, s221_825, s221_828, s221_829, trivial⟩, ⟨s221_832, s221_833, s221_834, s221_835, s221_836, s221_837, s221_838, s221_839, s221_840, s221_841, s221_842, s221_843, trivial⟩, ⟨s221_844, s221_845, s221_846, s221_847, s221_848, s221_849, s221_850, s221_851, s221_852, s221_853, s221_854, s221_855, trivial⟩, ⟨s221_858, s221_859, s221_860, s221_861, s221_862, s221_863, s221_864, s221_865, s221_866, s221_867, s221_868, s221_869, trivial⟩, ⟨s221_870, s221_871, s221_872, s221_873, s221_874, s221_875, s221_876, s221_877, s221_878, s221_879, s221_882, s221_883, trivial⟩, ⟨s221_886, s221_887, s221_888, s221_889, s221_890, s221_891, s221_892, s221_893, s221_894, s221_895, s221_896, s221_897, trivial⟩, ⟨s221_898, s221_899, s221_902, s221_903, s221_904, s221_905, s221_906, s221_907, s221_908, s221_909, s221_910, s221_911, trivial⟩, ⟨s221_912, s221_913, s221_916, s221_917, s221_920, s221_921, s221_922, s221_923, s221_924, s221_925, s221_926, s221_927, trivial⟩, ⟨s221_928, s221_929, s221_930, s221_931, s221_932, s221_933, s221_934, s221_935, s221_936, s221_937, s221_938, s221_941, trivial⟩, ⟨s221_942, s221_943, s221_944, s221_945, s221_946, s221_947, s221_948, s221_949, s221_950, s221_951, s221_952, s221_953, trivial⟩, ⟨s221_954, s221_955, s221_956, s221_957, s221_960, s221_961, s221_964, s221_965, s221_966, s221_967, s221_968, s221_969, trivial⟩, ⟨s221_970, s221_971, s221_972, s221_975, s221_976, s221_977, s221_978, s221_979, s221_980, s221_981, s221_984, s221_987, trivial⟩, ⟨s221_988, s221_989, s221_990, s221_991, s221_992, s221_993, s221_994, s221_995, s221_996, s221_997, s221_998, s221_999, trivial⟩, ⟨s221_1000, s221_1001, s221_1002, s221_1003, s221_1004, s221_1005, s221_1008, s221_1009, s221_1010, s221_1011, s221_1012, s221_1013, trivial⟩, ⟨s221_1014, s221_1015, s221_1016, s221_1017, s221_1018, s221_1019, s221_1020, s221_1021, s221_1022, s221_1023, s221_1024, s221_1027, trivial⟩, ⟨s221_1030, s221_1031, s221_1032, s221_1033, s221_1034, s221_1035, s221_1036, s221_1037, s221_1038, s221_1039, s221_1040, s221_1041, trivial⟩, ⟨s221_1042, s221_1043, s221_1044, s221_1045, s221_1046, s221_1047, s221_1048, s221_1051, s221_1052, s221_1053, s221_1054, s221_1055, trivial⟩, ⟨s221_1056, s221_1057, s221_1058, s221_1059, s221_1060, s221_1061, s221_1062, s221_1063, s221_1064, s221_1065, s221_1066, s221_1067, trivial⟩, ⟨s221_1070, s221_1073, s221_1074, s221_1075, s221_1076, s221_1077, s221_1078, s221_1079, s221_1080, s221_1081, s221_1084, s221_1085, trivial⟩, ⟨s221_1086, s221_1087, s221_1088, s221_1089, s221_1090, s221_1093, s221_1096, s221_1097, s221_1098, s221_1099, s221_1100, s221_1101, trivial⟩, ⟨s221_1102, s221_1103, s221_1104, s221_1107, s221_1108, s221_1109, s221_1110, s221_1111, s221_1112, s221_1113, s221_1116, s221_1117, trivial⟩, ⟨s221_1120, s221_1121, s221_1122, s221_1123, s221_1124, s221_1125, s221_1126, s221_1127, s221_1128, s221_1129, s221_1130, s221_1131, trivial⟩, ⟨s221_1132, s221_1133, s221_1134, s221_1136, s221_1137, s221_1138, s221_1139, s221_1140, s221_1141, s221_1142, s221_1143, s221_1146, trivial⟩, ⟨s221_1147, s221_1148, s221_1151, s221_1152, s221_1153, s221_1154, s221_1155, s221_1156, s221_1157, s221_1158, s221_1159, s221_1160, trivial⟩, ⟨s221_1161, s221_1162, s221_1163, s221_1165, s221_1166, s221_1167, s221_1168, s221_1169, s221_1170, s221_1171, s221_1172, s221_1175, trivial⟩, ⟨s221_1176, s221_1177, s221_1180, s221_1183, s221_1184, s221_1185, s221_1186, s221_1187, s221_1188, s221_1189, s221_1190, s221_1191, trivial⟩, ⟨s221_1194, s221_1195, s221_1196, s221_1197, s221_1198, s221_1199, s221_1200, s221_1203, s221_1206, s221_1207, s221_1208, s221_1209, trivial⟩, ⟨s221_1210, s221_1211, s221_1212, s221_1213, s221_1214, s221_1215, s221_1216, s221_1217, s221_1218, s221_1219, s221_1220, s221_1221, trivial⟩, ⟨s221_1222, s221_1223, s221_1224, s221_1227, s221_1228, s221_1229, s221_1230, s221_1231, s221_1232, s221_1233, s221_1234, s221_1235, trivial⟩, ⟨s221_1236, s221_1237, s221_1238, s221_1239, s221_1240, s221_1241, s221_1242, s221_1243, s221_1246, s221_1249, s221_1250, s221_1251, trivial⟩, ⟨s221_1252, s221_1253, s221_1254, s221_1255, s221_1256, s221_1257, s221_1260, s221_1261, s221_1262, s221_1263, s221_1264, s221_1265, trivial⟩, ⟨s221_1266, s221_1269, s221_1272, s221_1273, s221_1274, s221_1275, s221_1276, s221_1277, s221_1278, s221_1279, s221_1280, s221_1283, trivial⟩, ⟨s221_1284, s221_1285, s221_1286, s221_1287, s221_1288, s221_1289, s221_1292, s221_1295, s221_1296, s221_1297, s221_1298, s221_1299, trivial⟩, ⟨s221_1300, s221_1301, s221_1302, s221_1303, s221_1304, s221_1305, s221_1306, s221_1307, s221_1308, s221_1309, s221_1310, s221_1311, trivial⟩, ⟨s221_1312, s221_1313, s221_1316, s221_1317, s221_1318, s221_1319, s221_1320, s221_1321, s221_1322, s221_1323, s221_1324, s221_1325, trivial⟩, ⟨s221_1326, s221_1327, s221_1328, s221_1329, s221_1330, s221_1331, s221_1332, s221_1335, s221_1338, s221_1339, s221_1340, s221_1341, trivial⟩, ⟨s221_1342, s221_1343, s221_1344, s221_1345, s221_1346, s221_1347, s221_1348, s221_1349, s221_1350, s221_1351, s221_1352, s221_1353, trivial⟩, ⟨s221_1354, s221_1355, s221_1356, s221_1359, s221_1360, s221_1361, s221_1362, s221_1363, s221_1364, s221_1365, s221_1366, s221_1367, trivial⟩, ⟨s221_1368, s221_1369, s221_1370, s221_1371, s221_1372, s221_1373, s221_1374, s221_1375, s221_1378, s221_1381, s221_1382, s221_1383, trivial⟩, ⟨s221_1384, s221_1385, s221_1386, s221_1387, s221_1388, s221_1389, s221_1390, s221_1391, s221_1392, s221_1393, s221_1394, s221_1395, trivial⟩, ⟨s221_1396, s221_1397, s221_1398, s221_1399, s221_1400, s221_1401, s221_1402, s221_1403, s221_1404, s221_1407, s221_1408, s221_1409, trivial⟩, ⟨s221_1410, s221_1411, s221_1412, s221_1413, s221_1414, s221_1415, s221_1416, s221_1417, s221_1418, s221_1419, s221_1420, s221_1421, trivial⟩, ⟨s221_1422, s221_1423, s221_1424, s221_1425, s221_1426, s221_1427, s221_1428, s221_1431, s221_1434, s221_1435, s221_1436, s221_1437, trivial⟩, ⟨s221_1438, s221_1439, s221_1440, s221_1441, s221_1442, s221_1443, s221_1444, s221_1445, s221_1446, s221_1447, s221_1448, s221_1449, trivial⟩, ⟨s221_1450, s221_1451, s221_1452, s221_1453, s221_1454, s221_1455, s221_1456, s221_1457, s221_1458, s221_1459, s221_1460, s221_1461, trivial⟩, ⟨s221_1462, s221_1465, s221_1466, s221_1467, s221_1468, s221_1469, s221_1470, s221_1471, s221_1472, s221_1473, s221_1474, s221_1475, trivial⟩, ⟨s221_1476, s221_1477, s221_1478, s221_1479, s221_1480, s221_1481, s221_1482, s221_1483, s221_1484, s221_1485, s221_1486, s221_1487, trivial⟩, ⟨s221_1488, s221_1489, s221_1490, s221_1491, s221_1494, s221_1497, s221_1498, s221_1499, s221_1500, s221_1501, s221_1502, s221_1503, trivial⟩, ⟨s221_1504, s221_1505, s221_1506, s221_1507, s221_1508, s221_1509, s221_1510, s221_1513, s221_1514, s221_1515, s221_1516, s221_1517, trivial⟩, ⟨s221_1518, s221_1519, s221_1520, s221_1521, s221_1522, s221_1523, s221_1524, s221_1527, s221_1530, s221_1531, s221_1532, s221_1535, trivial⟩, ⟨s221_1538, s221_1539, trivial⟩, trivial⟩
