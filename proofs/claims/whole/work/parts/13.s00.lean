theorem s0_0 : mSnd 0 0 (a_aload 1 0) := snd_aload_n (by decide +kernel : decode (mBc 0) 0 = .ok (.aload_n 0, 1)) rfl rfl
theorem s0_1 : mSnd 0 1 (a_obj 4) := snd_obj q97 q21 q22 (by decide) (by decide) (by decide +kernel : decode (mBc 0) 1 = .ok (.invokespecial 3, 3)) rfl
theorem s0_4 : mSnd 0 4 (a_aload 5 0) := snd_aload_n (by decide +kernel : decode (mBc 0) 4 = .ok (.aload_n 0, 1)) rfl rfl
theorem s0_5 : mSnd 0 5 (a_push 6 (.int (iZ 0))) := snd_iconst (by decide +kernel : decode (mBc 0) 5 = .ok (.iconst 0, 1)) rfl rfl
theorem s0_6 : mSnd 0 6 (a_putf 9 0 0 [0]) := snd_putf f0 (by decide +kernel) q98 (Or.inl rfl) (Or.inl rfl) (by decide +kernel : decode (mBc 0) 6 = .ok (.putfield 9, 3)) rfl
theorem s0_9 : mSnd 0 9 (a_aload 10 0) := snd_aload_n (by decide +kernel : decode (mBc 0) 9 = .ok (.aload_n 0, 1)) rfl rfl
theorem s0_10 : mSnd 0 10 (a_push 12 (.int (iZ 96))) := snd_bipush (by decide +kernel : decode (mBc 0) 10 = .ok (.bipush 96, 2)) (by decide +kernel) rfl
theorem s0_12 : mSnd 0 12 (a_newa 14 0 5 125) := snd_newi rfl rfl q54 (by decide +kernel : decode (mBc 0) 12 = .ok (.newarray .int, 2)) rfl
theorem s0_14 : mSnd 0 14 (a_putf 17 1 2 [0]) := snd_putf f1 (by decide +kernel) q100 (Or.inl rfl) (Or.inr ⟨rfl, rfl⟩) (by decide +kernel : decode (mBc 0) 14 = .ok (.putfield 15, 3)) rfl
theorem s0_17 : mSnd 0 17 (a_aload 18 0) := snd_aload_n (by decide +kernel : decode (mBc 0) 17 = .ok (.aload_n 0, 1)) rfl rfl
theorem s0_18 : mSnd 0 18 (a_push 19 (.int (iZ 4))) := snd_iconst (by decide +kernel : decode (mBc 0) 18 = .ok (.iconst 4, 1)) rfl rfl
theorem s0_19 : mSnd 0 19 (a_newa 21 0 5 125) := snd_newi rfl rfl q54 (by decide +kernel : decode (mBc 0) 19 = .ok (.newarray .int, 2)) rfl
theorem s0_21 : mSnd 0 21 (a_putf 24 2 2 [0]) := snd_putf f2 (by decide +kernel) q101 (Or.inl rfl) (Or.inr ⟨rfl, rfl⟩) (by decide +kernel : decode (mBc 0) 21 = .ok (.putfield 19, 3)) rfl
theorem s0_24 : mSnd 0 24 (a_aload 25 0) := snd_aload_n (by decide +kernel : decode (mBc 0) 24 = .ok (.aload_n 0, 1)) rfl rfl
theorem s0_25 : mSnd 0 25 (a_push 27 (.int (iZ 8))) := snd_bipush (by decide +kernel : decode (mBc 0) 25 = .ok (.bipush 8, 2)) (by decide +kernel) rfl
theorem s0_27 : mSnd 0 27 (a_newa 29 0 5 125) := snd_newi rfl rfl q54 (by decide +kernel : decode (mBc 0) 27 = .ok (.newarray .int, 2)) rfl
theorem s0_29 : mSnd 0 29 (a_putf 32 3 2 [0]) := snd_putf f3 (by decide +kernel) q102 (Or.inl rfl) (Or.inr ⟨rfl, rfl⟩) (by decide +kernel : decode (mBc 0) 29 = .ok (.putfield 22, 3)) rfl
theorem s0_32 : mSnd 0 32 (a_aload 33 0) := snd_aload_n (by decide +kernel : decode (mBc 0) 32 = .ok (.aload_n 0, 1)) rfl rfl
theorem s0_33 : mSnd 0 33 (a_push 35 (.int (iZ 8))) := snd_bipush (by decide +kernel : decode (mBc 0) 33 = .ok (.bipush 8, 2)) (by decide +kernel) rfl
theorem s0_35 : mSnd 0 35 (a_newa 37 0 5 125) := snd_newi rfl rfl q54 (by decide +kernel : decode (mBc 0) 35 = .ok (.newarray .int, 2)) rfl
theorem s0_37 : mSnd 0 37 (a_putf 40 4 2 [0]) := snd_putf f4 (by decide +kernel) q103 (Or.inl rfl) (Or.inr ⟨rfl, rfl⟩) (by decide +kernel : decode (mBc 0) 37 = .ok (.putfield 25, 3)) rfl
theorem s0_40 : mSnd 0 40 (a_aload 41 0) := snd_aload_n (by decide +kernel : decode (mBc 0) 40 = .ok (.aload_n 0, 1)) rfl rfl
theorem s0_41 : mSnd 0 41 (a_push 43 (.int (iZ 9))) := snd_bipush (by decide +kernel : decode (mBc 0) 41 = .ok (.bipush 9, 2)) (by decide +kernel) rfl
theorem s0_43 : mSnd 0 43 (a_newa 45 0 5 125) := snd_newi rfl rfl q54 (by decide +kernel : decode (mBc 0) 43 = .ok (.newarray .int, 2)) rfl
theorem s0_45 : mSnd 0 45 (a_putf 48 5 2 [0]) := snd_putf f5 (by decide +kernel) q104 (Or.inl rfl) (Or.inr ⟨rfl, rfl⟩) (by decide +kernel : decode (mBc 0) 45 = .ok (.putfield 28, 3)) rfl
theorem s0_48 : mSnd 0 48 (a_aload 49 0) := snd_aload_n (by decide +kernel : decode (mBc 0) 48 = .ok (.aload_n 0, 1)) rfl rfl
theorem s0_49 : mSnd 0 49 (a_push 50 (.int (iZ 0))) := snd_iconst (by decide +kernel : decode (mBc 0) 49 = .ok (.iconst 0, 1)) rfl rfl
theorem s0_50 : mSnd 0 50 (a_putf 53 6 0 [0]) := snd_putf f6 (by decide +kernel) q105 (Or.inl rfl) (Or.inl rfl) (by decide +kernel : decode (mBc 0) 50 = .ok (.putfield 31, 3)) rfl
theorem s0_53 : mSnd 0 53 (a_vret 5 125) := snd_vret rfl rfl rfl (by decide +kernel : decode (mBc 0) 53 = .ok (.return_, 1))
theorem ok0 : mOkl2 0 ct0 := ⟨⟨s0_0, s0_1, s0_4, s0_5, s0_6, s0_9, s0_10, s0_12, s0_14, s0_17, s0_18, s0_19, trivial⟩, ⟨s0_21, s0_24, s0_25, s0_27, s0_29, s0_32, s0_33, s0_35, s0_37, s0_40, s0_41, s0_43, trivial⟩, ⟨s0_45, s0_48, s0_49, s0_50, s0_53, trivial⟩, trivial⟩
theorem s1_0 : mSnd 1 0 (a_iload 1 1) := snd_iload_n (by decide +kernel : decode (mBc 1) 0 = .ok (.iload_n 1, 1)) rfl rfl
theorem s1_1 : mSnd 1 1 (a_push 2 (.int (iZ 4))) := snd_iconst (by decide +kernel : decode (mBc 1) 1 = .ok (.iconst 4, 1)) rfl rfl
theorem s1_2 : mSnd 1 2 (a_ii 3 (fun x y => x * y)) := snd_imul (by decide +kernel : decode (mBc 1) 2 = .ok (.imul, 1)) rfl
theorem s1_3 : mSnd 1 3 (a_iload 4 2) := snd_iload_n (by decide +kernel : decode (mBc 1) 3 = .ok (.iload_n 2, 1)) rfl rfl
theorem s1_4 : mSnd 1 4 (a_ii 5 (fun x y => x + y)) := snd_iadd (by decide +kernel : decode (mBc 1) 4 = .ok (.iadd, 1)) rfl
theorem s1_5 : mSnd 1 5 (a_istore 6 3) := snd_istore_n (by decide +kernel : decode (mBc 1) 5 = .ok (.istore_n 3, 1)) rfl (by decide) rfl
theorem s1_6 : mSnd 1 6 (a_iload 7 3) := snd_iload_n (by decide +kernel : decode (mBc 1) 6 = .ok (.iload_n 3, 1)) rfl rfl
theorem s1_7 : mSnd 1 7 (a_if 10 19 (fun x => decide (x < 0))) := snd_if_lt (by decide +kernel : decode (mBc 1) 7 = .ok (.ifCond .lt 12, 3)) rfl rfl
theorem s1_10 : mSnd 1 10 (a_iload 11 3) := snd_iload_n (by decide +kernel : decode (mBc 1) 10 = .ok (.iload_n 3, 1)) rfl rfl
theorem s1_11 : mSnd 1 11 (a_aload 12 0) := snd_aload_n (by decide +kernel : decode (mBc 1) 11 = .ok (.aload_n 0, 1)) rfl rfl
theorem s1_12 : mSnd 1 12 (a_getf 15 1 [0]) := snd_getf f1 q100 (Or.inl rfl) (by decide +kernel : decode (mBc 1) 12 = .ok (.getfield 15, 3)) rfl
theorem s1_15 : mSnd 1 15 (a_alen 16) := snd_alen (by decide +kernel : decode (mBc 1) 15 = .ok (.arraylength, 1)) rfl
theorem s1_16 : mSnd 1 16 (a_icmp 19 23 (fun x y => decide (x < y))) := snd_icmp_lt (by decide +kernel : decode (mBc 1) 16 = .ok (.if_icmp .lt 7, 3)) rfl rfl
theorem s1_19 : mSnd 1 19 (a_push 20 (.int (iZ 0))) := snd_iconst (by decide +kernel : decode (mBc 1) 19 = .ok (.iconst 0, 1)) rfl rfl
theorem s1_20 : mSnd 1 20 (a_goto 29) := snd_goto (by decide +kernel : decode (mBc 1) 20 = .ok (.goto 9, 3)) rfl
theorem s1_23 : mSnd 1 23 (a_aload 24 0) := snd_aload_n (by decide +kernel : decode (mBc 1) 23 = .ok (.aload_n 0, 1)) rfl rfl
theorem s1_24 : mSnd 1 24 (a_getf 27 1 [0]) := snd_getf f1 q100 (Or.inl rfl) (by decide +kernel : decode (mBc 1) 24 = .ok (.getfield 15, 3)) rfl
theorem s1_27 : mSnd 1 27 (a_iload 28 3) := snd_iload_n (by decide +kernel : decode (mBc 1) 27 = .ok (.iload_n 3, 1)) rfl rfl
theorem s1_28 : mSnd 1 28 (a_iald 29) := snd_iald (by decide +kernel : decode (mBc 1) 28 = .ok (.iaload, 1)) rfl
theorem s1_29 : mSnd 1 29 (a_iret 0 0) := snd_iret rfl rfl rfl (by decide +kernel : decode (mBc 1) 29 = .ok (.ireturn, 1))
theorem ok1 : mOkl2 1 ct1 := ⟨⟨s1_0, s1_1, s1_2, s1_3, s1_4, s1_5, s1_6, s1_7, s1_10, s1_11, s1_12, s1_15, trivial⟩, ⟨s1_16, s1_19, s1_20, s1_23, s1_24, s1_27, s1_28, s1_29, trivial⟩, trivial⟩
theorem s2_0 : mSnd 2 0 (a_aload 1 0) := snd_aload_n (by decide +kernel : decode (mBc 2) 0 = .ok (.aload_n 0, 1)) rfl rfl
theorem s2_1 : mSnd 2 1 (a_push 2 (.int (iZ 0))) := snd_iconst (by decide +kernel : decode (mBc 2) 1 = .ok (.iconst 0, 1)) rfl rfl
theorem s2_2 : mSnd 2 2 (a_iload 3 1) := snd_iload_n (by decide +kernel : decode (mBc 2) 2 = .ok (.iload_n 1, 1)) rfl rfl
theorem s2_3 : mSnd 2 3 (a_invV 6 2 0 0 [(0, 1, 0, 0)]) := snd_invV v2_34 rfl rfl (by decide +kernel : decode (mBc 2) 3 = .ok (.invokevirtual 34, 3)) rfl
theorem s2_6 : mSnd 2 6 (a_istore 7 3) := snd_istore_n (by decide +kernel : decode (mBc 2) 6 = .ok (.istore_n 3, 1)) rfl (by decide) rfl
theorem s2_7 : mSnd 2 7 (a_push 8 (.int (iZ 1))) := snd_iconst (by decide +kernel : decode (mBc 2) 7 = .ok (.iconst 1, 1)) rfl rfl
theorem s2_8 : mSnd 2 8 (a_istore 10 4) := snd_istore (by decide +kernel : decode (mBc 2) 8 = .ok (.istore 4, 2)) (by decide) rfl
theorem s2_10 : mSnd 2 10 (a_iload 12 4) := snd_iload (by decide +kernel : decode (mBc 2) 10 = .ok (.iload 4, 2)) rfl
theorem s2_12 : mSnd 2 12 (a_aload 13 0) := snd_aload_n (by decide +kernel : decode (mBc 2) 12 = .ok (.aload_n 0, 1)) rfl rfl
theorem s2_13 : mSnd 2 13 (a_getf 16 0 [0]) := snd_getf f0 q98 (Or.inl rfl) (by decide +kernel : decode (mBc 2) 13 = .ok (.getfield 9, 3)) rfl
theorem s2_16 : mSnd 2 16 (a_icmp 19 54 (fun x y => decide (y ≤ x))) := snd_icmp_ge (by decide +kernel : decode (mBc 2) 16 = .ok (.if_icmp .ge 38, 3)) rfl rfl
theorem s2_19 : mSnd 2 19 (a_aload 20 0) := snd_aload_n (by decide +kernel : decode (mBc 2) 19 = .ok (.aload_n 0, 1)) rfl rfl
theorem s2_20 : mSnd 2 20 (a_iload 22 4) := snd_iload (by decide +kernel : decode (mBc 2) 20 = .ok (.iload 4, 2)) rfl
theorem s2_22 : mSnd 2 22 (a_iload 23 1) := snd_iload_n (by decide +kernel : decode (mBc 2) 22 = .ok (.iload_n 1, 1)) rfl rfl
theorem s2_23 : mSnd 2 23 (a_invV 26 2 0 0 [(0, 1, 0, 0)]) := snd_invV v2_34 rfl rfl (by decide +kernel : decode (mBc 2) 23 = .ok (.invokevirtual 34, 3)) rfl
theorem s2_26 : mSnd 2 26 (a_istore 28 5) := snd_istore (by decide +kernel : decode (mBc 2) 26 = .ok (.istore 5, 2)) (by decide) rfl
theorem s2_28 : mSnd 2 28 (a_iload 29 2) := snd_iload_n (by decide +kernel : decode (mBc 2) 28 = .ok (.iload_n 2, 1)) rfl rfl
theorem s2_29 : mSnd 2 29 (a_if 32 41 (fun x => decide (x = 0))) := snd_if_eq (by decide +kernel : decode (mBc 2) 29 = .ok (.ifCond .eq 12, 3)) rfl rfl
theorem s2_32 : mSnd 2 32 (a_iload 33 3) := snd_iload_n (by decide +kernel : decode (mBc 2) 32 = .ok (.iload_n 3, 1)) rfl rfl
theorem s2_33 : mSnd 2 33 (a_iload 35 5) := snd_iload (by decide +kernel : decode (mBc 2) 33 = .ok (.iload 5, 2)) rfl
theorem s2_35 : mSnd 2 35 (a_invS 38 219 2 0 0 0 0) := snd_invS k2_219 rfl rfl q617 q260 q9 (by decide +kernel) (by decide +kernel : decode (mBc 2) 35 = .ok (.invokestatic 38, 3)) rfl
theorem s2_38 : mSnd 2 38 (a_goto 47) := snd_goto (by decide +kernel : decode (mBc 2) 38 = .ok (.goto 9, 3)) rfl
theorem s2_41 : mSnd 2 41 (a_iload 42 3) := snd_iload_n (by decide +kernel : decode (mBc 2) 41 = .ok (.iload_n 3, 1)) rfl rfl
theorem s2_42 : mSnd 2 42 (a_iload 44 5) := snd_iload (by decide +kernel : decode (mBc 2) 42 = .ok (.iload 5, 2)) rfl
theorem s2_44 : mSnd 2 44 (a_invS 47 220 2 0 0 0 0) := snd_invS k2_220 rfl rfl q618 q292 q9 (by decide +kernel) (by decide +kernel : decode (mBc 2) 44 = .ok (.invokestatic 43, 3)) rfl
theorem s2_47 : mSnd 2 47 (a_istore 48 3) := snd_istore_n (by decide +kernel : decode (mBc 2) 47 = .ok (.istore_n 3, 1)) rfl (by decide) rfl
theorem s2_48 : mSnd 2 48 (a_iinc 51 4 (iZ 1)) := snd_iinc (by decide +kernel : decode (mBc 2) 48 = .ok (.iinc 4 1, 3)) rfl (by decide) rfl
theorem s2_51 : mSnd 2 51 (a_goto 10) := snd_goto (by decide +kernel : decode (mBc 2) 51 = .ok (.goto (-41), 3)) rfl
theorem s2_54 : mSnd 2 54 (a_iload 55 3) := snd_iload_n (by decide +kernel : decode (mBc 2) 54 = .ok (.iload_n 3, 1)) rfl rfl
theorem s2_55 : mSnd 2 55 (a_iret 0 0) := snd_iret rfl rfl rfl (by decide +kernel : decode (mBc 2) 55 = .ok (.ireturn, 1))
theorem ok2 : mOkl2 2 ct2 := ⟨⟨s2_0, s2_1, s2_2, s2_3, s2_6, s2_7, s2_8, s2_10, s2_12, s2_13, s2_16, s2_19, trivial⟩, ⟨s2_20, s2_22, s2_23, s2_26, s2_28, s2_29, s2_32, s2_33, s2_35, s2_38, s2_41, s2_42, trivial⟩, ⟨s2_44, s2_47, s2_48, s2_51, s2_54, s2_55, trivial⟩, trivial⟩
theorem s3_0 : mSnd 3 0 (a_aload 1 0) := snd_aload_n (by decide +kernel : decode (mBc 3) 0 = .ok (.aload_n 0, 1)) rfl rfl
theorem s3_1 : mSnd 3 1 (a_push 2 (.int (iZ 0))) := snd_iconst (by decide +kernel : decode (mBc 3) 1 = .ok (.iconst 0, 1)) rfl rfl
theorem s3_2 : mSnd 3 2 (a_putf 5 0 0 [0]) := snd_putf f0 (by decide +kernel) q98 (Or.inl rfl) (Or.inl rfl) (by decide +kernel : decode (mBc 3) 2 = .ok (.putfield 9, 3)) rfl
theorem s3_5 : mSnd 3 5 (a_aload 6 0) := snd_aload_n (by decide +kernel : decode (mBc 3) 5 = .ok (.aload_n 0, 1)) rfl rfl
theorem s3_6 : mSnd 3 6 (a_aload 7 1) := snd_aload_n (by decide +kernel : decode (mBc 3) 6 = .ok (.aload_n 1, 1)) rfl rfl
theorem s3_7 : mSnd 3 7 (a_invV 10 1 0 0 [(0, 4, 0, 0)]) := snd_invV v3_46 rfl rfl (by decide +kernel : decode (mBc 3) 7 = .ok (.invokevirtual 46, 3)) rfl
theorem s3_10 : mSnd 3 10 (a_aload 11 0) := snd_aload_n (by decide +kernel : decode (mBc 3) 10 = .ok (.aload_n 0, 1)) rfl rfl
theorem s3_11 : mSnd 3 11 (a_invV 14 0 0 0 [(0, 5, 0, 0)]) := snd_invV v3_50 rfl rfl (by decide +kernel : decode (mBc 3) 11 = .ok (.invokevirtual 50, 3)) rfl
theorem s3_14 : mSnd 3 14 (a_if 17 18 (fun x => decide (¬ x = 0))) := snd_if_ne (by decide +kernel : decode (mBc 3) 14 = .ok (.ifCond .ne 4, 3)) rfl rfl
theorem s3_17 : mSnd 3 17 (a_vret 0 0) := snd_vret rfl rfl rfl (by decide +kernel : decode (mBc 3) 17 = .ok (.return_, 1))
theorem s3_18 : mSnd 3 18 (a_push 19 (.int (iZ 1))) := snd_iconst (by decide +kernel : decode (mBc 3) 18 = .ok (.iconst 1, 1)) rfl rfl
theorem s3_19 : mSnd 3 19 (a_istore 20 2) := snd_istore_n (by decide +kernel : decode (mBc 3) 19 = .ok (.istore_n 2, 1)) rfl (by decide) rfl
theorem s3_20 : mSnd 3 20 (a_iload 21 2) := snd_iload_n (by decide +kernel : decode (mBc 3) 20 = .ok (.iload_n 2, 1)) rfl rfl
theorem s3_21 : mSnd 3 21 (a_push 23 (.int (iZ 8))) := snd_bipush (by decide +kernel : decode (mBc 3) 21 = .ok (.bipush 8, 2)) (by decide +kernel) rfl
theorem s3_23 : mSnd 3 23 (a_icmp 26 74 (fun x y => decide (y ≤ x))) := snd_icmp_ge (by decide +kernel : decode (mBc 3) 23 = .ok (.if_icmp .ge 51, 3)) rfl rfl
theorem s3_26 : mSnd 3 26 (a_iload 27 2) := snd_iload_n (by decide +kernel : decode (mBc 3) 26 = .ok (.iload_n 2, 1)) rfl rfl
theorem s3_27 : mSnd 3 27 (a_push 28 (.int (iZ 1))) := snd_iconst (by decide +kernel : decode (mBc 3) 27 = .ok (.iconst 1, 1)) rfl rfl
theorem s3_28 : mSnd 3 28 (a_ii 29 (fun x y => x + y)) := snd_iadd (by decide +kernel : decode (mBc 3) 28 = .ok (.iadd, 1)) rfl
theorem s3_29 : mSnd 3 29 (a_istore 30 3) := snd_istore_n (by decide +kernel : decode (mBc 3) 29 = .ok (.istore_n 3, 1)) rfl (by decide) rfl
theorem s3_30 : mSnd 3 30 (a_iload 31 3) := snd_iload_n (by decide +kernel : decode (mBc 3) 30 = .ok (.iload_n 3, 1)) rfl rfl
theorem s3_31 : mSnd 3 31 (a_push 33 (.int (iZ 8))) := snd_bipush (by decide +kernel : decode (mBc 3) 31 = .ok (.bipush 8, 2)) (by decide +kernel) rfl
theorem s3_33 : mSnd 3 33 (a_icmp 36 68 (fun x y => decide (y ≤ x))) := snd_icmp_ge (by decide +kernel : decode (mBc 3) 33 = .ok (.if_icmp .ge 35, 3)) rfl rfl
theorem s3_36 : mSnd 3 36 (a_iload 37 3) := snd_iload_n (by decide +kernel : decode (mBc 3) 36 = .ok (.iload_n 3, 1)) rfl rfl
theorem s3_37 : mSnd 3 37 (a_push 38 (.int (iZ 1))) := snd_iconst (by decide +kernel : decode (mBc 3) 37 = .ok (.iconst 1, 1)) rfl rfl
theorem s3_38 : mSnd 3 38 (a_ii 39 (fun x y => x + y)) := snd_iadd (by decide +kernel : decode (mBc 3) 38 = .ok (.iadd, 1)) rfl
theorem s3_39 : mSnd 3 39 (a_istore 41 4) := snd_istore (by decide +kernel : decode (mBc 3) 39 = .ok (.istore 4, 2)) (by decide) rfl
theorem s3_41 : mSnd 3 41 (a_iload 43 4) := snd_iload (by decide +kernel : decode (mBc 3) 41 = .ok (.iload 4, 2)) rfl
theorem s3_43 : mSnd 3 43 (a_push 45 (.int (iZ 8))) := snd_bipush (by decide +kernel : decode (mBc 3) 43 = .ok (.bipush 8, 2)) (by decide +kernel) rfl
theorem s3_45 : mSnd 3 45 (a_icmp 48 62 (fun x y => decide (y ≤ x))) := snd_icmp_ge (by decide +kernel : decode (mBc 3) 45 = .ok (.if_icmp .ge 17, 3)) rfl rfl
theorem s3_48 : mSnd 3 48 (a_aload 49 0) := snd_aload_n (by decide +kernel : decode (mBc 3) 48 = .ok (.aload_n 0, 1)) rfl rfl
theorem s3_49 : mSnd 3 49 (a_iload 50 2) := snd_iload_n (by decide +kernel : decode (mBc 3) 49 = .ok (.iload_n 2, 1)) rfl rfl
theorem s3_50 : mSnd 3 50 (a_iload 51 3) := snd_iload_n (by decide +kernel : decode (mBc 3) 50 = .ok (.iload_n 3, 1)) rfl rfl
theorem s3_51 : mSnd 3 51 (a_iload 53 4) := snd_iload (by decide +kernel : decode (mBc 3) 51 = .ok (.iload 4, 2)) rfl
theorem s3_53 : mSnd 3 53 (a_invV 56 3 0 0 [(0, 6, 0, 0)]) := snd_invV v3_54 rfl rfl (by decide +kernel : decode (mBc 3) 53 = .ok (.invokevirtual 54, 3)) rfl
theorem s3_56 : mSnd 3 56 (a_iinc 59 4 (iZ 1)) := snd_iinc (by decide +kernel : decode (mBc 3) 56 = .ok (.iinc 4 1, 3)) rfl (by decide) rfl
theorem s3_59 : mSnd 3 59 (a_goto 41) := snd_goto (by decide +kernel : decode (mBc 3) 59 = .ok (.goto (-18), 3)) rfl
theorem s3_62 : mSnd 3 62 (a_iinc 65 3 (iZ 1)) := snd_iinc (by decide +kernel : decode (mBc 3) 62 = .ok (.iinc 3 1, 3)) rfl (by decide) rfl
theorem s3_65 : mSnd 3 65 (a_goto 30) := snd_goto (by decide +kernel : decode (mBc 3) 65 = .ok (.goto (-35), 3)) rfl
theorem s3_68 : mSnd 3 68 (a_iinc 71 2 (iZ 1)) := snd_iinc (by decide +kernel : decode (mBc 3) 68 = .ok (.iinc 2 1, 3)) rfl (by decide) rfl
theorem s3_71 : mSnd 3 71 (a_goto 20) := snd_goto (by decide +kernel : decode (mBc 3) 71 = .ok (.goto (-51), 3)) rfl
theorem s3_74 : mSnd 3 74 (a_vret 0 0) := snd_vret rfl rfl rfl (by decide +kernel : decode (mBc 3) 74 = .ok (.return_, 1))
theorem ok3 : mOkl2 3 ct3 := ⟨⟨s3_0, s3_1, s3_2, s3_5, s3_6, s3_7, s3_10, s3_11, s3_14, s3_17, s3_18, s3_19, trivial⟩, ⟨s3_20, s3_21, s3_23, s3_26, s3_27, s3_28, s3_29, s3_30, s3_31, s3_33, s3_36, s3_37, trivial⟩, ⟨s3_38, s3_39, s3_41, s3_43, s3_45, s3_48, s3_49, s3_50, s3_51, s3_53, s3_56, s3_59, trivial⟩, ⟨s3_62, s3_65, s3_68, s3_71, s3_74, trivial⟩, trivial⟩
theorem s4_0 : mSnd 4 0 (a_aload 1 1) := snd_aload_n (by decide +kernel : decode (mBc 4) 0 = .ok (.aload_n 1, 1)) rfl rfl
theorem s4_1 : mSnd 4 1 (a_invV 4 0 0 0 [(1, 42, 0, 0), (2, 42, 0, 0), (4, 42, 0, 0), (6, 42, 0, 0), (8, 42, 0, 0)]) := snd_invV v4_58 rfl rfl (by decide +kernel : decode (mBc 4) 1 = .ok (.invokevirtual 58, 3)) rfl
theorem s4_4 : mSnd 4 4 (a_istore 5 2) := snd_istore_n (by decide +kernel : decode (mBc 4) 4 = .ok (.istore_n 2, 1)) rfl (by decide) rfl
theorem s4_5 : mSnd 4 5 (a_aload 6 0) := snd_aload_n (by decide +kernel : decode (mBc 4) 5 = .ok (.aload_n 0, 1)) rfl rfl
theorem s4_6 : mSnd 4 6 (a_push 7 (.int (iZ 2))) := snd_iconst (by decide +kernel : decode (mBc 4) 6 = .ok (.iconst 2, 1)) rfl rfl
theorem s4_7 : mSnd 4 7 (a_aload 8 1) := snd_aload_n (by decide +kernel : decode (mBc 4) 7 = .ok (.aload_n 1, 1)) rfl rfl
theorem s4_8 : mSnd 4 8 (a_invV 11 0 0 0 [(1, 47, 0, 0), (2, 47, 0, 0), (4, 47, 0, 0), (6, 47, 0, 0), (8, 47, 0, 0)]) := snd_invV v4_64 rfl rfl (by decide +kernel : decode (mBc 4) 8 = .ok (.invokevirtual 64, 3)) rfl
theorem s4_11 : mSnd 4 11 (a_ii 12 (fun x y => x * y)) := snd_imul (by decide +kernel : decode (mBc 4) 11 = .ok (.imul, 1)) rfl
theorem s4_12 : mSnd 4 12 (a_putf 15 6 0 [0]) := snd_putf f6 (by decide +kernel) q105 (Or.inl rfl) (Or.inl rfl) (by decide +kernel : decode (mBc 4) 12 = .ok (.putfield 31, 3)) rfl
theorem s4_15 : mSnd 4 15 (a_push 16 (.int (iZ 0))) := snd_iconst (by decide +kernel : decode (mBc 4) 15 = .ok (.iconst 0, 1)) rfl rfl
theorem s4_16 : mSnd 4 16 (a_istore 17 3) := snd_istore_n (by decide +kernel : decode (mBc 4) 16 = .ok (.istore_n 3, 1)) rfl (by decide) rfl
theorem s4_17 : mSnd 4 17 (a_iload 18 3) := snd_iload_n (by decide +kernel : decode (mBc 4) 17 = .ok (.iload_n 3, 1)) rfl rfl
theorem s4_18 : mSnd 4 18 (a_push 20 (.int (iZ 8))) := snd_bipush (by decide +kernel : decode (mBc 4) 18 = .ok (.bipush 8, 2)) (by decide +kernel) rfl
theorem s4_20 : mSnd 4 20 (a_icmp 23 66 (fun x y => decide (y ≤ x))) := snd_icmp_ge (by decide +kernel : decode (mBc 4) 20 = .ok (.if_icmp .ge 46, 3)) rfl rfl
theorem s4_23 : mSnd 4 23 (a_aload 24 0) := snd_aload_n (by decide +kernel : decode (mBc 4) 23 = .ok (.aload_n 0, 1)) rfl rfl
theorem s4_24 : mSnd 4 24 (a_getf 27 3 [0]) := snd_getf f3 q102 (Or.inl rfl) (by decide +kernel : decode (mBc 4) 24 = .ok (.getfield 22, 3)) rfl
theorem s4_27 : mSnd 4 27 (a_iload 28 3) := snd_iload_n (by decide +kernel : decode (mBc 4) 27 = .ok (.iload_n 3, 1)) rfl rfl
theorem s4_28 : mSnd 4 28 (a_push 29 (.int (iZ 2))) := snd_iconst (by decide +kernel : decode (mBc 4) 28 = .ok (.iconst 2, 1)) rfl rfl
theorem s4_29 : mSnd 4 29 (a_aload 30 1) := snd_aload_n (by decide +kernel : decode (mBc 4) 29 = .ok (.aload_n 1, 1)) rfl rfl
theorem s4_30 : mSnd 4 30 (a_iload 31 3) := snd_iload_n (by decide +kernel : decode (mBc 4) 30 = .ok (.iload_n 3, 1)) rfl rfl
theorem s4_31 : mSnd 4 31 (a_iload 32 2) := snd_iload_n (by decide +kernel : decode (mBc 4) 31 = .ok (.iload_n 2, 1)) rfl rfl
theorem s4_32 : mSnd 4 32 (a_ii 33 (fun x y => x &&& y)) := snd_iand (by decide +kernel : decode (mBc 4) 32 = .ok (.iand, 1)) rfl
theorem s4_33 : mSnd 4 33 (a_invV 36 1 0 0 [(1, 46, 0, 0), (2, 46, 0, 0), (4, 46, 0, 0), (6, 46, 0, 0), (8, 46, 0, 0)]) := snd_invV v4_67 rfl rfl (by decide +kernel : decode (mBc 4) 33 = .ok (.invokevirtual 67, 3)) rfl
theorem s4_36 : mSnd 4 36 (a_ii 37 (fun x y => x * y)) := snd_imul (by decide +kernel : decode (mBc 4) 36 = .ok (.imul, 1)) rfl
theorem s4_37 : mSnd 4 37 (a_iast 38) := snd_iast (by decide +kernel : decode (mBc 4) 37 = .ok (.iastore, 1)) rfl
theorem s4_38 : mSnd 4 38 (a_aload 39 0) := snd_aload_n (by decide +kernel : decode (mBc 4) 38 = .ok (.aload_n 0, 1)) rfl rfl
theorem s4_39 : mSnd 4 39 (a_getf 42 4 [0]) := snd_getf f4 q103 (Or.inl rfl) (by decide +kernel : decode (mBc 4) 39 = .ok (.getfield 25, 3)) rfl
theorem s4_42 : mSnd 4 42 (a_iload 43 3) := snd_iload_n (by decide +kernel : decode (mBc 4) 42 = .ok (.iload_n 3, 1)) rfl rfl
theorem s4_43 : mSnd 4 43 (a_aload 44 0) := snd_aload_n (by decide +kernel : decode (mBc 4) 43 = .ok (.aload_n 0, 1)) rfl rfl
theorem s4_44 : mSnd 4 44 (a_getf 47 6 [0]) := snd_getf f6 q105 (Or.inl rfl) (by decide +kernel : decode (mBc 4) 44 = .ok (.getfield 31, 3)) rfl
theorem s4_47 : mSnd 4 47 (a_push 48 (.int (iZ 2))) := snd_iconst (by decide +kernel : decode (mBc 4) 47 = .ok (.iconst 2, 1)) rfl rfl
theorem s4_48 : mSnd 4 48 (a_aload 49 1) := snd_aload_n (by decide +kernel : decode (mBc 4) 48 = .ok (.aload_n 1, 1)) rfl rfl
theorem s4_49 : mSnd 4 49 (a_iload 50 2) := snd_iload_n (by decide +kernel : decode (mBc 4) 49 = .ok (.iload_n 2, 1)) rfl rfl
theorem s4_50 : mSnd 4 50 (a_iload 51 3) := snd_iload_n (by decide +kernel : decode (mBc 4) 50 = .ok (.iload_n 3, 1)) rfl rfl
theorem s4_51 : mSnd 4 51 (a_push 52 (.int (iZ (-1)))) := snd_iconst (by decide +kernel : decode (mBc 4) 51 = .ok (.iconst (-1), 1)) rfl rfl
theorem s4_52 : mSnd 4 52 (a_ii 53 (fun x y => x ^^^ y)) := snd_ixor (by decide +kernel : decode (mBc 4) 52 = .ok (.ixor, 1)) rfl
theorem s4_53 : mSnd 4 53 (a_ii 54 (fun x y => x &&& y)) := snd_iand (by decide +kernel : decode (mBc 4) 53 = .ok (.iand, 1)) rfl
theorem s4_54 : mSnd 4 54 (a_invV 57 1 0 0 [(1, 46, 0, 0), (2, 46, 0, 0), (4, 46, 0, 0), (6, 46, 0, 0), (8, 46, 0, 0)]) := snd_invV v4_67 rfl rfl (by decide +kernel : decode (mBc 4) 54 = .ok (.invokevirtual 67, 3)) rfl
theorem s4_57 : mSnd 4 57 (a_ii 58 (fun x y => x * y)) := snd_imul (by decide +kernel : decode (mBc 4) 57 = .ok (.imul, 1)) rfl
theorem s4_58 : mSnd 4 58 (a_ii 59 (fun x y => x - y)) := snd_isub (by decide +kernel : decode (mBc 4) 58 = .ok (.isub, 1)) rfl
theorem s4_59 : mSnd 4 59 (a_iast 60) := snd_iast (by decide +kernel : decode (mBc 4) 59 = .ok (.iastore, 1)) rfl
theorem s4_60 : mSnd 4 60 (a_iinc 63 3 (iZ 1)) := snd_iinc (by decide +kernel : decode (mBc 4) 60 = .ok (.iinc 3 1, 3)) rfl (by decide) rfl
theorem s4_63 : mSnd 4 63 (a_goto 17) := snd_goto (by decide +kernel : decode (mBc 4) 63 = .ok (.goto (-46), 3)) rfl
theorem s4_66 : mSnd 4 66 (a_vret 0 0) := snd_vret rfl rfl rfl (by decide +kernel : decode (mBc 4) 66 = .ok (.return_, 1))
theorem ok4 : mOkl2 4 ct4 := ⟨⟨s4_0, s4_1, s4_4, s4_5, s4_6, s4_7, s4_8, s4_11, s4_12, s4_15, s4_16, s4_17, trivial⟩, ⟨s4_18, s4_20, s4_23, s4_24, s4_27, s4_28, s4_29, s4_30, s4_31, s4_32, s4_33, s4_36, trivial⟩, ⟨s4_37, s4_38, s4_39, s4_42, s4_43, s4_44, s4_47, s4_48, s4_49, s4_50, s4_51, s4_52, trivial⟩, ⟨s4_53, s4_54, s4_57, s4_58, s4_59, s4_60, s4_63, s4_66, trivial⟩, trivial⟩
theorem s5_0 : mSnd 5 0 (a_push 1 (.int (iZ 1))) := snd_iconst (by decide +kernel : decode (mBc 5) 0 = .ok (.iconst 1, 1)) rfl rfl
theorem s5_1 : mSnd 5 1 (a_istore 2 1) := snd_istore_n (by decide +kernel : decode (mBc 5) 1 = .ok (.istore_n 1, 1)) rfl (by decide) rfl
theorem s5_2 : mSnd 5 2 (a_iload 3 1) := snd_iload_n (by decide +kernel : decode (mBc 5) 2 = .ok (.iload_n 1, 1)) rfl rfl
theorem s5_3 : mSnd 5 3 (a_push 5 (.int (iZ 8))) := snd_bipush (by decide +kernel : decode (mBc 5) 3 = .ok (.bipush 8, 2)) (by decide +kernel) rfl
theorem s5_5 : mSnd 5 5 (a_icmp 8 31 (fun x y => decide (y ≤ x))) := snd_icmp_ge (by decide +kernel : decode (mBc 5) 5 = .ok (.if_icmp .ge 26, 3)) rfl rfl
theorem s5_8 : mSnd 5 8 (a_aload 9 0) := snd_aload_n (by decide +kernel : decode (mBc 5) 8 = .ok (.aload_n 0, 1)) rfl rfl
theorem s5_9 : mSnd 5 9 (a_getf 12 3 [0]) := snd_getf f3 q102 (Or.inl rfl) (by decide +kernel : decode (mBc 5) 9 = .ok (.getfield 22, 3)) rfl
theorem s5_12 : mSnd 5 12 (a_iload 13 1) := snd_iload_n (by decide +kernel : decode (mBc 5) 12 = .ok (.iload_n 1, 1)) rfl rfl
theorem s5_13 : mSnd 5 13 (a_iald 14) := snd_iald (by decide +kernel : decode (mBc 5) 13 = .ok (.iaload, 1)) rfl
theorem s5_14 : mSnd 5 14 (a_aload 15 0) := snd_aload_n (by decide +kernel : decode (mBc 5) 14 = .ok (.aload_n 0, 1)) rfl rfl
theorem s5_15 : mSnd 5 15 (a_getf 18 4 [0]) := snd_getf f4 q103 (Or.inl rfl) (by decide +kernel : decode (mBc 5) 15 = .ok (.getfield 25, 3)) rfl
theorem s5_18 : mSnd 5 18 (a_iload 19 1) := snd_iload_n (by decide +kernel : decode (mBc 5) 18 = .ok (.iload_n 1, 1)) rfl rfl
theorem s5_19 : mSnd 5 19 (a_iald 20) := snd_iald (by decide +kernel : decode (mBc 5) 19 = .ok (.iaload, 1)) rfl
theorem s5_20 : mSnd 5 20 (a_icmp 23 25 (fun x y => decide (x ≤ y))) := snd_icmp_le (by decide +kernel : decode (mBc 5) 20 = .ok (.if_icmp .le 5, 3)) rfl rfl
theorem s5_23 : mSnd 5 23 (a_push 24 (.int (iZ 0))) := snd_iconst (by decide +kernel : decode (mBc 5) 23 = .ok (.iconst 0, 1)) rfl rfl
theorem s5_24 : mSnd 5 24 (a_zret 0 0) := snd_zret rfl rfl rfl (by decide +kernel : decode (mBc 5) 24 = .ok (.ireturn, 1))
theorem s5_25 : mSnd 5 25 (a_iinc 28 1 (iZ 1)) := snd_iinc (by decide +kernel : decode (mBc 5) 25 = .ok (.iinc 1 1, 3)) rfl (by decide) rfl
theorem s5_28 : mSnd 5 28 (a_goto 2) := snd_goto (by decide +kernel : decode (mBc 5) 28 = .ok (.goto (-26), 3)) rfl
theorem s5_31 : mSnd 5 31 (a_push 32 (.int (iZ 1))) := snd_iconst (by decide +kernel : decode (mBc 5) 31 = .ok (.iconst 1, 1)) rfl rfl
theorem s5_32 : mSnd 5 32 (a_zret 0 0) := snd_zret rfl rfl rfl (by decide +kernel : decode (mBc 5) 32 = .ok (.ireturn, 1))
theorem ok5 : mOkl2 5 ct5 := ⟨⟨s5_0, s5_1, s5_2, s5_3, s5_5, s5_8, s5_9, s5_12, s5_13, s5_14, s5_15, s5_18, trivial⟩, ⟨s5_19, s5_20, s5_23, s5_24, s5_25, s5_28, s5_31, s5_32, trivial⟩, trivial⟩
theorem s6_0 : mSnd 6 0 (a_push 1 (.int (iZ 0))) := snd_iconst (by decide +kernel : decode (mBc 6) 0 = .ok (.iconst 0, 1)) rfl rfl
theorem s6_1 : mSnd 6 1 (a_istore 3 4) := snd_istore (by decide +kernel : decode (mBc 6) 1 = .ok (.istore 4, 2)) (by decide) rfl
theorem s6_3 : mSnd 6 3 (a_push 4 (.int (iZ 0))) := snd_iconst (by decide +kernel : decode (mBc 6) 3 = .ok (.iconst 0, 1)) rfl rfl
theorem s6_4 : mSnd 6 4 (a_istore 6 5) := snd_istore (by decide +kernel : decode (mBc 6) 4 = .ok (.istore 5, 2)) (by decide) rfl
theorem s6_6 : mSnd 6 6 (a_iload 8 5) := snd_iload (by decide +kernel : decode (mBc 6) 6 = .ok (.iload 5, 2)) rfl
theorem s6_8 : mSnd 6 8 (a_push 9 (.int (iZ 3))) := snd_iconst (by decide +kernel : decode (mBc 6) 8 = .ok (.iconst 3, 1)) rfl rfl
theorem s6_9 : mSnd 6 9 (a_icmp 12 37 (fun x y => decide (y ≤ x))) := snd_icmp_ge (by decide +kernel : decode (mBc 6) 9 = .ok (.if_icmp .ge 28, 3)) rfl rfl
theorem s6_12 : mSnd 6 12 (a_iload 14 4) := snd_iload (by decide +kernel : decode (mBc 6) 12 = .ok (.iload 4, 2)) rfl
theorem s6_14 : mSnd 6 14 (a_iload 15 1) := snd_iload_n (by decide +kernel : decode (mBc 6) 14 = .ok (.iload_n 1, 1)) rfl rfl
theorem s6_15 : mSnd 6 15 (a_iload 17 5) := snd_iload (by decide +kernel : decode (mBc 6) 15 = .ok (.iload 5, 2)) rfl
theorem s6_17 : mSnd 6 17 (a_invS 20 126 2 0 0 0 0) := snd_invSN (host := "JointWorks") k6_126 rfl rfl (by decide +kernel) q229 q1 (by decide +kernel) (by decide +kernel : decode (mBc 6) 17 = .ok (.invokestatic 71, 3)) rfl
theorem s6_20 : mSnd 6 20 (a_iload 21 2) := snd_iload_n (by decide +kernel : decode (mBc 6) 20 = .ok (.iload_n 2, 1)) rfl rfl
theorem s6_21 : mSnd 6 21 (a_iload 22 3) := snd_iload_n (by decide +kernel : decode (mBc 6) 21 = .ok (.iload_n 3, 1)) rfl rfl
theorem s6_22 : mSnd 6 22 (a_iload 24 5) := snd_iload (by decide +kernel : decode (mBc 6) 22 = .ok (.iload 5, 2)) rfl
theorem s6_24 : mSnd 6 24 (a_invS 27 7 3 0 0 0 0) := snd_invS k6_7 rfl rfl q415 q416 q6 (by decide +kernel) (by decide +kernel : decode (mBc 6) 24 = .ok (.invokestatic 74, 3)) rfl
theorem s6_27 : mSnd 6 27 (a_ii 28 (fun x y => x * y)) := snd_imul (by decide +kernel : decode (mBc 6) 27 = .ok (.imul, 1)) rfl
theorem s6_28 : mSnd 6 28 (a_ii 29 (fun x y => x + y)) := snd_iadd (by decide +kernel : decode (mBc 6) 28 = .ok (.iadd, 1)) rfl
theorem s6_29 : mSnd 6 29 (a_istore 31 4) := snd_istore (by decide +kernel : decode (mBc 6) 29 = .ok (.istore 4, 2)) (by decide) rfl
theorem s6_31 : mSnd 6 31 (a_iinc 34 5 (iZ 1)) := snd_iinc (by decide +kernel : decode (mBc 6) 31 = .ok (.iinc 5 1, 3)) rfl (by decide) rfl
theorem s6_34 : mSnd 6 34 (a_goto 6) := snd_goto (by decide +kernel : decode (mBc 6) 34 = .ok (.goto (-28), 3)) rfl
theorem s6_37 : mSnd 6 37 (a_iload 39 4) := snd_iload (by decide +kernel : decode (mBc 6) 37 = .ok (.iload 4, 2)) rfl
theorem s6_39 : mSnd 6 39 (a_if 42 43 (fun x => decide (¬ x = 0))) := snd_if_ne (by decide +kernel : decode (mBc 6) 39 = .ok (.ifCond .ne 4, 3)) rfl rfl
theorem s6_42 : mSnd 6 42 (a_vret 0 0) := snd_vret rfl rfl rfl (by decide +kernel : decode (mBc 6) 42 = .ok (.return_, 1))
theorem s6_43 : mSnd 6 43 (a_push 44 (.int (iZ 0))) := snd_iconst (by decide +kernel : decode (mBc 6) 43 = .ok (.iconst 0, 1)) rfl rfl
theorem s6_44 : mSnd 6 44 (a_istore 46 5) := snd_istore (by decide +kernel : decode (mBc 6) 44 = .ok (.istore 5, 2)) (by decide) rfl
theorem s6_46 : mSnd 6 46 (a_iload 48 5) := snd_iload (by decide +kernel : decode (mBc 6) 46 = .ok (.iload 5, 2)) rfl
theorem s6_48 : mSnd 6 48 (a_push 49 (.int (iZ 3))) := snd_iconst (by decide +kernel : decode (mBc 6) 48 = .ok (.iconst 3, 1)) rfl rfl
theorem s6_49 : mSnd 6 49 (a_icmp 52 110 (fun x y => decide (y ≤ x))) := snd_icmp_ge (by decide +kernel : decode (mBc 6) 49 = .ok (.if_icmp .ge 61, 3)) rfl rfl
theorem s6_52 : mSnd 6 52 (a_aload 53 0) := snd_aload_n (by decide +kernel : decode (mBc 6) 52 = .ok (.aload_n 0, 1)) rfl rfl
theorem s6_53 : mSnd 6 53 (a_getf 56 5 [0]) := snd_getf f5 q104 (Or.inl rfl) (by decide +kernel : decode (mBc 6) 53 = .ok (.getfield 28, 3)) rfl
theorem s6_56 : mSnd 6 56 (a_push 57 (.int (iZ 3))) := snd_iconst (by decide +kernel : decode (mBc 6) 56 = .ok (.iconst 3, 1)) rfl rfl
theorem s6_57 : mSnd 6 57 (a_iload 59 5) := snd_iload (by decide +kernel : decode (mBc 6) 57 = .ok (.iload 5, 2)) rfl
theorem s6_59 : mSnd 6 59 (a_ii 60 (fun x y => x * y)) := snd_imul (by decide +kernel : decode (mBc 6) 59 = .ok (.imul, 1)) rfl
theorem s6_60 : mSnd 6 60 (a_iload 61 2) := snd_iload_n (by decide +kernel : decode (mBc 6) 60 = .ok (.iload_n 2, 1)) rfl rfl
theorem s6_61 : mSnd 6 61 (a_iload 62 3) := snd_iload_n (by decide +kernel : decode (mBc 6) 61 = .ok (.iload_n 3, 1)) rfl rfl
theorem s6_62 : mSnd 6 62 (a_iload 64 5) := snd_iload (by decide +kernel : decode (mBc 6) 62 = .ok (.iload 5, 2)) rfl
theorem s6_64 : mSnd 6 64 (a_invS 67 7 3 0 0 0 0) := snd_invS k6_7 rfl rfl q415 q416 q6 (by decide +kernel) (by decide +kernel : decode (mBc 6) 64 = .ok (.invokestatic 74, 3)) rfl
theorem s6_67 : mSnd 6 67 (a_iast 68) := snd_iast (by decide +kernel : decode (mBc 6) 67 = .ok (.iastore, 1)) rfl
theorem s6_68 : mSnd 6 68 (a_aload 69 0) := snd_aload_n (by decide +kernel : decode (mBc 6) 68 = .ok (.aload_n 0, 1)) rfl rfl
theorem s6_69 : mSnd 6 69 (a_getf 72 5 [0]) := snd_getf f5 q104 (Or.inl rfl) (by decide +kernel : decode (mBc 6) 69 = .ok (.getfield 28, 3)) rfl
theorem s6_72 : mSnd 6 72 (a_push 73 (.int (iZ 3))) := snd_iconst (by decide +kernel : decode (mBc 6) 72 = .ok (.iconst 3, 1)) rfl rfl
theorem s6_73 : mSnd 6 73 (a_iload 75 5) := snd_iload (by decide +kernel : decode (mBc 6) 73 = .ok (.iload 5, 2)) rfl
theorem s6_75 : mSnd 6 75 (a_ii 76 (fun x y => x * y)) := snd_imul (by decide +kernel : decode (mBc 6) 75 = .ok (.imul, 1)) rfl
theorem s6_76 : mSnd 6 76 (a_push 77 (.int (iZ 1))) := snd_iconst (by decide +kernel : decode (mBc 6) 76 = .ok (.iconst 1, 1)) rfl rfl
theorem s6_77 : mSnd 6 77 (a_ii 78 (fun x y => x + y)) := snd_iadd (by decide +kernel : decode (mBc 6) 77 = .ok (.iadd, 1)) rfl
theorem s6_78 : mSnd 6 78 (a_iload 79 3) := snd_iload_n (by decide +kernel : decode (mBc 6) 78 = .ok (.iload_n 3, 1)) rfl rfl
theorem s6_79 : mSnd 6 79 (a_iload 80 1) := snd_iload_n (by decide +kernel : decode (mBc 6) 79 = .ok (.iload_n 1, 1)) rfl rfl
theorem s6_80 : mSnd 6 80 (a_iload 82 5) := snd_iload (by decide +kernel : decode (mBc 6) 80 = .ok (.iload 5, 2)) rfl
theorem s6_82 : mSnd 6 82 (a_invS 85 7 3 0 0 0 0) := snd_invS k6_7 rfl rfl q415 q416 q6 (by decide +kernel) (by decide +kernel : decode (mBc 6) 82 = .ok (.invokestatic 74, 3)) rfl
theorem s6_85 : mSnd 6 85 (a_iast 86) := snd_iast (by decide +kernel : decode (mBc 6) 85 = .ok (.iastore, 1)) rfl
theorem s6_86 : mSnd 6 86 (a_aload 87 0) := snd_aload_n (by decide +kernel : decode (mBc 6) 86 = .ok (.aload_n 0, 1)) rfl rfl
theorem s6_87 : mSnd 6 87 (a_getf 90 5 [0]) := snd_getf f5 q104 (Or.inl rfl) (by decide +kernel : decode (mBc 6) 87 = .ok (.getfield 28, 3)) rfl
theorem s6_90 : mSnd 6 90 (a_push 91 (.int (iZ 3))) := snd_iconst (by decide +kernel : decode (mBc 6) 90 = .ok (.iconst 3, 1)) rfl rfl
theorem s6_91 : mSnd 6 91 (a_iload 93 5) := snd_iload (by decide +kernel : decode (mBc 6) 91 = .ok (.iload 5, 2)) rfl
theorem s6_93 : mSnd 6 93 (a_ii 94 (fun x y => x * y)) := snd_imul (by decide +kernel : decode (mBc 6) 93 = .ok (.imul, 1)) rfl
theorem s6_94 : mSnd 6 94 (a_push 95 (.int (iZ 2))) := snd_iconst (by decide +kernel : decode (mBc 6) 94 = .ok (.iconst 2, 1)) rfl rfl
theorem s6_95 : mSnd 6 95 (a_ii 96 (fun x y => x + y)) := snd_iadd (by decide +kernel : decode (mBc 6) 95 = .ok (.iadd, 1)) rfl
theorem s6_96 : mSnd 6 96 (a_iload 97 1) := snd_iload_n (by decide +kernel : decode (mBc 6) 96 = .ok (.iload_n 1, 1)) rfl rfl
theorem s6_97 : mSnd 6 97 (a_iload 98 2) := snd_iload_n (by decide +kernel : decode (mBc 6) 97 = .ok (.iload_n 2, 1)) rfl rfl
theorem s6_98 : mSnd 6 98 (a_iload 100 5) := snd_iload (by decide +kernel : decode (mBc 6) 98 = .ok (.iload 5, 2)) rfl
theorem s6_100 : mSnd 6 100 (a_invS 103 7 3 0 0 0 0) := snd_invS k6_7 rfl rfl q415 q416 q6 (by decide +kernel) (by decide +kernel : decode (mBc 6) 100 = .ok (.invokestatic 74, 3)) rfl
theorem s6_103 : mSnd 6 103 (a_iast 104) := snd_iast (by decide +kernel : decode (mBc 6) 103 = .ok (.iastore, 1)) rfl
theorem s6_104 : mSnd 6 104 (a_iinc 107 5 (iZ 1)) := snd_iinc (by decide +kernel : decode (mBc 6) 104 = .ok (.iinc 5 1, 3)) rfl (by decide) rfl
theorem s6_107 : mSnd 6 107 (a_goto 46) := snd_goto (by decide +kernel : decode (mBc 6) 107 = .ok (.goto (-61), 3)) rfl
theorem s6_110 : mSnd 6 110 (a_push 111 (.int (iZ 0))) := snd_iconst (by decide +kernel : decode (mBc 6) 110 = .ok (.iconst 0, 1)) rfl rfl
theorem s6_111 : mSnd 6 111 (a_istore 113 5) := snd_istore (by decide +kernel : decode (mBc 6) 111 = .ok (.istore 5, 2)) (by decide) rfl
theorem s6_113 : mSnd 6 113 (a_iload 115 5) := snd_iload (by decide +kernel : decode (mBc 6) 113 = .ok (.iload 5, 2)) rfl
theorem s6_115 : mSnd 6 115 (a_push 117 (.int (iZ 8))) := snd_bipush (by decide +kernel : decode (mBc 6) 115 = .ok (.bipush 8, 2)) (by decide +kernel) rfl
theorem s6_117 : mSnd 6 117 (a_icmp 120 176 (fun x y => decide (y ≤ x))) := snd_icmp_ge (by decide +kernel : decode (mBc 6) 117 = .ok (.if_icmp .ge 59, 3)) rfl rfl
theorem s6_120 : mSnd 6 120 (a_aload 121 0) := snd_aload_n (by decide +kernel : decode (mBc 6) 120 = .ok (.aload_n 0, 1)) rfl rfl
theorem s6_121 : mSnd 6 121 (a_aload 122 0) := snd_aload_n (by decide +kernel : decode (mBc 6) 121 = .ok (.aload_n 0, 1)) rfl rfl
theorem s6_122 : mSnd 6 122 (a_iload 123 1) := snd_iload_n (by decide +kernel : decode (mBc 6) 122 = .ok (.iload_n 1, 1)) rfl rfl
theorem s6_123 : mSnd 6 123 (a_iload 125 5) := snd_iload (by decide +kernel : decode (mBc 6) 123 = .ok (.iload 5, 2)) rfl
theorem s6_125 : mSnd 6 125 (a_push 126 (.int (iZ 0))) := snd_iconst (by decide +kernel : decode (mBc 6) 125 = .ok (.iconst 0, 1)) rfl rfl
theorem s6_126 : mSnd 6 126 (a_invS 129 126 2 0 0 0 0) := snd_invSN (host := "JointWorks") k6_126 rfl rfl (by decide +kernel) q229 q1 (by decide +kernel) (by decide +kernel : decode (mBc 6) 126 = .ok (.invokestatic 71, 3)) rfl
theorem s6_129 : mSnd 6 129 (a_invV 132 2 0 0 [(0, 8, 0, 0)]) := snd_invV v6_78 rfl rfl (by decide +kernel : decode (mBc 6) 129 = .ok (.invokevirtual 78, 3)) rfl
theorem s6_132 : mSnd 6 132 (a_aload 133 0) := snd_aload_n (by decide +kernel : decode (mBc 6) 132 = .ok (.aload_n 0, 1)) rfl rfl
theorem s6_133 : mSnd 6 133 (a_iload 134 2) := snd_iload_n (by decide +kernel : decode (mBc 6) 133 = .ok (.iload_n 2, 1)) rfl rfl
theorem s6_134 : mSnd 6 134 (a_iload 136 5) := snd_iload (by decide +kernel : decode (mBc 6) 134 = .ok (.iload 5, 2)) rfl
theorem s6_136 : mSnd 6 136 (a_push 137 (.int (iZ 1))) := snd_iconst (by decide +kernel : decode (mBc 6) 136 = .ok (.iconst 1, 1)) rfl rfl
theorem s6_137 : mSnd 6 137 (a_invS 140 126 2 0 0 0 0) := snd_invSN (host := "JointWorks") k6_126 rfl rfl (by decide +kernel) q229 q1 (by decide +kernel) (by decide +kernel : decode (mBc 6) 137 = .ok (.invokestatic 71, 3)) rfl
theorem s6_140 : mSnd 6 140 (a_invV 143 2 0 0 [(0, 8, 0, 0)]) := snd_invV v6_78 rfl rfl (by decide +kernel : decode (mBc 6) 140 = .ok (.invokevirtual 78, 3)) rfl
theorem s6_143 : mSnd 6 143 (a_aload 144 0) := snd_aload_n (by decide +kernel : decode (mBc 6) 143 = .ok (.aload_n 0, 1)) rfl rfl
theorem s6_144 : mSnd 6 144 (a_iload 145 3) := snd_iload_n (by decide +kernel : decode (mBc 6) 144 = .ok (.iload_n 3, 1)) rfl rfl
theorem s6_145 : mSnd 6 145 (a_iload 147 5) := snd_iload (by decide +kernel : decode (mBc 6) 145 = .ok (.iload 5, 2)) rfl
theorem s6_147 : mSnd 6 147 (a_push 148 (.int (iZ 2))) := snd_iconst (by decide +kernel : decode (mBc 6) 147 = .ok (.iconst 2, 1)) rfl rfl
theorem s6_148 : mSnd 6 148 (a_invS 151 126 2 0 0 0 0) := snd_invSN (host := "JointWorks") k6_126 rfl rfl (by decide +kernel) q229 q1 (by decide +kernel) (by decide +kernel : decode (mBc 6) 148 = .ok (.invokestatic 71, 3)) rfl
theorem s6_151 : mSnd 6 151 (a_invV 154 2 0 0 [(0, 8, 0, 0)]) := snd_invV v6_78 rfl rfl (by decide +kernel : decode (mBc 6) 151 = .ok (.invokevirtual 78, 3)) rfl
theorem s6_154 : mSnd 6 154 (a_iload 156 4) := snd_iload (by decide +kernel : decode (mBc 6) 154 = .ok (.iload 4, 2)) rfl
theorem s6_156 : mSnd 6 156 (a_invV 159 4 0 0 [(0, 9, 0, 0)]) := snd_invV v6_81 rfl rfl (by decide +kernel : decode (mBc 6) 156 = .ok (.invokevirtual 81, 3)) rfl
theorem s6_159 : mSnd 6 159 (a_aload 160 0) := snd_aload_n (by decide +kernel : decode (mBc 6) 159 = .ok (.aload_n 0, 1)) rfl rfl
theorem s6_160 : mSnd 6 160 (a_invV 163 0 0 0 [(0, 10, 0, 0)]) := snd_invV v6_85 rfl rfl (by decide +kernel : decode (mBc 6) 160 = .ok (.invokevirtual 85, 3)) rfl
theorem s6_163 : mSnd 6 163 (a_if 166 170 (fun x => decide (x = 0))) := snd_if_eq (by decide +kernel : decode (mBc 6) 163 = .ok (.ifCond .eq 7, 3)) rfl rfl
theorem s6_166 : mSnd 6 166 (a_aload 167 0) := snd_aload_n (by decide +kernel : decode (mBc 6) 166 = .ok (.aload_n 0, 1)) rfl rfl
theorem s6_167 : mSnd 6 167 (a_invV 170 0 0 0 [(0, 12, 0, 0)]) := snd_invV v6_88 rfl rfl (by decide +kernel : decode (mBc 6) 167 = .ok (.invokevirtual 88, 3)) rfl
theorem s6_170 : mSnd 6 170 (a_iinc 173 5 (iZ 1)) := snd_iinc (by decide +kernel : decode (mBc 6) 170 = .ok (.iinc 5 1, 3)) rfl (by decide) rfl
theorem s6_173 : mSnd 6 173 (a_goto 113) := snd_goto (by decide +kernel : decode (mBc 6) 173 = .ok (.goto (-60), 3)) rfl
theorem s6_176 : mSnd 6 176 (a_vret 0 0) := snd_vret rfl rfl rfl (by decide +kernel : decode (mBc 6) 176 = .ok (.return_, 1))
theorem ok6 : mOkl2 6 ct6 := ⟨⟨s6_0, s6_1, s6_3, s6_4, s6_6, s6_8, s6_9, s6_12, s6_14, s6_15, s6_17, s6_20, trivial⟩, ⟨s6_21, s6_22, s6_24, s6_27, s6_28, s6_29, s6_31, s6_34, s6_37, s6_39, s6_42, s6_43, trivial⟩, ⟨s6_44, s6_46, s6_48, s6_49, s6_52, s6_53, s6_56, s6_57, s6_59, s6_60, s6_61, s6_62, trivial⟩, ⟨s6_64, s6_67, s6_68, s6_69, s6_72, s6_73, s6_75, s6_76, s6_77, s6_78, s6_79, s6_80, trivial⟩, ⟨s6_82, s6_85, s6_86, s6_87, s6_90, s6_91, s6_93, s6_94, s6_95, s6_96, s6_97, s6_98, trivial⟩, ⟨s6_100, s6_103, s6_104, s6_107, s6_110, s6_111, s6_113, s6_115, s6_117, s6_120, s6_121, s6_122, trivial⟩, ⟨s6_123, s6_125, s6_126, s6_129, s6_132, s6_133, s6_134, s6_136, s6_137, s6_140, s6_143, s6_144, trivial⟩, ⟨s6_145, s6_147, s6_148, s6_151, s6_154, s6_156, s6_159, s6_160, s6_163, s6_166, s6_167, s6_170, trivial⟩, ⟨s6_173, s6_176, trivial⟩, trivial⟩
theorem s7_0 : mSnd 7 0 (a_iload 1 2) := snd_iload_n (by decide +kernel : decode (mBc 7) 0 = .ok (.iload_n 2, 1)) rfl rfl
theorem s7_1 : mSnd 7 1 (a_push 2 (.int (iZ 2))) := snd_iconst (by decide +kernel : decode (mBc 7) 1 = .ok (.iconst 2, 1)) rfl rfl
theorem s7_2 : mSnd 7 2 (a_icmp 5 9 (fun x y => decide (¬ x = y))) := snd_icmp_ne (by decide +kernel : decode (mBc 7) 2 = .ok (.if_icmp .ne 7, 3)) rfl rfl
theorem s7_5 : mSnd 7 5 (a_push 6 (.int (iZ 0))) := snd_iconst (by decide +kernel : decode (mBc 7) 5 = .ok (.iconst 0, 1)) rfl rfl
theorem s7_6 : mSnd 7 6 (a_goto 12) := snd_goto (by decide +kernel : decode (mBc 7) 6 = .ok (.goto 6, 3)) rfl
theorem s7_9 : mSnd 7 9 (a_iload 10 2) := snd_iload_n (by decide +kernel : decode (mBc 7) 9 = .ok (.iload_n 2, 1)) rfl rfl
theorem s7_10 : mSnd 7 10 (a_push 11 (.int (iZ 1))) := snd_iconst (by decide +kernel : decode (mBc 7) 10 = .ok (.iconst 1, 1)) rfl rfl
theorem s7_11 : mSnd 7 11 (a_ii 12 (fun x y => x + y)) := snd_iadd (by decide +kernel : decode (mBc 7) 11 = .ok (.iadd, 1)) rfl
theorem s7_12 : mSnd 7 12 (a_istore 13 3) := snd_istore_n (by decide +kernel : decode (mBc 7) 12 = .ok (.istore_n 3, 1)) rfl (by decide) rfl
theorem s7_13 : mSnd 7 13 (a_iload 14 2) := snd_iload_n (by decide +kernel : decode (mBc 7) 13 = .ok (.iload_n 2, 1)) rfl rfl
theorem s7_14 : mSnd 7 14 (a_if 17 21 (fun x => decide (¬ x = 0))) := snd_if_ne (by decide +kernel : decode (mBc 7) 14 = .ok (.ifCond .ne 7, 3)) rfl rfl
theorem s7_17 : mSnd 7 17 (a_push 18 (.int (iZ 2))) := snd_iconst (by decide +kernel : decode (mBc 7) 17 = .ok (.iconst 2, 1)) rfl rfl
theorem s7_18 : mSnd 7 18 (a_goto 24) := snd_goto (by decide +kernel : decode (mBc 7) 18 = .ok (.goto 6, 3)) rfl
theorem s7_21 : mSnd 7 21 (a_iload 22 2) := snd_iload_n (by decide +kernel : decode (mBc 7) 21 = .ok (.iload_n 2, 1)) rfl rfl
theorem s7_22 : mSnd 7 22 (a_push 23 (.int (iZ 1))) := snd_iconst (by decide +kernel : decode (mBc 7) 22 = .ok (.iconst 1, 1)) rfl rfl
theorem s7_23 : mSnd 7 23 (a_ii 24 (fun x y => x - y)) := snd_isub (by decide +kernel : decode (mBc 7) 23 = .ok (.isub, 1)) rfl
theorem s7_24 : mSnd 7 24 (a_istore 26 4) := snd_istore (by decide +kernel : decode (mBc 7) 24 = .ok (.istore 4, 2)) (by decide) rfl
theorem s7_26 : mSnd 7 26 (a_iload 27 0) := snd_iload_n (by decide +kernel : decode (mBc 7) 26 = .ok (.iload_n 0, 1)) rfl rfl
theorem s7_27 : mSnd 7 27 (a_iload 28 3) := snd_iload_n (by decide +kernel : decode (mBc 7) 27 = .ok (.iload_n 3, 1)) rfl rfl
theorem s7_28 : mSnd 7 28 (a_invS 31 126 2 0 0 0 0) := snd_invSN (host := "JointWorks") k7_126 rfl rfl (by decide +kernel) q229 q1 (by decide +kernel) (by decide +kernel : decode (mBc 7) 28 = .ok (.invokestatic 71, 3)) rfl
theorem s7_31 : mSnd 7 31 (a_iload 32 1) := snd_iload_n (by decide +kernel : decode (mBc 7) 31 = .ok (.iload_n 1, 1)) rfl rfl
theorem s7_32 : mSnd 7 32 (a_iload 34 4) := snd_iload (by decide +kernel : decode (mBc 7) 32 = .ok (.iload 4, 2)) rfl
theorem s7_34 : mSnd 7 34 (a_invS 37 126 2 0 0 0 0) := snd_invSN (host := "JointWorks") k7_126 rfl rfl (by decide +kernel) q229 q1 (by decide +kernel) (by decide +kernel : decode (mBc 7) 34 = .ok (.invokestatic 71, 3)) rfl
theorem s7_37 : mSnd 7 37 (a_ii 38 (fun x y => x * y)) := snd_imul (by decide +kernel : decode (mBc 7) 37 = .ok (.imul, 1)) rfl
theorem s7_38 : mSnd 7 38 (a_iload 39 0) := snd_iload_n (by decide +kernel : decode (mBc 7) 38 = .ok (.iload_n 0, 1)) rfl rfl
theorem s7_39 : mSnd 7 39 (a_iload 41 4) := snd_iload (by decide +kernel : decode (mBc 7) 39 = .ok (.iload 4, 2)) rfl
theorem s7_41 : mSnd 7 41 (a_invS 44 126 2 0 0 0 0) := snd_invSN (host := "JointWorks") k7_126 rfl rfl (by decide +kernel) q229 q1 (by decide +kernel) (by decide +kernel : decode (mBc 7) 41 = .ok (.invokestatic 71, 3)) rfl
theorem s7_44 : mSnd 7 44 (a_iload 45 1) := snd_iload_n (by decide +kernel : decode (mBc 7) 44 = .ok (.iload_n 1, 1)) rfl rfl
theorem s7_45 : mSnd 7 45 (a_iload 46 3) := snd_iload_n (by decide +kernel : decode (mBc 7) 45 = .ok (.iload_n 3, 1)) rfl rfl
theorem s7_46 : mSnd 7 46 (a_invS 49 126 2 0 0 0 0) := snd_invSN (host := "JointWorks") k7_126 rfl rfl (by decide +kernel) q229 q1 (by decide +kernel) (by decide +kernel : decode (mBc 7) 46 = .ok (.invokestatic 71, 3)) rfl
theorem s7_49 : mSnd 7 49 (a_ii 50 (fun x y => x * y)) := snd_imul (by decide +kernel : decode (mBc 7) 49 = .ok (.imul, 1)) rfl
theorem s7_50 : mSnd 7 50 (a_ii 51 (fun x y => x - y)) := snd_isub (by decide +kernel : decode (mBc 7) 50 = .ok (.isub, 1)) rfl
theorem s7_51 : mSnd 7 51 (a_iret 0 0) := snd_iret rfl rfl rfl (by decide +kernel : decode (mBc 7) 51 = .ok (.ireturn, 1))
theorem ok7 : mOkl2 7 ct7 := ⟨⟨s7_0, s7_1, s7_2, s7_5, s7_6, s7_9, s7_10, s7_11, s7_12, s7_13, s7_14, s7_17, trivial⟩, ⟨s7_18, s7_21, s7_22, s7_23, s7_24, s7_26, s7_27, s7_28, s7_31, s7_32, s7_34, s7_37, trivial⟩, ⟨s7_38, s7_39, s7_41, s7_44, s7_45, s7_46, s7_49, s7_50, s7_51, trivial⟩, trivial⟩
theorem s8_0 : mSnd 8 0 (a_iload 1 1) := snd_iload_n (by decide +kernel : decode (mBc 8) 0 = .ok (.iload_n 1, 1)) rfl rfl
theorem s8_1 : mSnd 8 1 (a_if 4 10 (fun x => decide (x < 0))) := snd_if_lt (by decide +kernel : decode (mBc 8) 1 = .ok (.ifCond .lt 9, 3)) rfl rfl
theorem s8_4 : mSnd 8 4 (a_iload 5 1) := snd_iload_n (by decide +kernel : decode (mBc 8) 4 = .ok (.iload_n 1, 1)) rfl rfl
theorem s8_5 : mSnd 8 5 (a_push 7 (.int (iZ 8))) := snd_bipush (by decide +kernel : decode (mBc 8) 5 = .ok (.bipush 8, 2)) (by decide +kernel) rfl
theorem s8_7 : mSnd 8 7 (a_icmp 10 12 (fun x y => decide (x < y))) := snd_icmp_lt (by decide +kernel : decode (mBc 8) 7 = .ok (.if_icmp .lt 5, 3)) rfl rfl
theorem s8_10 : mSnd 8 10 (a_push 11 (.int (iZ 0))) := snd_iconst (by decide +kernel : decode (mBc 8) 10 = .ok (.iconst 0, 1)) rfl rfl
theorem s8_11 : mSnd 8 11 (a_iret 0 0) := snd_iret rfl rfl rfl (by decide +kernel : decode (mBc 8) 11 = .ok (.ireturn, 1))
theorem s8_12 : mSnd 8 12 (a_iload 13 2) := snd_iload_n (by decide +kernel : decode (mBc 8) 12 = .ok (.iload_n 2, 1)) rfl rfl
theorem s8_13 : mSnd 8 13 (a_if 16 25 (fun x => decide (¬ x = 0))) := snd_if_ne (by decide +kernel : decode (mBc 8) 13 = .ok (.ifCond .ne 12, 3)) rfl rfl
theorem s8_16 : mSnd 8 16 (a_aload 17 0) := snd_aload_n (by decide +kernel : decode (mBc 8) 16 = .ok (.aload_n 0, 1)) rfl rfl
theorem s8_17 : mSnd 8 17 (a_getf 20 3 [0]) := snd_getf f3 q102 (Or.inl rfl) (by decide +kernel : decode (mBc 8) 17 = .ok (.getfield 22, 3)) rfl
theorem s8_20 : mSnd 8 20 (a_iload 21 1) := snd_iload_n (by decide +kernel : decode (mBc 8) 20 = .ok (.iload_n 1, 1)) rfl rfl
theorem s8_21 : mSnd 8 21 (a_iald 22) := snd_iald (by decide +kernel : decode (mBc 8) 21 = .ok (.iaload, 1)) rfl
theorem s8_22 : mSnd 8 22 (a_goto 31) := snd_goto (by decide +kernel : decode (mBc 8) 22 = .ok (.goto 9, 3)) rfl
theorem s8_25 : mSnd 8 25 (a_aload 26 0) := snd_aload_n (by decide +kernel : decode (mBc 8) 25 = .ok (.aload_n 0, 1)) rfl rfl
theorem s8_26 : mSnd 8 26 (a_getf 29 4 [0]) := snd_getf f4 q103 (Or.inl rfl) (by decide +kernel : decode (mBc 8) 26 = .ok (.getfield 25, 3)) rfl
theorem s8_29 : mSnd 8 29 (a_iload 30 1) := snd_iload_n (by decide +kernel : decode (mBc 8) 29 = .ok (.iload_n 1, 1)) rfl rfl
theorem s8_30 : mSnd 8 30 (a_iald 31) := snd_iald (by decide +kernel : decode (mBc 8) 30 = .ok (.iaload, 1)) rfl
theorem s8_31 : mSnd 8 31 (a_iret 0 0) := snd_iret rfl rfl rfl (by decide +kernel : decode (mBc 8) 31 = .ok (.ireturn, 1))
theorem ok8 : mOkl2 8 ct8 := ⟨⟨s8_0, s8_1, s8_4, s8_5, s8_7, s8_10, s8_11, s8_12, s8_13, s8_16, s8_17, s8_20, trivial⟩, ⟨s8_21, s8_22, s8_25, s8_26, s8_29, s8_30, s8_31, trivial⟩, trivial⟩
theorem s9_0 : mSnd 9 0 (a_iload 2 4) := snd_iload (by decide +kernel : decode (mBc 9) 0 = .ok (.iload 4, 2)) rfl
theorem s9_2 : mSnd 9 2 (a_if 5 6 (fun x => decide (¬ x = 0))) := snd_if_ne (by decide +kernel : decode (mBc 9) 2 = .ok (.ifCond .ne 4, 3)) rfl rfl
theorem s9_5 : mSnd 9 5 (a_vret 0 0) := snd_vret rfl rfl rfl (by decide +kernel : decode (mBc 9) 5 = .ok (.return_, 1))
theorem s9_6 : mSnd 9 6 (a_aload 7 0) := snd_aload_n (by decide +kernel : decode (mBc 9) 6 = .ok (.aload_n 0, 1)) rfl rfl
theorem s9_7 : mSnd 9 7 (a_getf 10 6 [0]) := snd_getf f6 q105 (Or.inl rfl) (by decide +kernel : decode (mBc 9) 7 = .ok (.getfield 31, 3)) rfl
theorem s9_10 : mSnd 9 10 (a_istore 12 5) := snd_istore (by decide +kernel : decode (mBc 9) 10 = .ok (.istore 5, 2)) (by decide) rfl
theorem s9_12 : mSnd 9 12 (a_push 13 (.int (iZ 0))) := snd_iconst (by decide +kernel : decode (mBc 9) 12 = .ok (.iconst 0, 1)) rfl rfl
theorem s9_13 : mSnd 9 13 (a_istore 15 6) := snd_istore (by decide +kernel : decode (mBc 9) 13 = .ok (.istore 6, 2)) (by decide) rfl
theorem s9_15 : mSnd 9 15 (a_iload 17 6) := snd_iload (by decide +kernel : decode (mBc 9) 15 = .ok (.iload 6, 2)) rfl
theorem s9_17 : mSnd 9 17 (a_push 18 (.int (iZ 3))) := snd_iconst (by decide +kernel : decode (mBc 9) 17 = .ok (.iconst 3, 1)) rfl rfl
theorem s9_18 : mSnd 9 18 (a_icmp 21 92 (fun x y => decide (y ≤ x))) := snd_icmp_ge (by decide +kernel : decode (mBc 9) 18 = .ok (.if_icmp .ge 74, 3)) rfl rfl
theorem s9_21 : mSnd 9 21 (a_aload 22 0) := snd_aload_n (by decide +kernel : decode (mBc 9) 21 = .ok (.aload_n 0, 1)) rfl rfl
theorem s9_22 : mSnd 9 22 (a_getf 25 5 [0]) := snd_getf f5 q104 (Or.inl rfl) (by decide +kernel : decode (mBc 9) 22 = .ok (.getfield 28, 3)) rfl
theorem s9_25 : mSnd 9 25 (a_push 26 (.int (iZ 3))) := snd_iconst (by decide +kernel : decode (mBc 9) 25 = .ok (.iconst 3, 1)) rfl rfl
theorem s9_26 : mSnd 9 26 (a_iload 28 6) := snd_iload (by decide +kernel : decode (mBc 9) 26 = .ok (.iload 6, 2)) rfl
theorem s9_28 : mSnd 9 28 (a_ii 29 (fun x y => x * y)) := snd_imul (by decide +kernel : decode (mBc 9) 28 = .ok (.imul, 1)) rfl
theorem s9_29 : mSnd 9 29 (a_iald 30) := snd_iald (by decide +kernel : decode (mBc 9) 29 = .ok (.iaload, 1)) rfl
theorem s9_30 : mSnd 9 30 (a_iload 31 1) := snd_iload_n (by decide +kernel : decode (mBc 9) 30 = .ok (.iload_n 1, 1)) rfl rfl
theorem s9_31 : mSnd 9 31 (a_ii 32 (fun x y => x * y)) := snd_imul (by decide +kernel : decode (mBc 9) 31 = .ok (.imul, 1)) rfl
theorem s9_32 : mSnd 9 32 (a_aload 33 0) := snd_aload_n (by decide +kernel : decode (mBc 9) 32 = .ok (.aload_n 0, 1)) rfl rfl
theorem s9_33 : mSnd 9 33 (a_getf 36 5 [0]) := snd_getf f5 q104 (Or.inl rfl) (by decide +kernel : decode (mBc 9) 33 = .ok (.getfield 28, 3)) rfl
theorem s9_36 : mSnd 9 36 (a_push 37 (.int (iZ 3))) := snd_iconst (by decide +kernel : decode (mBc 9) 36 = .ok (.iconst 3, 1)) rfl rfl
theorem s9_37 : mSnd 9 37 (a_iload 39 6) := snd_iload (by decide +kernel : decode (mBc 9) 37 = .ok (.iload 6, 2)) rfl
theorem s9_39 : mSnd 9 39 (a_ii 40 (fun x y => x * y)) := snd_imul (by decide +kernel : decode (mBc 9) 39 = .ok (.imul, 1)) rfl
theorem s9_40 : mSnd 9 40 (a_push 41 (.int (iZ 1))) := snd_iconst (by decide +kernel : decode (mBc 9) 40 = .ok (.iconst 1, 1)) rfl rfl
theorem s9_41 : mSnd 9 41 (a_ii 42 (fun x y => x + y)) := snd_iadd (by decide +kernel : decode (mBc 9) 41 = .ok (.iadd, 1)) rfl
theorem s9_42 : mSnd 9 42 (a_iald 43) := snd_iald (by decide +kernel : decode (mBc 9) 42 = .ok (.iaload, 1)) rfl
theorem s9_43 : mSnd 9 43 (a_iload 44 2) := snd_iload_n (by decide +kernel : decode (mBc 9) 43 = .ok (.iload_n 2, 1)) rfl rfl
theorem s9_44 : mSnd 9 44 (a_ii 45 (fun x y => x * y)) := snd_imul (by decide +kernel : decode (mBc 9) 44 = .ok (.imul, 1)) rfl
theorem s9_45 : mSnd 9 45 (a_ii 46 (fun x y => x + y)) := snd_iadd (by decide +kernel : decode (mBc 9) 45 = .ok (.iadd, 1)) rfl
theorem s9_46 : mSnd 9 46 (a_aload 47 0) := snd_aload_n (by decide +kernel : decode (mBc 9) 46 = .ok (.aload_n 0, 1)) rfl rfl
theorem s9_47 : mSnd 9 47 (a_getf 50 5 [0]) := snd_getf f5 q104 (Or.inl rfl) (by decide +kernel : decode (mBc 9) 47 = .ok (.getfield 28, 3)) rfl
theorem s9_50 : mSnd 9 50 (a_push 51 (.int (iZ 3))) := snd_iconst (by decide +kernel : decode (mBc 9) 50 = .ok (.iconst 3, 1)) rfl rfl
theorem s9_51 : mSnd 9 51 (a_iload 53 6) := snd_iload (by decide +kernel : decode (mBc 9) 51 = .ok (.iload 6, 2)) rfl
theorem s9_53 : mSnd 9 53 (a_ii 54 (fun x y => x * y)) := snd_imul (by decide +kernel : decode (mBc 9) 53 = .ok (.imul, 1)) rfl
theorem s9_54 : mSnd 9 54 (a_push 55 (.int (iZ 2))) := snd_iconst (by decide +kernel : decode (mBc 9) 54 = .ok (.iconst 2, 1)) rfl rfl
theorem s9_55 : mSnd 9 55 (a_ii 56 (fun x y => x + y)) := snd_iadd (by decide +kernel : decode (mBc 9) 55 = .ok (.iadd, 1)) rfl
theorem s9_56 : mSnd 9 56 (a_iald 57) := snd_iald (by decide +kernel : decode (mBc 9) 56 = .ok (.iaload, 1)) rfl
theorem s9_57 : mSnd 9 57 (a_iload 58 3) := snd_iload_n (by decide +kernel : decode (mBc 9) 57 = .ok (.iload_n 3, 1)) rfl rfl
theorem s9_58 : mSnd 9 58 (a_ii 59 (fun x y => x * y)) := snd_imul (by decide +kernel : decode (mBc 9) 58 = .ok (.imul, 1)) rfl
theorem s9_59 : mSnd 9 59 (a_ii 60 (fun x y => x + y)) := snd_iadd (by decide +kernel : decode (mBc 9) 59 = .ok (.iadd, 1)) rfl
theorem s9_60 : mSnd 9 60 (a_istore 62 7) := snd_istore (by decide +kernel : decode (mBc 9) 60 = .ok (.istore 7, 2)) (by decide) rfl
theorem s9_62 : mSnd 9 62 (a_aload 63 0) := snd_aload_n (by decide +kernel : decode (mBc 9) 62 = .ok (.aload_n 0, 1)) rfl rfl
theorem s9_63 : mSnd 9 63 (a_getf 66 2 [0]) := snd_getf f2 q101 (Or.inl rfl) (by decide +kernel : decode (mBc 9) 63 = .ok (.getfield 19, 3)) rfl
theorem s9_66 : mSnd 9 66 (a_iload 68 6) := snd_iload (by decide +kernel : decode (mBc 9) 66 = .ok (.iload 6, 2)) rfl
theorem s9_68 : mSnd 9 68 (a_iload 70 7) := snd_iload (by decide +kernel : decode (mBc 9) 68 = .ok (.iload 7, 2)) rfl
theorem s9_70 : mSnd 9 70 (a_iload 72 4) := snd_iload (by decide +kernel : decode (mBc 9) 70 = .ok (.iload 4, 2)) rfl
theorem s9_72 : mSnd 9 72 (a_iid 73 (fun x y => x / y)) := snd_idiv (by decide +kernel : decode (mBc 9) 72 = .ok (.idiv, 1)) rfl
theorem s9_73 : mSnd 9 73 (a_iast 74) := snd_iast (by decide +kernel : decode (mBc 9) 73 = .ok (.iastore, 1)) rfl
theorem s9_74 : mSnd 9 74 (a_iload 76 5) := snd_iload (by decide +kernel : decode (mBc 9) 74 = .ok (.iload 5, 2)) rfl
theorem s9_76 : mSnd 9 76 (a_aload 77 0) := snd_aload_n (by decide +kernel : decode (mBc 9) 76 = .ok (.aload_n 0, 1)) rfl rfl
theorem s9_77 : mSnd 9 77 (a_getf 80 2 [0]) := snd_getf f2 q101 (Or.inl rfl) (by decide +kernel : decode (mBc 9) 77 = .ok (.getfield 19, 3)) rfl
theorem s9_80 : mSnd 9 80 (a_iload 82 6) := snd_iload (by decide +kernel : decode (mBc 9) 80 = .ok (.iload 6, 2)) rfl
theorem s9_82 : mSnd 9 82 (a_iald 83) := snd_iald (by decide +kernel : decode (mBc 9) 82 = .ok (.iaload, 1)) rfl
theorem s9_83 : mSnd 9 83 (a_ii 84 (fun x y => x - y)) := snd_isub (by decide +kernel : decode (mBc 9) 83 = .ok (.isub, 1)) rfl
theorem s9_84 : mSnd 9 84 (a_istore 86 5) := snd_istore (by decide +kernel : decode (mBc 9) 84 = .ok (.istore 5, 2)) (by decide) rfl
theorem s9_86 : mSnd 9 86 (a_iinc 89 6 (iZ 1)) := snd_iinc (by decide +kernel : decode (mBc 9) 86 = .ok (.iinc 6 1, 3)) rfl (by decide) rfl
theorem s9_89 : mSnd 9 89 (a_goto 15) := snd_goto (by decide +kernel : decode (mBc 9) 89 = .ok (.goto (-74), 3)) rfl
theorem s9_92 : mSnd 9 92 (a_aload 93 0) := snd_aload_n (by decide +kernel : decode (mBc 9) 92 = .ok (.aload_n 0, 1)) rfl rfl
theorem s9_93 : mSnd 9 93 (a_getf 96 2 [0]) := snd_getf f2 q101 (Or.inl rfl) (by decide +kernel : decode (mBc 9) 93 = .ok (.getfield 19, 3)) rfl
theorem s9_96 : mSnd 9 96 (a_push 97 (.int (iZ 3))) := snd_iconst (by decide +kernel : decode (mBc 9) 96 = .ok (.iconst 3, 1)) rfl rfl
theorem s9_97 : mSnd 9 97 (a_iload 99 5) := snd_iload (by decide +kernel : decode (mBc 9) 97 = .ok (.iload 5, 2)) rfl
theorem s9_99 : mSnd 9 99 (a_iast 100) := snd_iast (by decide +kernel : decode (mBc 9) 99 = .ok (.iastore, 1)) rfl
theorem s9_100 : mSnd 9 100 (a_vret 0 0) := snd_vret rfl rfl rfl (by decide +kernel : decode (mBc 9) 100 = .ok (.return_, 1))
theorem ok9 : mOkl2 9 ct9 := ⟨⟨s9_0, s9_2, s9_5, s9_6, s9_7, s9_10, s9_12, s9_13, s9_15, s9_17, s9_18, s9_21, trivial⟩, ⟨s9_22, s9_25, s9_26, s9_28, s9_29, s9_30, s9_31, s9_32, s9_33, s9_36, s9_37, s9_39, trivial⟩, ⟨s9_40, s9_41, s9_42, s9_43, s9_44, s9_45, s9_46, s9_47, s9_50, s9_51, s9_53, s9_54, trivial⟩, ⟨s9_55, s9_56, s9_57, s9_58, s9_59, s9_60, s9_62, s9_63, s9_66, s9_68, s9_70, s9_72, trivial⟩, ⟨s9_73, s9_74, s9_76, s9_77, s9_80, s9_82, s9_83, s9_84, s9_86, s9_89, s9_92, s9_93, trivial⟩, ⟨s9_96, s9_97, s9_99, s9_100, trivial⟩, trivial⟩
theorem s10_0 : mSnd 10 0 (a_aload 1 0) := snd_aload_n (by decide +kernel : decode (mBc 10) 0 = .ok (.aload_n 0, 1)) rfl rfl
theorem s10_1 : mSnd 10 1 (a_getf 4 2 [0]) := snd_getf f2 q101 (Or.inl rfl) (by decide +kernel : decode (mBc 10) 1 = .ok (.getfield 19, 3)) rfl
theorem s10_4 : mSnd 10 4 (a_push 5 (.int (iZ 0))) := snd_iconst (by decide +kernel : decode (mBc 10) 4 = .ok (.iconst 0, 1)) rfl rfl
theorem s10_5 : mSnd 10 5 (a_iald 6) := snd_iald (by decide +kernel : decode (mBc 10) 5 = .ok (.iaload, 1)) rfl
theorem s10_6 : mSnd 10 6 (a_istore 7 1) := snd_istore_n (by decide +kernel : decode (mBc 10) 6 = .ok (.istore_n 1, 1)) rfl (by decide) rfl
theorem s10_7 : mSnd 10 7 (a_aload 8 0) := snd_aload_n (by decide +kernel : decode (mBc 10) 7 = .ok (.aload_n 0, 1)) rfl rfl
theorem s10_8 : mSnd 10 8 (a_getf 11 2 [0]) := snd_getf f2 q101 (Or.inl rfl) (by decide +kernel : decode (mBc 10) 8 = .ok (.getfield 19, 3)) rfl
theorem s10_11 : mSnd 10 11 (a_push 12 (.int (iZ 1))) := snd_iconst (by decide +kernel : decode (mBc 10) 11 = .ok (.iconst 1, 1)) rfl rfl
theorem s10_12 : mSnd 10 12 (a_iald 13) := snd_iald (by decide +kernel : decode (mBc 10) 12 = .ok (.iaload, 1)) rfl
theorem s10_13 : mSnd 10 13 (a_istore 14 2) := snd_istore_n (by decide +kernel : decode (mBc 10) 13 = .ok (.istore_n 2, 1)) rfl (by decide) rfl
theorem s10_14 : mSnd 10 14 (a_aload 15 0) := snd_aload_n (by decide +kernel : decode (mBc 10) 14 = .ok (.aload_n 0, 1)) rfl rfl
theorem s10_15 : mSnd 10 15 (a_getf 18 2 [0]) := snd_getf f2 q101 (Or.inl rfl) (by decide +kernel : decode (mBc 10) 15 = .ok (.getfield 19, 3)) rfl
theorem s10_18 : mSnd 10 18 (a_push 19 (.int (iZ 2))) := snd_iconst (by decide +kernel : decode (mBc 10) 18 = .ok (.iconst 2, 1)) rfl rfl
theorem s10_19 : mSnd 10 19 (a_iald 20) := snd_iald (by decide +kernel : decode (mBc 10) 19 = .ok (.iaload, 1)) rfl
theorem s10_20 : mSnd 10 20 (a_istore 21 3) := snd_istore_n (by decide +kernel : decode (mBc 10) 20 = .ok (.istore_n 3, 1)) rfl (by decide) rfl
theorem s10_21 : mSnd 10 21 (a_aload 22 0) := snd_aload_n (by decide +kernel : decode (mBc 10) 21 = .ok (.aload_n 0, 1)) rfl rfl
theorem s10_22 : mSnd 10 22 (a_push 23 (.int (iZ 1))) := snd_iconst (by decide +kernel : decode (mBc 10) 22 = .ok (.iconst 1, 1)) rfl rfl
theorem s10_23 : mSnd 10 23 (a_iload 24 1) := snd_iload_n (by decide +kernel : decode (mBc 10) 23 = .ok (.iload_n 1, 1)) rfl rfl
theorem s10_24 : mSnd 10 24 (a_invV 27 2 0 0 [(0, 11, 0, 0)]) := snd_invV v10_91 rfl rfl (by decide +kernel : decode (mBc 10) 24 = .ok (.invokevirtual 91, 3)) rfl
theorem s10_27 : mSnd 10 27 (a_if 30 100 (fun x => decide (x = 0))) := snd_if_eq (by decide +kernel : decode (mBc 10) 27 = .ok (.ifCond .eq 73, 3)) rfl rfl
theorem s10_30 : mSnd 10 30 (a_aload 31 0) := snd_aload_n (by decide +kernel : decode (mBc 10) 30 = .ok (.aload_n 0, 1)) rfl rfl
theorem s10_31 : mSnd 10 31 (a_push 32 (.int (iZ 2))) := snd_iconst (by decide +kernel : decode (mBc 10) 31 = .ok (.iconst 2, 1)) rfl rfl
theorem s10_32 : mSnd 10 32 (a_iload 33 2) := snd_iload_n (by decide +kernel : decode (mBc 10) 32 = .ok (.iload_n 2, 1)) rfl rfl
theorem s10_33 : mSnd 10 33 (a_invV 36 2 0 0 [(0, 11, 0, 0)]) := snd_invV v10_91 rfl rfl (by decide +kernel : decode (mBc 10) 33 = .ok (.invokevirtual 91, 3)) rfl
theorem s10_36 : mSnd 10 36 (a_if 39 100 (fun x => decide (x = 0))) := snd_if_eq (by decide +kernel : decode (mBc 10) 36 = .ok (.ifCond .eq 64, 3)) rfl rfl
theorem s10_39 : mSnd 10 39 (a_aload 40 0) := snd_aload_n (by decide +kernel : decode (mBc 10) 39 = .ok (.aload_n 0, 1)) rfl rfl
theorem s10_40 : mSnd 10 40 (a_push 41 (.int (iZ 3))) := snd_iconst (by decide +kernel : decode (mBc 10) 40 = .ok (.iconst 3, 1)) rfl rfl
theorem s10_41 : mSnd 10 41 (a_iload 42 1) := snd_iload_n (by decide +kernel : decode (mBc 10) 41 = .ok (.iload_n 1, 1)) rfl rfl
theorem s10_42 : mSnd 10 42 (a_iload 43 2) := snd_iload_n (by decide +kernel : decode (mBc 10) 42 = .ok (.iload_n 2, 1)) rfl rfl
theorem s10_43 : mSnd 10 43 (a_ii 44 (fun x y => x + y)) := snd_iadd (by decide +kernel : decode (mBc 10) 43 = .ok (.iadd, 1)) rfl
theorem s10_44 : mSnd 10 44 (a_invV 47 2 0 0 [(0, 11, 0, 0)]) := snd_invV v10_91 rfl rfl (by decide +kernel : decode (mBc 10) 44 = .ok (.invokevirtual 91, 3)) rfl
theorem s10_47 : mSnd 10 47 (a_if 50 100 (fun x => decide (x = 0))) := snd_if_eq (by decide +kernel : decode (mBc 10) 47 = .ok (.ifCond .eq 53, 3)) rfl rfl
theorem s10_50 : mSnd 10 50 (a_aload 51 0) := snd_aload_n (by decide +kernel : decode (mBc 10) 50 = .ok (.aload_n 0, 1)) rfl rfl
theorem s10_51 : mSnd 10 51 (a_push 52 (.int (iZ 4))) := snd_iconst (by decide +kernel : decode (mBc 10) 51 = .ok (.iconst 4, 1)) rfl rfl
theorem s10_52 : mSnd 10 52 (a_iload 53 3) := snd_iload_n (by decide +kernel : decode (mBc 10) 52 = .ok (.iload_n 3, 1)) rfl rfl
theorem s10_53 : mSnd 10 53 (a_invV 56 2 0 0 [(0, 11, 0, 0)]) := snd_invV v10_91 rfl rfl (by decide +kernel : decode (mBc 10) 53 = .ok (.invokevirtual 91, 3)) rfl
theorem s10_56 : mSnd 10 56 (a_if 59 100 (fun x => decide (x = 0))) := snd_if_eq (by decide +kernel : decode (mBc 10) 56 = .ok (.ifCond .eq 44, 3)) rfl rfl
theorem s10_59 : mSnd 10 59 (a_aload 60 0) := snd_aload_n (by decide +kernel : decode (mBc 10) 59 = .ok (.aload_n 0, 1)) rfl rfl
theorem s10_60 : mSnd 10 60 (a_push 61 (.int (iZ 5))) := snd_iconst (by decide +kernel : decode (mBc 10) 60 = .ok (.iconst 5, 1)) rfl rfl
theorem s10_61 : mSnd 10 61 (a_iload 62 1) := snd_iload_n (by decide +kernel : decode (mBc 10) 61 = .ok (.iload_n 1, 1)) rfl rfl
theorem s10_62 : mSnd 10 62 (a_iload 63 3) := snd_iload_n (by decide +kernel : decode (mBc 10) 62 = .ok (.iload_n 3, 1)) rfl rfl
theorem s10_63 : mSnd 10 63 (a_ii 64 (fun x y => x + y)) := snd_iadd (by decide +kernel : decode (mBc 10) 63 = .ok (.iadd, 1)) rfl
theorem s10_64 : mSnd 10 64 (a_invV 67 2 0 0 [(0, 11, 0, 0)]) := snd_invV v10_91 rfl rfl (by decide +kernel : decode (mBc 10) 64 = .ok (.invokevirtual 91, 3)) rfl
theorem s10_67 : mSnd 10 67 (a_if 70 100 (fun x => decide (x = 0))) := snd_if_eq (by decide +kernel : decode (mBc 10) 67 = .ok (.ifCond .eq 33, 3)) rfl rfl
theorem s10_70 : mSnd 10 70 (a_aload 71 0) := snd_aload_n (by decide +kernel : decode (mBc 10) 70 = .ok (.aload_n 0, 1)) rfl rfl
theorem s10_71 : mSnd 10 71 (a_push 73 (.int (iZ 6))) := snd_bipush (by decide +kernel : decode (mBc 10) 71 = .ok (.bipush 6, 2)) (by decide +kernel) rfl
theorem s10_73 : mSnd 10 73 (a_iload 74 2) := snd_iload_n (by decide +kernel : decode (mBc 10) 73 = .ok (.iload_n 2, 1)) rfl rfl
theorem s10_74 : mSnd 10 74 (a_iload 75 3) := snd_iload_n (by decide +kernel : decode (mBc 10) 74 = .ok (.iload_n 3, 1)) rfl rfl
theorem s10_75 : mSnd 10 75 (a_ii 76 (fun x y => x + y)) := snd_iadd (by decide +kernel : decode (mBc 10) 75 = .ok (.iadd, 1)) rfl
theorem s10_76 : mSnd 10 76 (a_invV 79 2 0 0 [(0, 11, 0, 0)]) := snd_invV v10_91 rfl rfl (by decide +kernel : decode (mBc 10) 76 = .ok (.invokevirtual 91, 3)) rfl
theorem s10_79 : mSnd 10 79 (a_if 82 100 (fun x => decide (x = 0))) := snd_if_eq (by decide +kernel : decode (mBc 10) 79 = .ok (.ifCond .eq 21, 3)) rfl rfl
theorem s10_82 : mSnd 10 82 (a_aload 83 0) := snd_aload_n (by decide +kernel : decode (mBc 10) 82 = .ok (.aload_n 0, 1)) rfl rfl
theorem s10_83 : mSnd 10 83 (a_push 85 (.int (iZ 7))) := snd_bipush (by decide +kernel : decode (mBc 10) 83 = .ok (.bipush 7, 2)) (by decide +kernel) rfl
theorem s10_85 : mSnd 10 85 (a_iload 86 1) := snd_iload_n (by decide +kernel : decode (mBc 10) 85 = .ok (.iload_n 1, 1)) rfl rfl
theorem s10_86 : mSnd 10 86 (a_iload 87 2) := snd_iload_n (by decide +kernel : decode (mBc 10) 86 = .ok (.iload_n 2, 1)) rfl rfl
theorem s10_87 : mSnd 10 87 (a_ii 88 (fun x y => x + y)) := snd_iadd (by decide +kernel : decode (mBc 10) 87 = .ok (.iadd, 1)) rfl
theorem s10_88 : mSnd 10 88 (a_iload 89 3) := snd_iload_n (by decide +kernel : decode (mBc 10) 88 = .ok (.iload_n 3, 1)) rfl rfl
theorem s10_89 : mSnd 10 89 (a_ii 90 (fun x y => x + y)) := snd_iadd (by decide +kernel : decode (mBc 10) 89 = .ok (.iadd, 1)) rfl
theorem s10_90 : mSnd 10 90 (a_invV 93 2 0 0 [(0, 11, 0, 0)]) := snd_invV v10_91 rfl rfl (by decide +kernel : decode (mBc 10) 90 = .ok (.invokevirtual 91, 3)) rfl
theorem s10_93 : mSnd 10 93 (a_if 96 100 (fun x => decide (x = 0))) := snd_if_eq (by decide +kernel : decode (mBc 10) 93 = .ok (.ifCond .eq 7, 3)) rfl rfl
theorem s10_96 : mSnd 10 96 (a_push 97 (.int (iZ 1))) := snd_iconst (by decide +kernel : decode (mBc 10) 96 = .ok (.iconst 1, 1)) rfl rfl
theorem s10_97 : mSnd 10 97 (a_goto 101) := snd_goto (by decide +kernel : decode (mBc 10) 97 = .ok (.goto 4, 3)) rfl
theorem s10_100 : mSnd 10 100 (a_push 101 (.int (iZ 0))) := snd_iconst (by decide +kernel : decode (mBc 10) 100 = .ok (.iconst 0, 1)) rfl rfl
theorem s10_101 : mSnd 10 101 (a_zret 0 0) := snd_zret rfl rfl rfl (by decide +kernel : decode (mBc 10) 101 = .ok (.ireturn, 1))
theorem ok10 : mOkl2 10 ct10 := ⟨⟨s10_0, s10_1, s10_4, s10_5, s10_6, s10_7, s10_8, s10_11, s10_12, s10_13, s10_14, s10_15, trivial⟩, ⟨s10_18, s10_19, s10_20, s10_21, s10_22, s10_23, s10_24, s10_27, s10_30, s10_31, s10_32, s10_33, trivial⟩, ⟨s10_36, s10_39, s10_40, s10_41, s10_42, s10_43, s10_44, s10_47, s10_50, s10_51, s10_52, s10_53, trivial⟩, ⟨s10_56, s10_59, s10_60, s10_61, s10_62, s10_63, s10_64, s10_67, s10_70, s10_71, s10_73, s10_74, trivial⟩, ⟨s10_75, s10_76, s10_79, s10_82, s10_83, s10_85, s10_86, s10_87, s10_88, s10_89, s10_90, s10_93, trivial⟩, ⟨s10_96, s10_97, s10_100, s10_101, trivial⟩, trivial⟩
theorem s11_0 : mSnd 11 0 (a_iload 1 1) := snd_iload_n (by decide +kernel : decode (mBc 11) 0 = .ok (.iload_n 1, 1)) rfl rfl
theorem s11_1 : mSnd 11 1 (a_if 4 34 (fun x => decide (x < 0))) := snd_if_lt (by decide +kernel : decode (mBc 11) 1 = .ok (.ifCond .lt 33, 3)) rfl rfl
theorem s11_4 : mSnd 11 4 (a_iload 5 1) := snd_iload_n (by decide +kernel : decode (mBc 11) 4 = .ok (.iload_n 1, 1)) rfl rfl
theorem s11_5 : mSnd 11 5 (a_push 7 (.int (iZ 8))) := snd_bipush (by decide +kernel : decode (mBc 11) 5 = .ok (.bipush 8, 2)) (by decide +kernel) rfl
theorem s11_7 : mSnd 11 7 (a_icmp 10 34 (fun x y => decide (y ≤ x))) := snd_icmp_ge (by decide +kernel : decode (mBc 11) 7 = .ok (.if_icmp .ge 27, 3)) rfl rfl
theorem s11_10 : mSnd 11 10 (a_iload 11 2) := snd_iload_n (by decide +kernel : decode (mBc 11) 10 = .ok (.iload_n 2, 1)) rfl rfl
theorem s11_11 : mSnd 11 11 (a_aload 12 0) := snd_aload_n (by decide +kernel : decode (mBc 11) 11 = .ok (.aload_n 0, 1)) rfl rfl
theorem s11_12 : mSnd 11 12 (a_getf 15 3 [0]) := snd_getf f3 q102 (Or.inl rfl) (by decide +kernel : decode (mBc 11) 12 = .ok (.getfield 22, 3)) rfl
theorem s11_15 : mSnd 11 15 (a_iload 16 1) := snd_iload_n (by decide +kernel : decode (mBc 11) 15 = .ok (.iload_n 1, 1)) rfl rfl
theorem s11_16 : mSnd 11 16 (a_iald 17) := snd_iald (by decide +kernel : decode (mBc 11) 16 = .ok (.iaload, 1)) rfl
theorem s11_17 : mSnd 11 17 (a_icmp 20 34 (fun x y => decide (x < y))) := snd_icmp_lt (by decide +kernel : decode (mBc 11) 17 = .ok (.if_icmp .lt 17, 3)) rfl rfl
theorem s11_20 : mSnd 11 20 (a_iload 21 2) := snd_iload_n (by decide +kernel : decode (mBc 11) 20 = .ok (.iload_n 2, 1)) rfl rfl
theorem s11_21 : mSnd 11 21 (a_aload 22 0) := snd_aload_n (by decide +kernel : decode (mBc 11) 21 = .ok (.aload_n 0, 1)) rfl rfl
theorem s11_22 : mSnd 11 22 (a_getf 25 4 [0]) := snd_getf f4 q103 (Or.inl rfl) (by decide +kernel : decode (mBc 11) 22 = .ok (.getfield 25, 3)) rfl
theorem s11_25 : mSnd 11 25 (a_iload 26 1) := snd_iload_n (by decide +kernel : decode (mBc 11) 25 = .ok (.iload_n 1, 1)) rfl rfl
theorem s11_26 : mSnd 11 26 (a_iald 27) := snd_iald (by decide +kernel : decode (mBc 11) 26 = .ok (.iaload, 1)) rfl
theorem s11_27 : mSnd 11 27 (a_icmp 30 34 (fun x y => decide (y < x))) := snd_icmp_gt (by decide +kernel : decode (mBc 11) 27 = .ok (.if_icmp .gt 7, 3)) rfl rfl
theorem s11_30 : mSnd 11 30 (a_push 31 (.int (iZ 1))) := snd_iconst (by decide +kernel : decode (mBc 11) 30 = .ok (.iconst 1, 1)) rfl rfl
theorem s11_31 : mSnd 11 31 (a_goto 35) := snd_goto (by decide +kernel : decode (mBc 11) 31 = .ok (.goto 4, 3)) rfl
theorem s11_34 : mSnd 11 34 (a_push 35 (.int (iZ 0))) := snd_iconst (by decide +kernel : decode (mBc 11) 34 = .ok (.iconst 0, 1)) rfl rfl
theorem s11_35 : mSnd 11 35 (a_zret 0 0) := snd_zret rfl rfl rfl (by decide +kernel : decode (mBc 11) 35 = .ok (.ireturn, 1))
theorem ok11 : mOkl2 11 ct11 := ⟨⟨s11_0, s11_1, s11_4, s11_5, s11_7, s11_10, s11_11, s11_12, s11_15, s11_16, s11_17, s11_20, trivial⟩, ⟨s11_21, s11_22, s11_25, s11_26, s11_27, s11_30, s11_31, s11_34, s11_35, trivial⟩, trivial⟩
theorem s12_0 : mSnd 12 0 (a_push 1 (.int (iZ 0))) := snd_iconst (by decide +kernel : decode (mBc 12) 0 = .ok (.iconst 0, 1)) rfl rfl
theorem s12_1 : mSnd 12 1 (a_istore 2 1) := snd_istore_n (by decide +kernel : decode (mBc 12) 1 = .ok (.istore_n 1, 1)) rfl (by decide) rfl
theorem s12_2 : mSnd 12 2 (a_iload 3 1) := snd_iload_n (by decide +kernel : decode (mBc 12) 2 = .ok (.iload_n 1, 1)) rfl rfl
theorem s12_3 : mSnd 12 3 (a_aload 4 0) := snd_aload_n (by decide +kernel : decode (mBc 12) 3 = .ok (.aload_n 0, 1)) rfl rfl
theorem s12_4 : mSnd 12 4 (a_getf 7 0 [0]) := snd_getf f0 q98 (Or.inl rfl) (by decide +kernel : decode (mBc 12) 4 = .ok (.getfield 9, 3)) rfl
theorem s12_7 : mSnd 12 7 (a_icmp 10 24 (fun x y => decide (y ≤ x))) := snd_icmp_ge (by decide +kernel : decode (mBc 12) 7 = .ok (.if_icmp .ge 17, 3)) rfl rfl
theorem s12_10 : mSnd 12 10 (a_aload 11 0) := snd_aload_n (by decide +kernel : decode (mBc 12) 10 = .ok (.aload_n 0, 1)) rfl rfl
theorem s12_11 : mSnd 12 11 (a_iload 12 1) := snd_iload_n (by decide +kernel : decode (mBc 12) 11 = .ok (.iload_n 1, 1)) rfl rfl
theorem s12_12 : mSnd 12 12 (a_invV 15 1 0 0 [(0, 13, 0, 0)]) := snd_invV v12_95 rfl rfl (by decide +kernel : decode (mBc 12) 12 = .ok (.invokevirtual 95, 3)) rfl
theorem s12_15 : mSnd 12 15 (a_if 18 24 (fun x => decide (x ≤ 0))) := snd_if_le (by decide +kernel : decode (mBc 12) 15 = .ok (.ifCond .le 9, 3)) rfl rfl
theorem s12_18 : mSnd 12 18 (a_iinc 21 1 (iZ 1)) := snd_iinc (by decide +kernel : decode (mBc 12) 18 = .ok (.iinc 1 1, 3)) rfl (by decide) rfl
theorem s12_21 : mSnd 12 21 (a_goto 2) := snd_goto (by decide +kernel : decode (mBc 12) 21 = .ok (.goto (-19), 3)) rfl
theorem s12_24 : mSnd 12 24 (a_iload 25 1) := snd_iload_n (by decide +kernel : decode (mBc 12) 24 = .ok (.iload_n 1, 1)) rfl rfl
theorem s12_25 : mSnd 12 25 (a_aload 26 0) := snd_aload_n (by decide +kernel : decode (mBc 12) 25 = .ok (.aload_n 0, 1)) rfl rfl
theorem s12_26 : mSnd 12 26 (a_getf 29 0 [0]) := snd_getf f0 q98 (Or.inl rfl) (by decide +kernel : decode (mBc 12) 26 = .ok (.getfield 9, 3)) rfl
theorem s12_29 : mSnd 12 29 (a_icmp 32 44 (fun x y => decide (y ≤ x))) := snd_icmp_ge (by decide +kernel : decode (mBc 12) 29 = .ok (.if_icmp .ge 15, 3)) rfl rfl
theorem s12_32 : mSnd 12 32 (a_aload 33 0) := snd_aload_n (by decide +kernel : decode (mBc 12) 32 = .ok (.aload_n 0, 1)) rfl rfl
theorem s12_33 : mSnd 12 33 (a_iload 34 1) := snd_iload_n (by decide +kernel : decode (mBc 12) 33 = .ok (.iload_n 1, 1)) rfl rfl
theorem s12_34 : mSnd 12 34 (a_invV 37 1 0 0 [(0, 13, 0, 0)]) := snd_invV v12_95 rfl rfl (by decide +kernel : decode (mBc 12) 34 = .ok (.invokevirtual 95, 3)) rfl
theorem s12_37 : mSnd 12 37 (a_if 40 44 (fun x => decide (¬ x = 0))) := snd_if_ne (by decide +kernel : decode (mBc 12) 37 = .ok (.ifCond .ne 7, 3)) rfl rfl
theorem s12_40 : mSnd 12 40 (a_push 41 (.int (iZ 1))) := snd_iconst (by decide +kernel : decode (mBc 12) 40 = .ok (.iconst 1, 1)) rfl rfl
theorem s12_41 : mSnd 12 41 (a_goto 45) := snd_goto (by decide +kernel : decode (mBc 12) 41 = .ok (.goto 4, 3)) rfl
theorem s12_44 : mSnd 12 44 (a_push 45 (.int (iZ 0))) := snd_iconst (by decide +kernel : decode (mBc 12) 44 = .ok (.iconst 0, 1)) rfl rfl
theorem s12_45 : mSnd 12 45 (a_istore 46 2) := snd_istore_n (by decide +kernel : decode (mBc 12) 45 = .ok (.istore_n 2, 1)) rfl (by decide) rfl
theorem s12_46 : mSnd 12 46 (a_iload 47 2) := snd_iload_n (by decide +kernel : decode (mBc 12) 46 = .ok (.iload_n 2, 1)) rfl rfl
theorem s12_47 : mSnd 12 47 (a_if 50 59 (fun x => decide (¬ x = 0))) := snd_if_ne (by decide +kernel : decode (mBc 12) 47 = .ok (.ifCond .ne 12, 3)) rfl rfl
theorem s12_50 : mSnd 12 50 (a_aload 51 0) := snd_aload_n (by decide +kernel : decode (mBc 12) 50 = .ok (.aload_n 0, 1)) rfl rfl
theorem s12_51 : mSnd 12 51 (a_getf 54 0 [0]) := snd_getf f0 q98 (Or.inl rfl) (by decide +kernel : decode (mBc 12) 51 = .ok (.getfield 9, 3)) rfl
theorem s12_54 : mSnd 12 54 (a_push 56 (.int (iZ 24))) := snd_bipush (by decide +kernel : decode (mBc 12) 54 = .ok (.bipush 24, 2)) (by decide +kernel) rfl
theorem s12_56 : mSnd 12 56 (a_icmp 59 60 (fun x y => decide (x < y))) := snd_icmp_lt (by decide +kernel : decode (mBc 12) 56 = .ok (.if_icmp .lt 4, 3)) rfl rfl
theorem s12_59 : mSnd 12 59 (a_vret 0 0) := snd_vret rfl rfl rfl (by decide +kernel : decode (mBc 12) 59 = .ok (.return_, 1))
theorem s12_60 : mSnd 12 60 (a_iload 61 1) := snd_iload_n (by decide +kernel : decode (mBc 12) 60 = .ok (.iload_n 1, 1)) rfl rfl
theorem s12_61 : mSnd 12 61 (a_push 62 (.int (iZ 4))) := snd_iconst (by decide +kernel : decode (mBc 12) 61 = .ok (.iconst 4, 1)) rfl rfl
theorem s12_62 : mSnd 12 62 (a_ii 63 (fun x y => x * y)) := snd_imul (by decide +kernel : decode (mBc 12) 62 = .ok (.imul, 1)) rfl
theorem s12_63 : mSnd 12 63 (a_istore 64 3) := snd_istore_n (by decide +kernel : decode (mBc 12) 63 = .ok (.istore_n 3, 1)) rfl (by decide) rfl
theorem s12_64 : mSnd 12 64 (a_aload 65 0) := snd_aload_n (by decide +kernel : decode (mBc 12) 64 = .ok (.aload_n 0, 1)) rfl rfl
theorem s12_65 : mSnd 12 65 (a_getf 68 0 [0]) := snd_getf f0 q98 (Or.inl rfl) (by decide +kernel : decode (mBc 12) 65 = .ok (.getfield 9, 3)) rfl
theorem s12_68 : mSnd 12 68 (a_iload 69 1) := snd_iload_n (by decide +kernel : decode (mBc 12) 68 = .ok (.iload_n 1, 1)) rfl rfl
theorem s12_69 : mSnd 12 69 (a_ii 70 (fun x y => x - y)) := snd_isub (by decide +kernel : decode (mBc 12) 69 = .ok (.isub, 1)) rfl
theorem s12_70 : mSnd 12 70 (a_push 71 (.int (iZ 4))) := snd_iconst (by decide +kernel : decode (mBc 12) 70 = .ok (.iconst 4, 1)) rfl rfl
theorem s12_71 : mSnd 12 71 (a_ii 72 (fun x y => x * y)) := snd_imul (by decide +kernel : decode (mBc 12) 71 = .ok (.imul, 1)) rfl
theorem s12_72 : mSnd 12 72 (a_istore 74 4) := snd_istore (by decide +kernel : decode (mBc 12) 72 = .ok (.istore 4, 2)) (by decide) rfl
theorem s12_74 : mSnd 12 74 (a_aload 75 0) := snd_aload_n (by decide +kernel : decode (mBc 12) 74 = .ok (.aload_n 0, 1)) rfl rfl
theorem s12_75 : mSnd 12 75 (a_getf 78 1 [0]) := snd_getf f1 q100 (Or.inl rfl) (by decide +kernel : decode (mBc 12) 75 = .ok (.getfield 15, 3)) rfl
theorem s12_78 : mSnd 12 78 (a_iload 79 3) := snd_iload_n (by decide +kernel : decode (mBc 12) 78 = .ok (.iload_n 3, 1)) rfl rfl
theorem s12_79 : mSnd 12 79 (a_aload 80 0) := snd_aload_n (by decide +kernel : decode (mBc 12) 79 = .ok (.aload_n 0, 1)) rfl rfl
theorem s12_80 : mSnd 12 80 (a_getf 83 1 [0]) := snd_getf f1 q100 (Or.inl rfl) (by decide +kernel : decode (mBc 12) 80 = .ok (.getfield 15, 3)) rfl
theorem s12_83 : mSnd 12 83 (a_iload 84 3) := snd_iload_n (by decide +kernel : decode (mBc 12) 83 = .ok (.iload_n 3, 1)) rfl rfl
theorem s12_84 : mSnd 12 84 (a_push 85 (.int (iZ 4))) := snd_iconst (by decide +kernel : decode (mBc 12) 84 = .ok (.iconst 4, 1)) rfl rfl
theorem s12_85 : mSnd 12 85 (a_ii 86 (fun x y => x + y)) := snd_iadd (by decide +kernel : decode (mBc 12) 85 = .ok (.iadd, 1)) rfl
theorem s12_86 : mSnd 12 86 (a_iload 88 4) := snd_iload (by decide +kernel : decode (mBc 12) 86 = .ok (.iload 4, 2)) rfl
theorem s12_88 : mSnd 12 88 (a_copy 91 48) := snd_copy q449 q451 q450 q13 (by decide) rfl (by decide +kernel : decode (mBc 12) 88 = .ok (.invokestatic 98, 3)) rfl
theorem s12_91 : mSnd 12 91 (a_aload 92 0) := snd_aload_n (by decide +kernel : decode (mBc 12) 91 = .ok (.aload_n 0, 1)) rfl rfl
theorem s12_92 : mSnd 12 92 (a_getf 95 2 [0]) := snd_getf f2 q101 (Or.inl rfl) (by decide +kernel : decode (mBc 12) 92 = .ok (.getfield 19, 3)) rfl
theorem s12_95 : mSnd 12 95 (a_push 96 (.int (iZ 0))) := snd_iconst (by decide +kernel : decode (mBc 12) 95 = .ok (.iconst 0, 1)) rfl rfl
theorem s12_96 : mSnd 12 96 (a_aload 97 0) := snd_aload_n (by decide +kernel : decode (mBc 12) 96 = .ok (.aload_n 0, 1)) rfl rfl
theorem s12_97 : mSnd 12 97 (a_getf 100 1 [0]) := snd_getf f1 q100 (Or.inl rfl) (by decide +kernel : decode (mBc 12) 97 = .ok (.getfield 15, 3)) rfl
theorem s12_100 : mSnd 12 100 (a_iload 101 3) := snd_iload_n (by decide +kernel : decode (mBc 12) 100 = .ok (.iload_n 3, 1)) rfl rfl
theorem s12_101 : mSnd 12 101 (a_push 102 (.int (iZ 4))) := snd_iconst (by decide +kernel : decode (mBc 12) 101 = .ok (.iconst 4, 1)) rfl rfl
theorem s12_102 : mSnd 12 102 (a_copy 105 48) := snd_copy q449 q451 q450 q13 (by decide) rfl (by decide +kernel : decode (mBc 12) 102 = .ok (.invokestatic 98, 3)) rfl
theorem s12_105 : mSnd 12 105 (a_aload 106 0) := snd_aload_n (by decide +kernel : decode (mBc 12) 105 = .ok (.aload_n 0, 1)) rfl rfl
theorem s12_106 : mSnd 12 106 (a_dup 107) := snd_dup (by decide +kernel : decode (mBc 12) 106 = .ok (.dup, 1)) rfl
theorem s12_107 : mSnd 12 107 (a_getf 110 0 [0]) := snd_getf f0 q98 (Or.inl rfl) (by decide +kernel : decode (mBc 12) 107 = .ok (.getfield 9, 3)) rfl
theorem s12_110 : mSnd 12 110 (a_push 111 (.int (iZ 1))) := snd_iconst (by decide +kernel : decode (mBc 12) 110 = .ok (.iconst 1, 1)) rfl rfl
theorem s12_111 : mSnd 12 111 (a_ii 112 (fun x y => x + y)) := snd_iadd (by decide +kernel : decode (mBc 12) 111 = .ok (.iadd, 1)) rfl
theorem s12_112 : mSnd 12 112 (a_putf 115 0 0 [0]) := snd_putf f0 (by decide +kernel) q98 (Or.inl rfl) (Or.inl rfl) (by decide +kernel : decode (mBc 12) 112 = .ok (.putfield 9, 3)) rfl
theorem s12_115 : mSnd 12 115 (a_vret 0 0) := snd_vret rfl rfl rfl (by decide +kernel : decode (mBc 12) 115 = .ok (.return_, 1))
theorem ok12 : mOkl2 12 ct12 := ⟨⟨s12_0, s12_1, s12_2, s12_3, s12_4, s12_7, s12_10, s12_11, s12_12, s12_15, s12_18, s12_21, trivial⟩, ⟨s12_24, s12_25, s12_26, s12_29, s12_32, s12_33, s12_34, s12_37, s12_40, s12_41, s12_44, s12_45, trivial⟩, ⟨s12_46, s12_47, s12_50, s12_51, s12_54, s12_56, s12_59, s12_60, s12_61, s12_62, s12_63, s12_64, trivial⟩, ⟨s12_65, s12_68, s12_69, s12_70, s12_71, s12_72, s12_74, s12_75, s12_78, s12_79, s12_80, s12_83, trivial⟩, ⟨s12_84, s12_85, s12_86, s12_88, s12_91, s12_92, s12_95, s12_96, s12_97, s12_100, s12_101, s12_102, trivial⟩, ⟨s12_105, s12_106, s12_107, s12_110, s12_111, s12_112, s12_115, trivial⟩, trivial⟩
