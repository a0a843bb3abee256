theorem s47_0 : mSnd 47 0 (a_aload 1 0) := snd_aload_n (by decide +kernel : decode (mBc 47) 0 = .ok (.aload_n 0, 1)) rfl rfl
theorem s47_1 : mSnd 47 1 (a_aload 2 0) := snd_aload_n (by decide +kernel : decode (mBc 47) 1 = .ok (.aload_n 0, 1)) rfl rfl
theorem s47_2 : mSnd 47 2 (a_invV 5 0 0 0 [(1, 42, 0, 0), (2, 42, 0, 0), (4, 42, 0, 0), (6, 42, 0, 0), (8, 42, 0, 0)]) := snd_invV v47_42 rfl rfl (by decide +kernel : decode (mBc 47) 2 = .ok (.invokevirtual 42, 3)) rfl
theorem s47_5 : mSnd 47 5 (a_invV 8 1 0 0 [(1, 46, 0, 0), (2, 46, 0, 0), (4, 46, 0, 0), (6, 46, 0, 0), (8, 46, 0, 0)]) := snd_invV v47_46 rfl rfl (by decide +kernel : decode (mBc 47) 5 = .ok (.invokevirtual 46, 3)) rfl
theorem s47_8 : mSnd 47 8 (a_iret 0 0) := snd_iret rfl rfl rfl (by decide +kernel : decode (mBc 47) 8 = .ok (.ireturn, 1))
theorem ok47 : mOkl2 47 ct47 := ⟨⟨s47_0, s47_1, s47_2, s47_5, s47_8, trivial⟩, trivial⟩
theorem s48_0 : mSnd 48 0 (a_aload 1 0) := snd_aload_n (by decide +kernel : decode (mBc 48) 0 = .ok (.aload_n 0, 1)) rfl rfl
theorem s48_1 : mSnd 48 1 (a_iload 2 1) := snd_iload_n (by decide +kernel : decode (mBc 48) 1 = .ok (.iload_n 1, 1)) rfl rfl
theorem s48_2 : mSnd 48 2 (a_invV 5 1 0 0 [(1, 44, 0, 0), (2, 44, 0, 0), (4, 44, 0, 0), (6, 44, 0, 0), (8, 44, 0, 0)]) := snd_invV v48_57 rfl rfl (by decide +kernel : decode (mBc 48) 2 = .ok (.invokevirtual 57, 3)) rfl
theorem s48_5 : mSnd 48 5 (a_if 8 29 (fun x => decide (x = 0))) := snd_if_eq (by decide +kernel : decode (mBc 48) 5 = .ok (.ifCond .eq 24, 3)) rfl rfl
theorem s48_8 : mSnd 48 8 (a_iload 9 1) := snd_iload_n (by decide +kernel : decode (mBc 48) 8 = .ok (.iload_n 1, 1)) rfl rfl
theorem s48_9 : mSnd 48 9 (a_aload 10 0) := snd_aload_n (by decide +kernel : decode (mBc 48) 9 = .ok (.aload_n 0, 1)) rfl rfl
theorem s48_10 : mSnd 48 10 (a_getf 13 2 [1, 2, 4, 6, 8]) := snd_getf f15 q129 (Or.inl rfl) (by decide +kernel : decode (mBc 48) 10 = .ok (.getfield 18, 3)) rfl
theorem s48_13 : mSnd 48 13 (a_alen 14) := snd_alen (by decide +kernel : decode (mBc 48) 13 = .ok (.arraylength, 1)) rfl
theorem s48_14 : mSnd 48 14 (a_icmp 17 29 (fun x y => decide (y ≤ x))) := snd_icmp_ge (by decide +kernel : decode (mBc 48) 14 = .ok (.if_icmp .ge 15, 3)) rfl rfl
theorem s48_17 : mSnd 48 17 (a_aload 18 0) := snd_aload_n (by decide +kernel : decode (mBc 48) 17 = .ok (.aload_n 0, 1)) rfl rfl
theorem s48_18 : mSnd 48 18 (a_getf 21 2 [1, 2, 4, 6, 8]) := snd_getf f15 q129 (Or.inl rfl) (by decide +kernel : decode (mBc 48) 18 = .ok (.getfield 18, 3)) rfl
theorem s48_21 : mSnd 48 21 (a_iload 22 1) := snd_iload_n (by decide +kernel : decode (mBc 48) 21 = .ok (.iload_n 1, 1)) rfl rfl
theorem s48_22 : mSnd 48 22 (a_iload 23 2) := snd_iload_n (by decide +kernel : decode (mBc 48) 22 = .ok (.iload_n 2, 1)) rfl rfl
theorem s48_23 : mSnd 48 23 (a_iast 24) := snd_iast (by decide +kernel : decode (mBc 48) 23 = .ok (.iastore, 1)) rfl
theorem s48_24 : mSnd 48 24 (a_aload 25 0) := snd_aload_n (by decide +kernel : decode (mBc 48) 24 = .ok (.aload_n 0, 1)) rfl rfl
theorem s48_25 : mSnd 48 25 (a_push 26 (.int (iZ 0))) := snd_iconst (by decide +kernel : decode (mBc 48) 25 = .ok (.iconst 0, 1)) rfl rfl
theorem s48_26 : mSnd 48 26 (a_putf 29 5 3 [1, 2, 4, 6, 8]) := snd_putf f18 (by decide +kernel) q132 (Or.inl rfl) (Or.inl rfl) (by decide +kernel : decode (mBc 48) 26 = .ok (.putfield 32, 3)) rfl
theorem s48_29 : mSnd 48 29 (a_vret 0 0) := snd_vret rfl rfl rfl (by decide +kernel : decode (mBc 48) 29 = .ok (.return_, 1))
theorem ok48 : mOkl2 48 ct48 := ⟨⟨s48_0, s48_1, s48_2, s48_5, s48_8, s48_9, s48_10, s48_13, s48_14, s48_17, s48_18, s48_21, trivial⟩, ⟨s48_22, s48_23, s48_24, s48_25, s48_26, s48_29, trivial⟩, trivial⟩
theorem s49_0 : mSnd 49 0 (a_aload 1 0) := snd_aload_n (by decide +kernel : decode (mBc 49) 0 = .ok (.aload_n 0, 1)) rfl rfl
theorem s49_1 : mSnd 49 1 (a_getf 4 5 [1, 2, 4, 6, 8]) := snd_getf f18 q132 (Or.inl rfl) (by decide +kernel : decode (mBc 49) 1 = .ok (.getfield 32, 3)) rfl
theorem s49_4 : mSnd 49 4 (a_if 7 20 (fun x => decide (¬ x = 0))) := snd_if_ne (by decide +kernel : decode (mBc 49) 4 = .ok (.ifCond .ne 16, 3)) rfl rfl
theorem s49_7 : mSnd 49 7 (a_aload 8 0) := snd_aload_n (by decide +kernel : decode (mBc 49) 7 = .ok (.aload_n 0, 1)) rfl rfl
theorem s49_8 : mSnd 49 8 (a_getf 11 4 [1, 2, 4, 6, 8]) := snd_getf f17 q131 (Or.inl rfl) (by decide +kernel : decode (mBc 49) 8 = .ok (.getfield 28, 3)) rfl
theorem s49_11 : mSnd 49 11 (a_aload 12 0) := snd_aload_n (by decide +kernel : decode (mBc 49) 11 = .ok (.aload_n 0, 1)) rfl rfl
theorem s49_12 : mSnd 49 12 (a_invV 15 1 0 0 [(0, 3, 0, 0)]) := snd_invV v49_61 rfl rfl (by decide +kernel : decode (mBc 49) 12 = .ok (.invokevirtual 61, 3)) rfl
theorem s49_15 : mSnd 49 15 (a_aload 16 0) := snd_aload_n (by decide +kernel : decode (mBc 49) 15 = .ok (.aload_n 0, 1)) rfl rfl
theorem s49_16 : mSnd 49 16 (a_push 17 (.int (iZ 1))) := snd_iconst (by decide +kernel : decode (mBc 49) 16 = .ok (.iconst 1, 1)) rfl rfl
theorem s49_17 : mSnd 49 17 (a_putf 20 5 3 [1, 2, 4, 6, 8]) := snd_putf f18 (by decide +kernel) q132 (Or.inl rfl) (Or.inl rfl) (by decide +kernel : decode (mBc 49) 17 = .ok (.putfield 32, 3)) rfl
theorem s49_20 : mSnd 49 20 (a_aload 21 0) := snd_aload_n (by decide +kernel : decode (mBc 49) 20 = .ok (.aload_n 0, 1)) rfl rfl
theorem s49_21 : mSnd 49 21 (a_getf 24 4 [1, 2, 4, 6, 8]) := snd_getf f17 q131 (Or.inl rfl) (by decide +kernel : decode (mBc 49) 21 = .ok (.getfield 28, 3)) rfl
theorem s49_24 : mSnd 49 24 (a_aret 0 0) := snd_aret rfl (Or.inl ⟨_, rfl⟩) rfl rfl (by decide +kernel : decode (mBc 49) 24 = .ok (.areturn, 1))
theorem ok49 : mOkl2 49 ct49 := ⟨⟨s49_0, s49_1, s49_4, s49_7, s49_8, s49_11, s49_12, s49_15, s49_16, s49_17, s49_20, s49_21, trivial⟩, ⟨s49_24, trivial⟩, trivial⟩
theorem s50_0 : mSnd 50 0 (a_aload 1 0) := snd_aload_n (by decide +kernel : decode (mBc 50) 0 = .ok (.aload_n 0, 1)) rfl rfl
theorem s50_1 : mSnd 50 1 (a_iload 2 2) := snd_iload_n (by decide +kernel : decode (mBc 50) 1 = .ok (.iload_n 2, 1)) rfl rfl
theorem s50_2 : mSnd 50 2 (a_push 3 (.int (iZ 1))) := snd_iconst (by decide +kernel : decode (mBc 50) 2 = .ok (.iconst 1, 1)) rfl rfl
theorem s50_3 : mSnd 50 3 (a_iload 4 1) := snd_iload_n (by decide +kernel : decode (mBc 50) 3 = .ok (.iload_n 1, 1)) rfl rfl
theorem s50_4 : mSnd 50 4 (a_ii 5 (fun x y => x <<< (y &&& 31))) := snd_ishl (by decide +kernel : decode (mBc 50) 4 = .ok (.ishl, 1)) rfl
theorem s50_5 : mSnd 50 5 (a_ii 6 (fun x y => x ||| y)) := snd_ior (by decide +kernel : decode (mBc 50) 5 = .ok (.ior, 1)) rfl
theorem s50_6 : mSnd 50 6 (a_invV 9 1 0 0 [(1, 46, 0, 0), (2, 46, 0, 0), (4, 46, 0, 0), (6, 46, 0, 0), (8, 46, 0, 0)]) := snd_invV v50_46 rfl rfl (by decide +kernel : decode (mBc 50) 6 = .ok (.invokevirtual 46, 3)) rfl
theorem s50_9 : mSnd 50 9 (a_aload 10 0) := snd_aload_n (by decide +kernel : decode (mBc 50) 9 = .ok (.aload_n 0, 1)) rfl rfl
theorem s50_10 : mSnd 50 10 (a_iload 11 2) := snd_iload_n (by decide +kernel : decode (mBc 50) 10 = .ok (.iload_n 2, 1)) rfl rfl
theorem s50_11 : mSnd 50 11 (a_invV 14 1 0 0 [(1, 46, 0, 0), (2, 46, 0, 0), (4, 46, 0, 0), (6, 46, 0, 0), (8, 46, 0, 0)]) := snd_invV v50_46 rfl rfl (by decide +kernel : decode (mBc 50) 11 = .ok (.invokevirtual 46, 3)) rfl
theorem s50_14 : mSnd 50 14 (a_ii 15 (fun x y => x - y)) := snd_isub (by decide +kernel : decode (mBc 50) 14 = .ok (.isub, 1)) rfl
theorem s50_15 : mSnd 50 15 (a_iret 0 0) := snd_iret rfl rfl rfl (by decide +kernel : decode (mBc 50) 15 = .ok (.ireturn, 1))
theorem ok50 : mOkl2 50 ct50 := ⟨⟨s50_0, s50_1, s50_2, s50_3, s50_4, s50_5, s50_6, s50_9, s50_10, s50_11, s50_14, s50_15, trivial⟩, trivial⟩
theorem s51_0 : mSnd 51 0 (a_push 1 (.int (iZ 0))) := snd_iconst (by decide +kernel : decode (mBc 51) 0 = .ok (.iconst 0, 1)) rfl rfl
theorem s51_1 : mSnd 51 1 (a_istore 2 1) := snd_istore_n (by decide +kernel : decode (mBc 51) 1 = .ok (.istore_n 1, 1)) rfl (by decide) rfl
theorem s51_2 : mSnd 51 2 (a_push 3 (.int (iZ 0))) := snd_iconst (by decide +kernel : decode (mBc 51) 2 = .ok (.iconst 0, 1)) rfl rfl
theorem s51_3 : mSnd 51 3 (a_istore 4 2) := snd_istore_n (by decide +kernel : decode (mBc 51) 3 = .ok (.istore_n 2, 1)) rfl (by decide) rfl
theorem s51_4 : mSnd 51 4 (a_iload 5 2) := snd_iload_n (by decide +kernel : decode (mBc 51) 4 = .ok (.iload_n 2, 1)) rfl rfl
theorem s51_5 : mSnd 51 5 (a_aload 6 0) := snd_aload_n (by decide +kernel : decode (mBc 51) 5 = .ok (.aload_n 0, 1)) rfl rfl
theorem s51_6 : mSnd 51 6 (a_getf 9 1 [1, 2, 4, 6, 8]) := snd_getf f10 q124 (Or.inl rfl) (by decide +kernel : decode (mBc 51) 6 = .ok (.getfield 15, 3)) rfl
theorem s51_9 : mSnd 51 9 (a_icmp 12 32 (fun x y => decide (y ≤ x))) := snd_icmp_ge (by decide +kernel : decode (mBc 51) 9 = .ok (.if_icmp .ge 23, 3)) rfl rfl
theorem s51_12 : mSnd 51 12 (a_aload 13 0) := snd_aload_n (by decide +kernel : decode (mBc 51) 12 = .ok (.aload_n 0, 1)) rfl rfl
theorem s51_13 : mSnd 51 13 (a_iload 14 2) := snd_iload_n (by decide +kernel : decode (mBc 51) 13 = .ok (.iload_n 2, 1)) rfl rfl
theorem s51_14 : mSnd 51 14 (a_invV 17 1 0 0 [(1, 52, 0, 0), (2, 52, 0, 0), (4, 52, 0, 0), (6, 52, 0, 0), (8, 52, 0, 0)]) := snd_invV v51_65 rfl rfl (by decide +kernel : decode (mBc 51) 14 = .ok (.invokevirtual 65, 3)) rfl
theorem s51_17 : mSnd 51 17 (a_if 20 26 (fun x => decide (x = 0))) := snd_if_eq (by decide +kernel : decode (mBc 51) 17 = .ok (.ifCond .eq 9, 3)) rfl rfl
theorem s51_20 : mSnd 51 20 (a_iload 21 1) := snd_iload_n (by decide +kernel : decode (mBc 51) 20 = .ok (.iload_n 1, 1)) rfl rfl
theorem s51_21 : mSnd 51 21 (a_push 22 (.int (iZ 1))) := snd_iconst (by decide +kernel : decode (mBc 51) 21 = .ok (.iconst 1, 1)) rfl rfl
theorem s51_22 : mSnd 51 22 (a_iload 23 2) := snd_iload_n (by decide +kernel : decode (mBc 51) 22 = .ok (.iload_n 2, 1)) rfl rfl
theorem s51_23 : mSnd 51 23 (a_ii 24 (fun x y => x <<< (y &&& 31))) := snd_ishl (by decide +kernel : decode (mBc 51) 23 = .ok (.ishl, 1)) rfl
theorem s51_24 : mSnd 51 24 (a_ii 25 (fun x y => x ||| y)) := snd_ior (by decide +kernel : decode (mBc 51) 24 = .ok (.ior, 1)) rfl
theorem s51_25 : mSnd 51 25 (a_istore 26 1) := snd_istore_n (by decide +kernel : decode (mBc 51) 25 = .ok (.istore_n 1, 1)) rfl (by decide) rfl
theorem s51_26 : mSnd 51 26 (a_iinc 29 2 (iZ 1)) := snd_iinc (by decide +kernel : decode (mBc 51) 26 = .ok (.iinc 2 1, 3)) rfl (by decide) rfl
theorem s51_29 : mSnd 51 29 (a_goto 4) := snd_goto (by decide +kernel : decode (mBc 51) 29 = .ok (.goto (-25), 3)) rfl
theorem s51_32 : mSnd 51 32 (a_iload 33 1) := snd_iload_n (by decide +kernel : decode (mBc 51) 32 = .ok (.iload_n 1, 1)) rfl rfl
theorem s51_33 : mSnd 51 33 (a_iret 0 0) := snd_iret rfl rfl rfl (by decide +kernel : decode (mBc 51) 33 = .ok (.ireturn, 1))
theorem ok51 : mOkl2 51 ct51 := ⟨⟨s51_0, s51_1, s51_2, s51_3, s51_4, s51_5, s51_6, s51_9, s51_12, s51_13, s51_14, s51_17, trivial⟩, ⟨s51_20, s51_21, s51_22, s51_23, s51_24, s51_25, s51_26, s51_29, s51_32, s51_33, trivial⟩, trivial⟩
theorem s52_0 : mSnd 52 0 (a_aload 1 0) := snd_aload_n (by decide +kernel : decode (mBc 52) 0 = .ok (.aload_n 0, 1)) rfl rfl
theorem s52_1 : mSnd 52 1 (a_push 2 (.int (iZ 1))) := snd_iconst (by decide +kernel : decode (mBc 52) 1 = .ok (.iconst 1, 1)) rfl rfl
theorem s52_2 : mSnd 52 2 (a_iload 3 1) := snd_iload_n (by decide +kernel : decode (mBc 52) 2 = .ok (.iload_n 1, 1)) rfl rfl
theorem s52_3 : mSnd 52 3 (a_ii 4 (fun x y => x <<< (y &&& 31))) := snd_ishl (by decide +kernel : decode (mBc 52) 3 = .ok (.ishl, 1)) rfl
theorem s52_4 : mSnd 52 4 (a_invV 7 1 0 0 [(1, 46, 0, 0), (2, 46, 0, 0), (4, 46, 0, 0), (6, 46, 0, 0), (8, 46, 0, 0)]) := snd_invV v52_46 rfl rfl (by decide +kernel : decode (mBc 52) 4 = .ok (.invokevirtual 46, 3)) rfl
theorem s52_7 : mSnd 52 7 (a_istore 8 2) := snd_istore_n (by decide +kernel : decode (mBc 52) 7 = .ok (.istore_n 2, 1)) rfl (by decide) rfl
theorem s52_8 : mSnd 52 8 (a_push 9 (.int (iZ 0))) := snd_iconst (by decide +kernel : decode (mBc 52) 8 = .ok (.iconst 0, 1)) rfl rfl
theorem s52_9 : mSnd 52 9 (a_istore 10 3) := snd_istore_n (by decide +kernel : decode (mBc 52) 9 = .ok (.istore_n 3, 1)) rfl (by decide) rfl
theorem s52_10 : mSnd 52 10 (a_iload 11 3) := snd_iload_n (by decide +kernel : decode (mBc 52) 10 = .ok (.iload_n 3, 1)) rfl rfl
theorem s52_11 : mSnd 52 11 (a_aload 12 0) := snd_aload_n (by decide +kernel : decode (mBc 52) 11 = .ok (.aload_n 0, 1)) rfl rfl
theorem s52_12 : mSnd 52 12 (a_invV 15 0 0 0 [(1, 42, 0, 0), (2, 42, 0, 0), (4, 42, 0, 0), (6, 42, 0, 0), (8, 42, 0, 0)]) := snd_invV v52_42 rfl rfl (by decide +kernel : decode (mBc 52) 12 = .ok (.invokevirtual 42, 3)) rfl
theorem s52_15 : mSnd 52 15 (a_icmp 18 44 (fun x y => decide (y < x))) := snd_icmp_gt (by decide +kernel : decode (mBc 52) 15 = .ok (.if_icmp .gt 29, 3)) rfl rfl
theorem s52_18 : mSnd 52 18 (a_iload 19 3) := snd_iload_n (by decide +kernel : decode (mBc 52) 18 = .ok (.iload_n 3, 1)) rfl rfl
theorem s52_19 : mSnd 52 19 (a_iload 20 1) := snd_iload_n (by decide +kernel : decode (mBc 52) 19 = .ok (.iload_n 1, 1)) rfl rfl
theorem s52_20 : mSnd 52 20 (a_invS 23 126 2 0 0 0 0) := snd_invSN (host := "JointWorks") k52_126 rfl rfl (by decide +kernel) q229 q1 (by decide +kernel) (by decide +kernel : decode (mBc 52) 20 = .ok (.invokestatic 68, 3)) rfl
theorem s52_23 : mSnd 52 23 (a_if 26 38 (fun x => decide (¬ x = 0))) := snd_if_ne (by decide +kernel : decode (mBc 52) 23 = .ok (.ifCond .ne 15, 3)) rfl rfl
theorem s52_26 : mSnd 52 26 (a_aload 27 0) := snd_aload_n (by decide +kernel : decode (mBc 52) 26 = .ok (.aload_n 0, 1)) rfl rfl
theorem s52_27 : mSnd 52 27 (a_iload 28 1) := snd_iload_n (by decide +kernel : decode (mBc 52) 27 = .ok (.iload_n 1, 1)) rfl rfl
theorem s52_28 : mSnd 52 28 (a_iload 29 3) := snd_iload_n (by decide +kernel : decode (mBc 52) 28 = .ok (.iload_n 3, 1)) rfl rfl
theorem s52_29 : mSnd 52 29 (a_invV 32 2 0 0 [(1, 50, 0, 0), (2, 50, 0, 0), (4, 50, 0, 0), (6, 50, 0, 0), (8, 50, 0, 0)]) := snd_invV v52_72 rfl rfl (by decide +kernel : decode (mBc 52) 29 = .ok (.invokevirtual 72, 3)) rfl
theorem s52_32 : mSnd 52 32 (a_iload 33 2) := snd_iload_n (by decide +kernel : decode (mBc 52) 32 = .ok (.iload_n 2, 1)) rfl rfl
theorem s52_33 : mSnd 52 33 (a_icmp 36 38 (fun x y => decide (x = y))) := snd_icmp_eq (by decide +kernel : decode (mBc 52) 33 = .ok (.if_icmp .eq 5, 3)) rfl rfl
theorem s52_36 : mSnd 52 36 (a_push 37 (.int (iZ 0))) := snd_iconst (by decide +kernel : decode (mBc 52) 36 = .ok (.iconst 0, 1)) rfl rfl
theorem s52_37 : mSnd 52 37 (a_zret 0 0) := snd_zret rfl rfl rfl (by decide +kernel : decode (mBc 52) 37 = .ok (.ireturn, 1))
theorem s52_38 : mSnd 52 38 (a_iinc 41 3 (iZ 1)) := snd_iinc (by decide +kernel : decode (mBc 52) 38 = .ok (.iinc 3 1, 3)) rfl (by decide) rfl
theorem s52_41 : mSnd 52 41 (a_goto 10) := snd_goto (by decide +kernel : decode (mBc 52) 41 = .ok (.goto (-31), 3)) rfl
theorem s52_44 : mSnd 52 44 (a_push 45 (.int (iZ 1))) := snd_iconst (by decide +kernel : decode (mBc 52) 44 = .ok (.iconst 1, 1)) rfl rfl
theorem s52_45 : mSnd 52 45 (a_zret 0 0) := snd_zret rfl rfl rfl (by decide +kernel : decode (mBc 52) 45 = .ok (.ireturn, 1))
theorem ok52 : mOkl2 52 ct52 := ⟨⟨s52_0, s52_1, s52_2, s52_3, s52_4, s52_7, s52_8, s52_9, s52_10, s52_11, s52_12, s52_15, trivial⟩, ⟨s52_18, s52_19, s52_20, s52_23, s52_26, s52_27, s52_28, s52_29, s52_32, s52_33, s52_36, s52_37, trivial⟩, ⟨s52_38, s52_41, s52_44, s52_45, trivial⟩, trivial⟩
theorem s53_0 : mSnd 53 0 (a_push 1 (.int (iZ 0))) := snd_iconst (by decide +kernel : decode (mBc 53) 0 = .ok (.iconst 0, 1)) rfl rfl
theorem s53_1 : mSnd 53 1 (a_istore 2 3) := snd_istore_n (by decide +kernel : decode (mBc 53) 1 = .ok (.istore_n 3, 1)) rfl (by decide) rfl
theorem s53_2 : mSnd 53 2 (a_iload 3 3) := snd_iload_n (by decide +kernel : decode (mBc 53) 2 = .ok (.iload_n 3, 1)) rfl rfl
theorem s53_3 : mSnd 53 3 (a_aload 4 0) := snd_aload_n (by decide +kernel : decode (mBc 53) 3 = .ok (.aload_n 0, 1)) rfl rfl
theorem s53_4 : mSnd 53 4 (a_invV 7 0 0 0 [(1, 42, 0, 0), (2, 42, 0, 0), (4, 42, 0, 0), (6, 42, 0, 0), (8, 42, 0, 0)]) := snd_invV v53_42 rfl rfl (by decide +kernel : decode (mBc 53) 4 = .ok (.invokevirtual 42, 3)) rfl
theorem s53_7 : mSnd 53 7 (a_icmp 10 49 (fun x y => decide (y < x))) := snd_icmp_gt (by decide +kernel : decode (mBc 53) 7 = .ok (.if_icmp .gt 42, 3)) rfl rfl
theorem s53_10 : mSnd 53 10 (a_iload 11 3) := snd_iload_n (by decide +kernel : decode (mBc 53) 10 = .ok (.iload_n 3, 1)) rfl rfl
theorem s53_11 : mSnd 53 11 (a_iload 12 1) := snd_iload_n (by decide +kernel : decode (mBc 53) 11 = .ok (.iload_n 1, 1)) rfl rfl
theorem s53_12 : mSnd 53 12 (a_invS 15 126 2 0 0 0 0) := snd_invSN (host := "JointWorks") k53_126 rfl rfl (by decide +kernel) q229 q1 (by decide +kernel) (by decide +kernel : decode (mBc 53) 12 = .ok (.invokestatic 68, 3)) rfl
theorem s53_15 : mSnd 53 15 (a_if 18 43 (fun x => decide (¬ x = 0))) := snd_if_ne (by decide +kernel : decode (mBc 53) 15 = .ok (.ifCond .ne 28, 3)) rfl rfl
theorem s53_18 : mSnd 53 18 (a_iload 19 3) := snd_iload_n (by decide +kernel : decode (mBc 53) 18 = .ok (.iload_n 3, 1)) rfl rfl
theorem s53_19 : mSnd 53 19 (a_iload 20 2) := snd_iload_n (by decide +kernel : decode (mBc 53) 19 = .ok (.iload_n 2, 1)) rfl rfl
theorem s53_20 : mSnd 53 20 (a_invS 23 126 2 0 0 0 0) := snd_invSN (host := "JointWorks") k53_126 rfl rfl (by decide +kernel) q229 q1 (by decide +kernel) (by decide +kernel : decode (mBc 53) 20 = .ok (.invokestatic 68, 3)) rfl
theorem s53_23 : mSnd 53 23 (a_if 26 43 (fun x => decide (¬ x = 0))) := snd_if_ne (by decide +kernel : decode (mBc 53) 23 = .ok (.ifCond .ne 20, 3)) rfl rfl
theorem s53_26 : mSnd 53 26 (a_aload 27 0) := snd_aload_n (by decide +kernel : decode (mBc 53) 26 = .ok (.aload_n 0, 1)) rfl rfl
theorem s53_27 : mSnd 53 27 (a_iload 28 1) := snd_iload_n (by decide +kernel : decode (mBc 53) 27 = .ok (.iload_n 1, 1)) rfl rfl
theorem s53_28 : mSnd 53 28 (a_iload 29 3) := snd_iload_n (by decide +kernel : decode (mBc 53) 28 = .ok (.iload_n 3, 1)) rfl rfl
theorem s53_29 : mSnd 53 29 (a_invV 32 2 0 0 [(1, 50, 0, 0), (2, 50, 0, 0), (4, 50, 0, 0), (6, 50, 0, 0), (8, 50, 0, 0)]) := snd_invV v53_72 rfl rfl (by decide +kernel : decode (mBc 53) 29 = .ok (.invokevirtual 72, 3)) rfl
theorem s53_32 : mSnd 53 32 (a_aload 33 0) := snd_aload_n (by decide +kernel : decode (mBc 53) 32 = .ok (.aload_n 0, 1)) rfl rfl
theorem s53_33 : mSnd 53 33 (a_iload 34 2) := snd_iload_n (by decide +kernel : decode (mBc 53) 33 = .ok (.iload_n 2, 1)) rfl rfl
theorem s53_34 : mSnd 53 34 (a_iload 35 3) := snd_iload_n (by decide +kernel : decode (mBc 53) 34 = .ok (.iload_n 3, 1)) rfl rfl
theorem s53_35 : mSnd 53 35 (a_invV 38 2 0 0 [(1, 50, 0, 0), (2, 50, 0, 0), (4, 50, 0, 0), (6, 50, 0, 0), (8, 50, 0, 0)]) := snd_invV v53_72 rfl rfl (by decide +kernel : decode (mBc 53) 35 = .ok (.invokevirtual 72, 3)) rfl
theorem s53_38 : mSnd 53 38 (a_icmp 41 43 (fun x y => decide (x = y))) := snd_icmp_eq (by decide +kernel : decode (mBc 53) 38 = .ok (.if_icmp .eq 5, 3)) rfl rfl
theorem s53_41 : mSnd 53 41 (a_push 42 (.int (iZ 0))) := snd_iconst (by decide +kernel : decode (mBc 53) 41 = .ok (.iconst 0, 1)) rfl rfl
theorem s53_42 : mSnd 53 42 (a_zret 0 0) := snd_zret rfl rfl rfl (by decide +kernel : decode (mBc 53) 42 = .ok (.ireturn, 1))
theorem s53_43 : mSnd 53 43 (a_iinc 46 3 (iZ 1)) := snd_iinc (by decide +kernel : decode (mBc 53) 43 = .ok (.iinc 3 1, 3)) rfl (by decide) rfl
theorem s53_46 : mSnd 53 46 (a_goto 2) := snd_goto (by decide +kernel : decode (mBc 53) 46 = .ok (.goto (-44), 3)) rfl
theorem s53_49 : mSnd 53 49 (a_push 50 (.int (iZ 1))) := snd_iconst (by decide +kernel : decode (mBc 53) 49 = .ok (.iconst 1, 1)) rfl rfl
theorem s53_50 : mSnd 53 50 (a_zret 0 0) := snd_zret rfl rfl rfl (by decide +kernel : decode (mBc 53) 50 = .ok (.ireturn, 1))
theorem ok53 : mOkl2 53 ct53 := ⟨⟨s53_0, s53_1, s53_2, s53_3, s53_4, s53_7, s53_10, s53_11, s53_12, s53_15, s53_18, s53_19, trivial⟩, ⟨s53_20, s53_23, s53_26, s53_27, s53_28, s53_29, s53_32, s53_33, s53_34, s53_35, s53_38, s53_41, trivial⟩, ⟨s53_42, s53_43, s53_46, s53_49, s53_50, trivial⟩, trivial⟩
theorem s54_0 : mSnd 54 0 (a_push 1 (.int (iZ 0))) := snd_iconst (by decide +kernel : decode (mBc 54) 0 = .ok (.iconst 0, 1)) rfl rfl
theorem s54_1 : mSnd 54 1 (a_istore 2 1) := snd_istore_n (by decide +kernel : decode (mBc 54) 1 = .ok (.istore_n 1, 1)) rfl (by decide) rfl
theorem s54_2 : mSnd 54 2 (a_push 3 (.int (iZ 0))) := snd_iconst (by decide +kernel : decode (mBc 54) 2 = .ok (.iconst 0, 1)) rfl rfl
theorem s54_3 : mSnd 54 3 (a_istore 4 2) := snd_istore_n (by decide +kernel : decode (mBc 54) 3 = .ok (.istore_n 2, 1)) rfl (by decide) rfl
theorem s54_4 : mSnd 54 4 (a_iload 5 2) := snd_iload_n (by decide +kernel : decode (mBc 54) 4 = .ok (.iload_n 2, 1)) rfl rfl
theorem s54_5 : mSnd 54 5 (a_aload 6 0) := snd_aload_n (by decide +kernel : decode (mBc 54) 5 = .ok (.aload_n 0, 1)) rfl rfl
theorem s54_6 : mSnd 54 6 (a_getf 9 1 [1, 2, 4, 6, 8]) := snd_getf f10 q124 (Or.inl rfl) (by decide +kernel : decode (mBc 54) 6 = .ok (.getfield 15, 3)) rfl
theorem s54_9 : mSnd 54 9 (a_icmp 12 39 (fun x y => decide (y ≤ x))) := snd_icmp_ge (by decide +kernel : decode (mBc 54) 9 = .ok (.if_icmp .ge 30, 3)) rfl rfl
theorem s54_12 : mSnd 54 12 (a_aload 13 0) := snd_aload_n (by decide +kernel : decode (mBc 54) 12 = .ok (.aload_n 0, 1)) rfl rfl
theorem s54_13 : mSnd 54 13 (a_iload 14 2) := snd_iload_n (by decide +kernel : decode (mBc 54) 13 = .ok (.iload_n 2, 1)) rfl rfl
theorem s54_14 : mSnd 54 14 (a_aload 15 0) := snd_aload_n (by decide +kernel : decode (mBc 54) 14 = .ok (.aload_n 0, 1)) rfl rfl
theorem s54_15 : mSnd 54 15 (a_invV 18 0 0 0 [(1, 42, 0, 0), (2, 42, 0, 0), (4, 42, 0, 0), (6, 42, 0, 0), (8, 42, 0, 0)]) := snd_invV v54_42 rfl rfl (by decide +kernel : decode (mBc 54) 15 = .ok (.invokevirtual 42, 3)) rfl
theorem s54_18 : mSnd 54 18 (a_push 19 (.int (iZ 1))) := snd_iconst (by decide +kernel : decode (mBc 54) 18 = .ok (.iconst 1, 1)) rfl rfl
theorem s54_19 : mSnd 54 19 (a_iload 20 2) := snd_iload_n (by decide +kernel : decode (mBc 54) 19 = .ok (.iload_n 2, 1)) rfl rfl
theorem s54_20 : mSnd 54 20 (a_ii 21 (fun x y => x <<< (y &&& 31))) := snd_ishl (by decide +kernel : decode (mBc 54) 20 = .ok (.ishl, 1)) rfl
theorem s54_21 : mSnd 54 21 (a_push 22 (.int (iZ (-1)))) := snd_iconst (by decide +kernel : decode (mBc 54) 21 = .ok (.iconst (-1), 1)) rfl rfl
theorem s54_22 : mSnd 54 22 (a_ii 23 (fun x y => x ^^^ y)) := snd_ixor (by decide +kernel : decode (mBc 54) 22 = .ok (.ixor, 1)) rfl
theorem s54_23 : mSnd 54 23 (a_ii 24 (fun x y => x &&& y)) := snd_iand (by decide +kernel : decode (mBc 54) 23 = .ok (.iand, 1)) rfl
theorem s54_24 : mSnd 54 24 (a_invV 27 2 0 0 [(1, 50, 0, 0), (2, 50, 0, 0), (4, 50, 0, 0), (6, 50, 0, 0), (8, 50, 0, 0)]) := snd_invV v54_72 rfl rfl (by decide +kernel : decode (mBc 54) 24 = .ok (.invokevirtual 72, 3)) rfl
theorem s54_27 : mSnd 54 27 (a_if 30 33 (fun x => decide (0 ≤ x))) := snd_if_ge (by decide +kernel : decode (mBc 54) 27 = .ok (.ifCond .ge 6, 3)) rfl rfl
theorem s54_30 : mSnd 54 30 (a_iinc 33 1 (iZ 1)) := snd_iinc (by decide +kernel : decode (mBc 54) 30 = .ok (.iinc 1 1, 3)) rfl (by decide) rfl
theorem s54_33 : mSnd 54 33 (a_iinc 36 2 (iZ 1)) := snd_iinc (by decide +kernel : decode (mBc 54) 33 = .ok (.iinc 2 1, 3)) rfl (by decide) rfl
theorem s54_36 : mSnd 54 36 (a_goto 4) := snd_goto (by decide +kernel : decode (mBc 54) 36 = .ok (.goto (-32), 3)) rfl
theorem s54_39 : mSnd 54 39 (a_iload 40 1) := snd_iload_n (by decide +kernel : decode (mBc 54) 39 = .ok (.iload_n 1, 1)) rfl rfl
theorem s54_40 : mSnd 54 40 (a_iret 0 0) := snd_iret rfl rfl rfl (by decide +kernel : decode (mBc 54) 40 = .ok (.ireturn, 1))
theorem ok54 : mOkl2 54 ct54 := ⟨⟨s54_0, s54_1, s54_2, s54_3, s54_4, s54_5, s54_6, s54_9, s54_12, s54_13, s54_14, s54_15, trivial⟩, ⟨s54_18, s54_19, s54_20, s54_21, s54_22, s54_23, s54_24, s54_27, s54_30, s54_33, s54_36, s54_39, trivial⟩, ⟨s54_40, trivial⟩, trivial⟩
theorem s55_0 : mSnd 55 0 (a_push 1 (.int (iZ 0))) := snd_iconst (by decide +kernel : decode (mBc 55) 0 = .ok (.iconst 0, 1)) rfl rfl
theorem s55_1 : mSnd 55 1 (a_istore 2 1) := snd_istore_n (by decide +kernel : decode (mBc 55) 1 = .ok (.istore_n 1, 1)) rfl (by decide) rfl
theorem s55_2 : mSnd 55 2 (a_iload 3 1) := snd_iload_n (by decide +kernel : decode (mBc 55) 2 = .ok (.iload_n 1, 1)) rfl rfl
theorem s55_3 : mSnd 55 3 (a_aload 4 0) := snd_aload_n (by decide +kernel : decode (mBc 55) 3 = .ok (.aload_n 0, 1)) rfl rfl
theorem s55_4 : mSnd 55 4 (a_getf 7 1 [1, 2, 4, 6, 8]) := snd_getf f10 q124 (Or.inl rfl) (by decide +kernel : decode (mBc 55) 4 = .ok (.getfield 15, 3)) rfl
theorem s55_7 : mSnd 55 7 (a_icmp 10 70 (fun x y => decide (y ≤ x))) := snd_icmp_ge (by decide +kernel : decode (mBc 55) 7 = .ok (.if_icmp .ge 63, 3)) rfl rfl
theorem s55_10 : mSnd 55 10 (a_push 11 (.int (iZ 0))) := snd_iconst (by decide +kernel : decode (mBc 55) 10 = .ok (.iconst 0, 1)) rfl rfl
theorem s55_11 : mSnd 55 11 (a_istore 12 2) := snd_istore_n (by decide +kernel : decode (mBc 55) 11 = .ok (.istore_n 2, 1)) rfl (by decide) rfl
theorem s55_12 : mSnd 55 12 (a_iload 13 2) := snd_iload_n (by decide +kernel : decode (mBc 55) 12 = .ok (.iload_n 2, 1)) rfl rfl
theorem s55_13 : mSnd 55 13 (a_aload 14 0) := snd_aload_n (by decide +kernel : decode (mBc 55) 13 = .ok (.aload_n 0, 1)) rfl rfl
theorem s55_14 : mSnd 55 14 (a_invV 17 0 0 0 [(1, 42, 0, 0), (2, 42, 0, 0), (4, 42, 0, 0), (6, 42, 0, 0), (8, 42, 0, 0)]) := snd_invV v55_42 rfl rfl (by decide +kernel : decode (mBc 55) 14 = .ok (.invokevirtual 42, 3)) rfl
theorem s55_17 : mSnd 55 17 (a_icmp 20 64 (fun x y => decide (y < x))) := snd_icmp_gt (by decide +kernel : decode (mBc 55) 17 = .ok (.if_icmp .gt 47, 3)) rfl rfl
theorem s55_20 : mSnd 55 20 (a_iload 21 2) := snd_iload_n (by decide +kernel : decode (mBc 55) 20 = .ok (.iload_n 2, 1)) rfl rfl
theorem s55_21 : mSnd 55 21 (a_iload 22 1) := snd_iload_n (by decide +kernel : decode (mBc 55) 21 = .ok (.iload_n 1, 1)) rfl rfl
theorem s55_22 : mSnd 55 22 (a_invS 25 126 2 0 0 0 0) := snd_invSN (host := "JointWorks") k55_126 rfl rfl (by decide +kernel) q229 q1 (by decide +kernel) (by decide +kernel : decode (mBc 55) 22 = .ok (.invokestatic 68, 3)) rfl
theorem s55_25 : mSnd 55 25 (a_push 26 (.int (iZ 1))) := snd_iconst (by decide +kernel : decode (mBc 55) 25 = .ok (.iconst 1, 1)) rfl rfl
theorem s55_26 : mSnd 55 26 (a_icmp 29 33 (fun x y => decide (¬ x = y))) := snd_icmp_ne (by decide +kernel : decode (mBc 55) 26 = .ok (.if_icmp .ne 7, 3)) rfl rfl
theorem s55_29 : mSnd 55 29 (a_push 30 (.int (iZ (-1)))) := snd_iconst (by decide +kernel : decode (mBc 55) 29 = .ok (.iconst (-1), 1)) rfl rfl
theorem s55_30 : mSnd 55 30 (a_goto 39) := snd_goto (by decide +kernel : decode (mBc 55) 30 = .ok (.goto 9, 3)) rfl
theorem s55_33 : mSnd 55 33 (a_aload 34 0) := snd_aload_n (by decide +kernel : decode (mBc 55) 33 = .ok (.aload_n 0, 1)) rfl rfl
theorem s55_34 : mSnd 55 34 (a_iload 35 1) := snd_iload_n (by decide +kernel : decode (mBc 55) 34 = .ok (.iload_n 1, 1)) rfl rfl
theorem s55_35 : mSnd 55 35 (a_iload 36 2) := snd_iload_n (by decide +kernel : decode (mBc 55) 35 = .ok (.iload_n 2, 1)) rfl rfl
theorem s55_36 : mSnd 55 36 (a_invV 39 2 0 0 [(1, 56, 0, 0), (2, 56, 0, 0), (4, 56, 0, 0), (6, 56, 0, 0), (8, 56, 0, 0)]) := snd_invV v55_75 rfl rfl (by decide +kernel : decode (mBc 55) 36 = .ok (.invokevirtual 75, 3)) rfl
theorem s55_39 : mSnd 55 39 (a_istore 40 3) := snd_istore_n (by decide +kernel : decode (mBc 55) 39 = .ok (.istore_n 3, 1)) rfl (by decide) rfl
theorem s55_40 : mSnd 55 40 (a_iload 41 3) := snd_iload_n (by decide +kernel : decode (mBc 55) 40 = .ok (.iload_n 3, 1)) rfl rfl
theorem s55_41 : mSnd 55 41 (a_push 42 (.int (iZ (-1)))) := snd_iconst (by decide +kernel : decode (mBc 55) 41 = .ok (.iconst (-1), 1)) rfl rfl
theorem s55_42 : mSnd 55 42 (a_icmp 45 58 (fun x y => decide (x = y))) := snd_icmp_eq (by decide +kernel : decode (mBc 55) 42 = .ok (.if_icmp .eq 16, 3)) rfl rfl
theorem s55_45 : mSnd 55 45 (a_push 48 (.int (iZ 256))) := snd_sipush (by decide +kernel : decode (mBc 55) 45 = .ok (.sipush 256, 3)) (by decide +kernel) rfl
theorem s55_48 : mSnd 55 48 (a_iload 49 1) := snd_iload_n (by decide +kernel : decode (mBc 55) 48 = .ok (.iload_n 1, 1)) rfl rfl
theorem s55_49 : mSnd 55 49 (a_ii 50 (fun x y => x * y)) := snd_imul (by decide +kernel : decode (mBc 55) 49 = .ok (.imul, 1)) rfl
theorem s55_50 : mSnd 55 50 (a_push 52 (.int (iZ 16))) := snd_bipush (by decide +kernel : decode (mBc 55) 50 = .ok (.bipush 16, 2)) (by decide +kernel) rfl
theorem s55_52 : mSnd 55 52 (a_iload 53 2) := snd_iload_n (by decide +kernel : decode (mBc 55) 52 = .ok (.iload_n 2, 1)) rfl rfl
theorem s55_53 : mSnd 55 53 (a_ii 54 (fun x y => x * y)) := snd_imul (by decide +kernel : decode (mBc 55) 53 = .ok (.imul, 1)) rfl
theorem s55_54 : mSnd 55 54 (a_ii 55 (fun x y => x + y)) := snd_iadd (by decide +kernel : decode (mBc 55) 54 = .ok (.iadd, 1)) rfl
theorem s55_55 : mSnd 55 55 (a_iload 56 3) := snd_iload_n (by decide +kernel : decode (mBc 55) 55 = .ok (.iload_n 3, 1)) rfl rfl
theorem s55_56 : mSnd 55 56 (a_ii 57 (fun x y => x + y)) := snd_iadd (by decide +kernel : decode (mBc 55) 56 = .ok (.iadd, 1)) rfl
theorem s55_57 : mSnd 55 57 (a_iret 0 0) := snd_iret rfl rfl rfl (by decide +kernel : decode (mBc 55) 57 = .ok (.ireturn, 1))
theorem s55_58 : mSnd 55 58 (a_iinc 61 2 (iZ 1)) := snd_iinc (by decide +kernel : decode (mBc 55) 58 = .ok (.iinc 2 1, 3)) rfl (by decide) rfl
theorem s55_61 : mSnd 55 61 (a_goto 12) := snd_goto (by decide +kernel : decode (mBc 55) 61 = .ok (.goto (-49), 3)) rfl
theorem s55_64 : mSnd 55 64 (a_iinc 67 1 (iZ 1)) := snd_iinc (by decide +kernel : decode (mBc 55) 64 = .ok (.iinc 1 1, 3)) rfl (by decide) rfl
theorem s55_67 : mSnd 55 67 (a_goto 2) := snd_goto (by decide +kernel : decode (mBc 55) 67 = .ok (.goto (-65), 3)) rfl
theorem s55_70 : mSnd 55 70 (a_push 71 (.int (iZ (-1)))) := snd_iconst (by decide +kernel : decode (mBc 55) 70 = .ok (.iconst (-1), 1)) rfl rfl
theorem s55_71 : mSnd 55 71 (a_iret 0 0) := snd_iret rfl rfl rfl (by decide +kernel : decode (mBc 55) 71 = .ok (.ireturn, 1))
theorem ok55 : mOkl2 55 ct55 := ⟨⟨s55_0, s55_1, s55_2, s55_3, s55_4, s55_7, s55_10, s55_11, s55_12, s55_13, s55_14, s55_17, trivial⟩, ⟨s55_20, s55_21, s55_22, s55_25, s55_26, s55_29, s55_30, s55_33, s55_34, s55_35, s55_36, s55_39, trivial⟩, ⟨s55_40, s55_41, s55_42, s55_45, s55_48, s55_49, s55_50, s55_52, s55_53, s55_54, s55_55, s55_56, trivial⟩, ⟨s55_57, s55_58, s55_61, s55_64, s55_67, s55_70, s55_71, trivial⟩, trivial⟩
theorem s56_0 : mSnd 56 0 (a_aload 1 0) := snd_aload_n (by decide +kernel : decode (mBc 56) 0 = .ok (.aload_n 0, 1)) rfl rfl
theorem s56_1 : mSnd 56 1 (a_iload 2 1) := snd_iload_n (by decide +kernel : decode (mBc 56) 1 = .ok (.iload_n 1, 1)) rfl rfl
theorem s56_2 : mSnd 56 2 (a_iload 3 2) := snd_iload_n (by decide +kernel : decode (mBc 56) 2 = .ok (.iload_n 2, 1)) rfl rfl
theorem s56_3 : mSnd 56 3 (a_invV 6 2 0 0 [(1, 50, 0, 0), (2, 50, 0, 0), (4, 50, 0, 0), (6, 50, 0, 0), (8, 50, 0, 0)]) := snd_invV v56_72 rfl rfl (by decide +kernel : decode (mBc 56) 3 = .ok (.invokevirtual 72, 3)) rfl
theorem s56_6 : mSnd 56 6 (a_istore 7 3) := snd_istore_n (by decide +kernel : decode (mBc 56) 6 = .ok (.istore_n 3, 1)) rfl (by decide) rfl
theorem s56_7 : mSnd 56 7 (a_iload 8 2) := snd_iload_n (by decide +kernel : decode (mBc 56) 7 = .ok (.iload_n 2, 1)) rfl rfl
theorem s56_8 : mSnd 56 8 (a_push 9 (.int (iZ 1))) := snd_iconst (by decide +kernel : decode (mBc 56) 8 = .ok (.iconst 1, 1)) rfl rfl
theorem s56_9 : mSnd 56 9 (a_ii 10 (fun x y => x + y)) := snd_iadd (by decide +kernel : decode (mBc 56) 9 = .ok (.iadd, 1)) rfl
theorem s56_10 : mSnd 56 10 (a_istore 12 4) := snd_istore (by decide +kernel : decode (mBc 56) 10 = .ok (.istore 4, 2)) (by decide) rfl
theorem s56_12 : mSnd 56 12 (a_iload 14 4) := snd_iload (by decide +kernel : decode (mBc 56) 12 = .ok (.iload 4, 2)) rfl
theorem s56_14 : mSnd 56 14 (a_aload 15 0) := snd_aload_n (by decide +kernel : decode (mBc 56) 14 = .ok (.aload_n 0, 1)) rfl rfl
theorem s56_15 : mSnd 56 15 (a_invV 18 0 0 0 [(1, 42, 0, 0), (2, 42, 0, 0), (4, 42, 0, 0), (6, 42, 0, 0), (8, 42, 0, 0)]) := snd_invV v56_42 rfl rfl (by decide +kernel : decode (mBc 56) 15 = .ok (.invokevirtual 42, 3)) rfl
theorem s56_18 : mSnd 56 18 (a_icmp 21 58 (fun x y => decide (y < x))) := snd_icmp_gt (by decide +kernel : decode (mBc 56) 18 = .ok (.if_icmp .gt 40, 3)) rfl rfl
theorem s56_21 : mSnd 56 21 (a_iload 23 4) := snd_iload (by decide +kernel : decode (mBc 56) 21 = .ok (.iload 4, 2)) rfl
theorem s56_23 : mSnd 56 23 (a_iload 24 2) := snd_iload_n (by decide +kernel : decode (mBc 56) 23 = .ok (.iload_n 2, 1)) rfl rfl
theorem s56_24 : mSnd 56 24 (a_ii 25 (fun x y => x &&& y)) := snd_iand (by decide +kernel : decode (mBc 56) 24 = .ok (.iand, 1)) rfl
theorem s56_25 : mSnd 56 25 (a_iload 26 2) := snd_iload_n (by decide +kernel : decode (mBc 56) 25 = .ok (.iload_n 2, 1)) rfl rfl
theorem s56_26 : mSnd 56 26 (a_icmp 29 52 (fun x y => decide (¬ x = y))) := snd_icmp_ne (by decide +kernel : decode (mBc 56) 26 = .ok (.if_icmp .ne 26, 3)) rfl rfl
theorem s56_29 : mSnd 56 29 (a_iload 31 4) := snd_iload (by decide +kernel : decode (mBc 56) 29 = .ok (.iload 4, 2)) rfl
theorem s56_31 : mSnd 56 31 (a_iload 32 1) := snd_iload_n (by decide +kernel : decode (mBc 56) 31 = .ok (.iload_n 1, 1)) rfl rfl
theorem s56_32 : mSnd 56 32 (a_invS 35 126 2 0 0 0 0) := snd_invSN (host := "JointWorks") k56_126 rfl rfl (by decide +kernel) q229 q1 (by decide +kernel) (by decide +kernel : decode (mBc 56) 32 = .ok (.invokestatic 68, 3)) rfl
theorem s56_35 : mSnd 56 35 (a_if 38 52 (fun x => decide (¬ x = 0))) := snd_if_ne (by decide +kernel : decode (mBc 56) 35 = .ok (.ifCond .ne 17, 3)) rfl rfl
theorem s56_38 : mSnd 56 38 (a_aload 39 0) := snd_aload_n (by decide +kernel : decode (mBc 56) 38 = .ok (.aload_n 0, 1)) rfl rfl
theorem s56_39 : mSnd 56 39 (a_iload 40 1) := snd_iload_n (by decide +kernel : decode (mBc 56) 39 = .ok (.iload_n 1, 1)) rfl rfl
theorem s56_40 : mSnd 56 40 (a_iload 42 4) := snd_iload (by decide +kernel : decode (mBc 56) 40 = .ok (.iload 4, 2)) rfl
theorem s56_42 : mSnd 56 42 (a_invV 45 2 0 0 [(1, 50, 0, 0), (2, 50, 0, 0), (4, 50, 0, 0), (6, 50, 0, 0), (8, 50, 0, 0)]) := snd_invV v56_72 rfl rfl (by decide +kernel : decode (mBc 56) 42 = .ok (.invokevirtual 72, 3)) rfl
theorem s56_45 : mSnd 56 45 (a_iload 46 3) := snd_iload_n (by decide +kernel : decode (mBc 56) 45 = .ok (.iload_n 3, 1)) rfl rfl
theorem s56_46 : mSnd 56 46 (a_icmp 49 52 (fun x y => decide (y ≤ x))) := snd_icmp_ge (by decide +kernel : decode (mBc 56) 46 = .ok (.if_icmp .ge 6, 3)) rfl rfl
theorem s56_49 : mSnd 56 49 (a_iload 51 4) := snd_iload (by decide +kernel : decode (mBc 56) 49 = .ok (.iload 4, 2)) rfl
theorem s56_51 : mSnd 56 51 (a_iret 0 0) := snd_iret rfl rfl rfl (by decide +kernel : decode (mBc 56) 51 = .ok (.ireturn, 1))
theorem s56_52 : mSnd 56 52 (a_iinc 55 4 (iZ 1)) := snd_iinc (by decide +kernel : decode (mBc 56) 52 = .ok (.iinc 4 1, 3)) rfl (by decide) rfl
theorem s56_55 : mSnd 56 55 (a_goto 12) := snd_goto (by decide +kernel : decode (mBc 56) 55 = .ok (.goto (-43), 3)) rfl
theorem s56_58 : mSnd 56 58 (a_push 59 (.int (iZ (-1)))) := snd_iconst (by decide +kernel : decode (mBc 56) 58 = .ok (.iconst (-1), 1)) rfl rfl
theorem s56_59 : mSnd 56 59 (a_iret 0 0) := snd_iret rfl rfl rfl (by decide +kernel : decode (mBc 56) 59 = .ok (.ireturn, 1))
theorem ok56 : mOkl2 56 ct56 := ⟨⟨s56_0, s56_1, s56_2, s56_3, s56_6, s56_7, s56_8, s56_9, s56_10, s56_12, s56_14, s56_15, trivial⟩, ⟨s56_18, s56_21, s56_23, s56_24, s56_25, s56_26, s56_29, s56_31, s56_32, s56_35, s56_38, s56_39, trivial⟩, ⟨s56_40, s56_42, s56_45, s56_46, s56_49, s56_51, s56_52, s56_55, s56_58, s56_59, trivial⟩, trivial⟩
theorem s57_0 : mSnd 57 0 (a_iload 1 1) := snd_iload_n (by decide +kernel : decode (mBc 57) 0 = .ok (.iload_n 1, 1)) rfl rfl
theorem s57_1 : mSnd 57 1 (a_invS 4 217 1 0 0 0 0) := snd_invS k57_217 rfl rfl q531 q286 q11 (by decide +kernel) (by decide +kernel : decode (mBc 57) 1 = .ok (.invokestatic 78, 3)) rfl
theorem s57_4 : mSnd 57 4 (a_istore 5 2) := snd_istore_n (by decide +kernel : decode (mBc 57) 4 = .ok (.istore_n 2, 1)) rfl (by decide) rfl
theorem s57_5 : mSnd 57 5 (a_iload 6 2) := snd_iload_n (by decide +kernel : decode (mBc 57) 5 = .ok (.iload_n 2, 1)) rfl rfl
theorem s57_6 : mSnd 57 6 (a_invS 9 128 1 0 0 0 0) := snd_invSN (host := "JointWorks") k57_128 rfl rfl (by decide +kernel) q533 q1 (by decide +kernel) (by decide +kernel : decode (mBc 57) 6 = .ok (.invokestatic 83, 3)) rfl
theorem s57_9 : mSnd 57 9 (a_aload 10 0) := snd_aload_n (by decide +kernel : decode (mBc 57) 9 = .ok (.aload_n 0, 1)) rfl rfl
theorem s57_10 : mSnd 57 10 (a_getf 13 1 [1, 2, 4, 6, 8]) := snd_getf f10 q124 (Or.inl rfl) (by decide +kernel : decode (mBc 57) 10 = .ok (.getfield 15, 3)) rfl
theorem s57_13 : mSnd 57 13 (a_push 14 (.int (iZ 1))) := snd_iconst (by decide +kernel : decode (mBc 57) 13 = .ok (.iconst 1, 1)) rfl rfl
theorem s57_14 : mSnd 57 14 (a_ii 15 (fun x y => x - y)) := snd_isub (by decide +kernel : decode (mBc 57) 14 = .ok (.isub, 1)) rfl
theorem s57_15 : mSnd 57 15 (a_iload 16 2) := snd_iload_n (by decide +kernel : decode (mBc 57) 15 = .ok (.iload_n 2, 1)) rfl rfl
theorem s57_16 : mSnd 57 16 (a_ii 17 (fun x y => x - y)) := snd_isub (by decide +kernel : decode (mBc 57) 16 = .ok (.isub, 1)) rfl
theorem s57_17 : mSnd 57 17 (a_invS 20 128 1 0 0 0 0) := snd_invSN (host := "JointWorks") k57_128 rfl rfl (by decide +kernel) q533 q1 (by decide +kernel) (by decide +kernel : decode (mBc 57) 17 = .ok (.invokestatic 83, 3)) rfl
theorem s57_20 : mSnd 57 20 (a_ii 21 (fun x y => x * y)) := snd_imul (by decide +kernel : decode (mBc 57) 20 = .ok (.imul, 1)) rfl
theorem s57_21 : mSnd 57 21 (a_iret 0 0) := snd_iret rfl rfl rfl (by decide +kernel : decode (mBc 57) 21 = .ok (.ireturn, 1))
theorem ok57 : mOkl2 57 ct57 := ⟨⟨s57_0, s57_1, s57_4, s57_5, s57_6, s57_9, s57_10, s57_13, s57_14, s57_15, s57_16, s57_17, trivial⟩, ⟨s57_20, s57_21, trivial⟩, trivial⟩
theorem s58_0 : mSnd 58 0 (a_push 1 (.int (iZ 0))) := snd_iconst (by decide +kernel : decode (mBc 58) 0 = .ok (.iconst 0, 1)) rfl rfl
theorem s58_1 : mSnd 58 1 (a_istore 2 3) := snd_istore_n (by decide +kernel : decode (mBc 58) 1 = .ok (.istore_n 3, 1)) rfl (by decide) rfl
theorem s58_2 : mSnd 58 2 (a_push 3 (.int (iZ 0))) := snd_iconst (by decide +kernel : decode (mBc 58) 2 = .ok (.iconst 0, 1)) rfl rfl
theorem s58_3 : mSnd 58 3 (a_istore 5 4) := snd_istore (by decide +kernel : decode (mBc 58) 3 = .ok (.istore 4, 2)) (by decide) rfl
theorem s58_5 : mSnd 58 5 (a_iload 7 4) := snd_iload (by decide +kernel : decode (mBc 58) 5 = .ok (.iload 4, 2)) rfl
theorem s58_7 : mSnd 58 7 (a_aload 8 0) := snd_aload_n (by decide +kernel : decode (mBc 58) 7 = .ok (.aload_n 0, 1)) rfl rfl
theorem s58_8 : mSnd 58 8 (a_invV 11 0 0 0 [(1, 42, 0, 0), (2, 42, 0, 0), (4, 42, 0, 0), (6, 42, 0, 0), (8, 42, 0, 0)]) := snd_invV v58_42 rfl rfl (by decide +kernel : decode (mBc 58) 8 = .ok (.invokevirtual 42, 3)) rfl
theorem s58_11 : mSnd 58 11 (a_icmp 14 66 (fun x y => decide (y < x))) := snd_icmp_gt (by decide +kernel : decode (mBc 58) 11 = .ok (.if_icmp .gt 55, 3)) rfl rfl
theorem s58_14 : mSnd 58 14 (a_iload 16 4) := snd_iload (by decide +kernel : decode (mBc 58) 14 = .ok (.iload 4, 2)) rfl
theorem s58_16 : mSnd 58 16 (a_iload 17 1) := snd_iload_n (by decide +kernel : decode (mBc 58) 16 = .ok (.iload_n 1, 1)) rfl rfl
theorem s58_17 : mSnd 58 17 (a_invS 20 126 2 0 0 0 0) := snd_invSN (host := "JointWorks") k58_126 rfl rfl (by decide +kernel) q229 q1 (by decide +kernel) (by decide +kernel : decode (mBc 58) 17 = .ok (.invokestatic 68, 3)) rfl
theorem s58_20 : mSnd 58 20 (a_if 23 60 (fun x => decide (¬ x = 0))) := snd_if_ne (by decide +kernel : decode (mBc 58) 20 = .ok (.ifCond .ne 40, 3)) rfl rfl
theorem s58_23 : mSnd 58 23 (a_aload 24 0) := snd_aload_n (by decide +kernel : decode (mBc 58) 23 = .ok (.aload_n 0, 1)) rfl rfl
theorem s58_24 : mSnd 58 24 (a_iload 26 4) := snd_iload (by decide +kernel : decode (mBc 58) 24 = .ok (.iload 4, 2)) rfl
theorem s58_26 : mSnd 58 26 (a_invV 29 1 0 0 [(1, 46, 0, 0), (2, 46, 0, 0), (4, 46, 0, 0), (6, 46, 0, 0), (8, 46, 0, 0)]) := snd_invV v58_46 rfl rfl (by decide +kernel : decode (mBc 58) 26 = .ok (.invokevirtual 46, 3)) rfl
theorem s58_29 : mSnd 58 29 (a_if 32 60 (fun x => decide (¬ x = 0))) := snd_if_ne (by decide +kernel : decode (mBc 58) 29 = .ok (.ifCond .ne 31, 3)) rfl rfl
theorem s58_32 : mSnd 58 32 (a_aload 33 0) := snd_aload_n (by decide +kernel : decode (mBc 58) 32 = .ok (.aload_n 0, 1)) rfl rfl
theorem s58_33 : mSnd 58 33 (a_iload 34 1) := snd_iload_n (by decide +kernel : decode (mBc 58) 33 = .ok (.iload_n 1, 1)) rfl rfl
theorem s58_34 : mSnd 58 34 (a_iload 36 4) := snd_iload (by decide +kernel : decode (mBc 58) 34 = .ok (.iload 4, 2)) rfl
theorem s58_36 : mSnd 58 36 (a_invV 39 2 0 0 [(1, 50, 0, 0), (2, 50, 0, 0), (4, 50, 0, 0), (6, 50, 0, 0), (8, 50, 0, 0)]) := snd_invV v58_72 rfl rfl (by decide +kernel : decode (mBc 58) 36 = .ok (.invokevirtual 72, 3)) rfl
theorem s58_39 : mSnd 58 39 (a_push 40 (.int (iZ 1))) := snd_iconst (by decide +kernel : decode (mBc 58) 39 = .ok (.iconst 1, 1)) rfl rfl
theorem s58_40 : mSnd 58 40 (a_icmp 43 60 (fun x y => decide (¬ x = y))) := snd_icmp_ne (by decide +kernel : decode (mBc 58) 40 = .ok (.if_icmp .ne 20, 3)) rfl rfl
theorem s58_43 : mSnd 58 43 (a_iload 44 3) := snd_iload_n (by decide +kernel : decode (mBc 58) 43 = .ok (.iload_n 3, 1)) rfl rfl
theorem s58_44 : mSnd 58 44 (a_iload 45 2) := snd_iload_n (by decide +kernel : decode (mBc 58) 44 = .ok (.iload_n 2, 1)) rfl rfl
theorem s58_45 : mSnd 58 45 (a_if 48 57 (fun x => decide (x = 0))) := snd_if_eq (by decide +kernel : decode (mBc 58) 45 = .ok (.ifCond .eq 12, 3)) rfl rfl
theorem s58_48 : mSnd 58 48 (a_aload 49 0) := snd_aload_n (by decide +kernel : decode (mBc 58) 48 = .ok (.aload_n 0, 1)) rfl rfl
theorem s58_49 : mSnd 58 49 (a_iload 51 4) := snd_iload (by decide +kernel : decode (mBc 58) 49 = .ok (.iload 4, 2)) rfl
theorem s58_51 : mSnd 58 51 (a_invV 54 1 0 0 [(1, 57, 0, 0), (2, 57, 0, 0), (4, 57, 0, 0), (6, 57, 0, 0), (8, 57, 0, 0)]) := snd_invV v58_86 rfl rfl (by decide +kernel : decode (mBc 58) 51 = .ok (.invokevirtual 86, 3)) rfl
theorem s58_54 : mSnd 58 54 (a_goto 58) := snd_goto (by decide +kernel : decode (mBc 58) 54 = .ok (.goto 4, 3)) rfl
theorem s58_57 : mSnd 58 57 (a_push 58 (.int (iZ 1))) := snd_iconst (by decide +kernel : decode (mBc 58) 57 = .ok (.iconst 1, 1)) rfl rfl
theorem s58_58 : mSnd 58 58 (a_ii 59 (fun x y => x + y)) := snd_iadd (by decide +kernel : decode (mBc 58) 58 = .ok (.iadd, 1)) rfl
theorem s58_59 : mSnd 58 59 (a_istore 60 3) := snd_istore_n (by decide +kernel : decode (mBc 58) 59 = .ok (.istore_n 3, 1)) rfl (by decide) rfl
theorem s58_60 : mSnd 58 60 (a_iinc 63 4 (iZ 1)) := snd_iinc (by decide +kernel : decode (mBc 58) 60 = .ok (.iinc 4 1, 3)) rfl (by decide) rfl
theorem s58_63 : mSnd 58 63 (a_goto 5) := snd_goto (by decide +kernel : decode (mBc 58) 63 = .ok (.goto (-58), 3)) rfl
theorem s58_66 : mSnd 58 66 (a_iload 67 3) := snd_iload_n (by decide +kernel : decode (mBc 58) 66 = .ok (.iload_n 3, 1)) rfl rfl
theorem s58_67 : mSnd 58 67 (a_iret 0 0) := snd_iret rfl rfl rfl (by decide +kernel : decode (mBc 58) 67 = .ok (.ireturn, 1))
theorem ok58 : mOkl2 58 ct58 := ⟨⟨s58_0, s58_1, s58_2, s58_3, s58_5, s58_7, s58_8, s58_11, s58_14, s58_16, s58_17, s58_20, trivial⟩, ⟨s58_23, s58_24, s58_26, s58_29, s58_32, s58_33, s58_34, s58_36, s58_39, s58_40, s58_43, s58_44, trivial⟩, ⟨s58_45, s58_48, s58_49, s58_51, s58_54, s58_57, s58_58, s58_59, s58_60, s58_63, s58_66, s58_67, trivial⟩, trivial⟩
theorem s59_0 : mSnd 59 0 (a_iload 1 1) := snd_iload_n (by decide +kernel : decode (mBc 59) 0 = .ok (.iload_n 1, 1)) rfl rfl
theorem s59_1 : mSnd 59 1 (a_if 4 14 (fun x => decide (¬ x = 0))) := snd_if_ne (by decide +kernel : decode (mBc 59) 1 = .ok (.ifCond .ne 13, 3)) rfl rfl
theorem s59_4 : mSnd 59 4 (a_aload 5 0) := snd_aload_n (by decide +kernel : decode (mBc 59) 4 = .ok (.aload_n 0, 1)) rfl rfl
theorem s59_5 : mSnd 59 5 (a_getf 8 1 [1, 2, 4, 6, 8]) := snd_getf f10 q124 (Or.inl rfl) (by decide +kernel : decode (mBc 59) 5 = .ok (.getfield 15, 3)) rfl
theorem s59_8 : mSnd 59 8 (a_invS 11 128 1 0 0 0 0) := snd_invSN (host := "JointWorks") k59_128 rfl rfl (by decide +kernel) q533 q1 (by decide +kernel) (by decide +kernel : decode (mBc 59) 8 = .ok (.invokestatic 83, 3)) rfl
theorem s59_11 : mSnd 59 11 (a_goto 18) := snd_goto (by decide +kernel : decode (mBc 59) 11 = .ok (.goto 7, 3)) rfl
theorem s59_14 : mSnd 59 14 (a_aload 15 0) := snd_aload_n (by decide +kernel : decode (mBc 59) 14 = .ok (.aload_n 0, 1)) rfl rfl
theorem s59_15 : mSnd 59 15 (a_getf 18 1 [1, 2, 4, 6, 8]) := snd_getf f10 q124 (Or.inl rfl) (by decide +kernel : decode (mBc 59) 15 = .ok (.getfield 15, 3)) rfl
theorem s59_18 : mSnd 59 18 (a_iret 0 0) := snd_iret rfl rfl rfl (by decide +kernel : decode (mBc 59) 18 = .ok (.ireturn, 1))
theorem ok59 : mOkl2 59 ct59 := ⟨⟨s59_0, s59_1, s59_4, s59_5, s59_8, s59_11, s59_14, s59_15, s59_18, trivial⟩, trivial⟩
theorem s60_0 : mSnd 60 0 (a_iload 1 1) := snd_iload_n (by decide +kernel : decode (mBc 60) 0 = .ok (.iload_n 1, 1)) rfl rfl
theorem s60_1 : mSnd 60 1 (a_if 4 12 (fun x => decide (¬ x = 0))) := snd_if_ne (by decide +kernel : decode (mBc 60) 1 = .ok (.ifCond .ne 11, 3)) rfl rfl
theorem s60_4 : mSnd 60 4 (a_aload 5 0) := snd_aload_n (by decide +kernel : decode (mBc 60) 4 = .ok (.aload_n 0, 1)) rfl rfl
theorem s60_5 : mSnd 60 5 (a_iload 6 2) := snd_iload_n (by decide +kernel : decode (mBc 60) 5 = .ok (.iload_n 2, 1)) rfl rfl
theorem s60_6 : mSnd 60 6 (a_invV 9 1 0 0 [(1, 61, 0, 0), (2, 61, 0, 0), (4, 61, 0, 0), (6, 61, 0, 0), (8, 61, 0, 0)]) := snd_invV v60_89 rfl rfl (by decide +kernel : decode (mBc 60) 6 = .ok (.invokevirtual 89, 3)) rfl
theorem s60_9 : mSnd 60 9 (a_goto 17) := snd_goto (by decide +kernel : decode (mBc 60) 9 = .ok (.goto 8, 3)) rfl
theorem s60_12 : mSnd 60 12 (a_aload 13 0) := snd_aload_n (by decide +kernel : decode (mBc 60) 12 = .ok (.aload_n 0, 1)) rfl rfl
theorem s60_13 : mSnd 60 13 (a_iload 14 2) := snd_iload_n (by decide +kernel : decode (mBc 60) 13 = .ok (.iload_n 2, 1)) rfl rfl
theorem s60_14 : mSnd 60 14 (a_invV 17 1 0 0 [(1, 62, 0, 0), (2, 62, 0, 0), (4, 62, 0, 0), (6, 62, 0, 0), (8, 62, 0, 0)]) := snd_invV v60_92 rfl rfl (by decide +kernel : decode (mBc 60) 14 = .ok (.invokevirtual 92, 3)) rfl
theorem s60_17 : mSnd 60 17 (a_iret 0 0) := snd_iret rfl rfl rfl (by decide +kernel : decode (mBc 60) 17 = .ok (.ireturn, 1))
theorem ok60 : mOkl2 60 ct60 := ⟨⟨s60_0, s60_1, s60_4, s60_5, s60_6, s60_9, s60_12, s60_13, s60_14, s60_17, trivial⟩, trivial⟩
theorem s61_0 : mSnd 61 0 (a_push 1 (.int (iZ 0))) := snd_iconst (by decide +kernel : decode (mBc 61) 0 = .ok (.iconst 0, 1)) rfl rfl
theorem s61_1 : mSnd 61 1 (a_istore 2 2) := snd_istore_n (by decide +kernel : decode (mBc 61) 1 = .ok (.istore_n 2, 1)) rfl (by decide) rfl
theorem s61_2 : mSnd 61 2 (a_push 3 (.int (iZ 0))) := snd_iconst (by decide +kernel : decode (mBc 61) 2 = .ok (.iconst 0, 1)) rfl rfl
theorem s61_3 : mSnd 61 3 (a_istore 4 3) := snd_istore_n (by decide +kernel : decode (mBc 61) 3 = .ok (.istore_n 3, 1)) rfl (by decide) rfl
theorem s61_4 : mSnd 61 4 (a_iload 5 3) := snd_iload_n (by decide +kernel : decode (mBc 61) 4 = .ok (.iload_n 3, 1)) rfl rfl
theorem s61_5 : mSnd 61 5 (a_aload 6 0) := snd_aload_n (by decide +kernel : decode (mBc 61) 5 = .ok (.aload_n 0, 1)) rfl rfl
theorem s61_6 : mSnd 61 6 (a_invV 9 0 0 0 [(1, 42, 0, 0), (2, 42, 0, 0), (4, 42, 0, 0), (6, 42, 0, 0), (8, 42, 0, 0)]) := snd_invV v61_42 rfl rfl (by decide +kernel : decode (mBc 61) 6 = .ok (.invokevirtual 42, 3)) rfl
theorem s61_9 : mSnd 61 9 (a_icmp 12 41 (fun x y => decide (y < x))) := snd_icmp_gt (by decide +kernel : decode (mBc 61) 9 = .ok (.if_icmp .gt 32, 3)) rfl rfl
theorem s61_12 : mSnd 61 12 (a_iload 13 3) := snd_iload_n (by decide +kernel : decode (mBc 61) 12 = .ok (.iload_n 3, 1)) rfl rfl
theorem s61_13 : mSnd 61 13 (a_iload 14 1) := snd_iload_n (by decide +kernel : decode (mBc 61) 13 = .ok (.iload_n 1, 1)) rfl rfl
theorem s61_14 : mSnd 61 14 (a_invS 17 126 2 0 0 0 0) := snd_invSN (host := "JointWorks") k61_126 rfl rfl (by decide +kernel) q229 q1 (by decide +kernel) (by decide +kernel : decode (mBc 61) 14 = .ok (.invokestatic 68, 3)) rfl
theorem s61_17 : mSnd 61 17 (a_if 20 35 (fun x => decide (¬ x = 0))) := snd_if_ne (by decide +kernel : decode (mBc 61) 17 = .ok (.ifCond .ne 18, 3)) rfl rfl
theorem s61_20 : mSnd 61 20 (a_iload 21 2) := snd_iload_n (by decide +kernel : decode (mBc 61) 20 = .ok (.iload_n 2, 1)) rfl rfl
theorem s61_21 : mSnd 61 21 (a_aload 22 0) := snd_aload_n (by decide +kernel : decode (mBc 61) 21 = .ok (.aload_n 0, 1)) rfl rfl
theorem s61_22 : mSnd 61 22 (a_iload 23 3) := snd_iload_n (by decide +kernel : decode (mBc 61) 22 = .ok (.iload_n 3, 1)) rfl rfl
theorem s61_23 : mSnd 61 23 (a_invV 26 1 0 0 [(1, 57, 0, 0), (2, 57, 0, 0), (4, 57, 0, 0), (6, 57, 0, 0), (8, 57, 0, 0)]) := snd_invV v61_86 rfl rfl (by decide +kernel : decode (mBc 61) 23 = .ok (.invokevirtual 86, 3)) rfl
theorem s61_26 : mSnd 61 26 (a_aload 27 0) := snd_aload_n (by decide +kernel : decode (mBc 61) 26 = .ok (.aload_n 0, 1)) rfl rfl
theorem s61_27 : mSnd 61 27 (a_iload 28 1) := snd_iload_n (by decide +kernel : decode (mBc 61) 27 = .ok (.iload_n 1, 1)) rfl rfl
theorem s61_28 : mSnd 61 28 (a_iload 29 3) := snd_iload_n (by decide +kernel : decode (mBc 61) 28 = .ok (.iload_n 3, 1)) rfl rfl
theorem s61_29 : mSnd 61 29 (a_invV 32 2 0 0 [(1, 50, 0, 0), (2, 50, 0, 0), (4, 50, 0, 0), (6, 50, 0, 0), (8, 50, 0, 0)]) := snd_invV v61_72 rfl rfl (by decide +kernel : decode (mBc 61) 29 = .ok (.invokevirtual 72, 3)) rfl
theorem s61_32 : mSnd 61 32 (a_ii 33 (fun x y => x * y)) := snd_imul (by decide +kernel : decode (mBc 61) 32 = .ok (.imul, 1)) rfl
theorem s61_33 : mSnd 61 33 (a_ii 34 (fun x y => x + y)) := snd_iadd (by decide +kernel : decode (mBc 61) 33 = .ok (.iadd, 1)) rfl
theorem s61_34 : mSnd 61 34 (a_istore 35 2) := snd_istore_n (by decide +kernel : decode (mBc 61) 34 = .ok (.istore_n 2, 1)) rfl (by decide) rfl
theorem s61_35 : mSnd 61 35 (a_iinc 38 3 (iZ 1)) := snd_iinc (by decide +kernel : decode (mBc 61) 35 = .ok (.iinc 3 1, 3)) rfl (by decide) rfl
theorem s61_38 : mSnd 61 38 (a_goto 4) := snd_goto (by decide +kernel : decode (mBc 61) 38 = .ok (.goto (-34), 3)) rfl
theorem s61_41 : mSnd 61 41 (a_iload 42 2) := snd_iload_n (by decide +kernel : decode (mBc 61) 41 = .ok (.iload_n 2, 1)) rfl rfl
theorem s61_42 : mSnd 61 42 (a_iret 0 0) := snd_iret rfl rfl rfl (by decide +kernel : decode (mBc 61) 42 = .ok (.ireturn, 1))
theorem ok61 : mOkl2 61 ct61 := ⟨⟨s61_0, s61_1, s61_2, s61_3, s61_4, s61_5, s61_6, s61_9, s61_12, s61_13, s61_14, s61_17, trivial⟩, ⟨s61_20, s61_21, s61_22, s61_23, s61_26, s61_27, s61_28, s61_29, s61_32, s61_33, s61_34, s61_35, trivial⟩, ⟨s61_38, s61_41, s61_42, trivial⟩, trivial⟩
theorem s62_0 : mSnd 62 0 (a_aload 1 0) := snd_aload_n (by decide +kernel : decode (mBc 62) 0 = .ok (.aload_n 0, 1)) rfl rfl
theorem s62_1 : mSnd 62 1 (a_invV 4 0 0 0 [(1, 47, 0, 0), (2, 47, 0, 0), (4, 47, 0, 0), (6, 47, 0, 0), (8, 47, 0, 0)]) := snd_invV v62_95 rfl rfl (by decide +kernel : decode (mBc 62) 1 = .ok (.invokevirtual 95, 3)) rfl
theorem s62_4 : mSnd 62 4 (a_istore 5 2) := snd_istore_n (by decide +kernel : decode (mBc 62) 4 = .ok (.istore_n 2, 1)) rfl (by decide) rfl
theorem s62_5 : mSnd 62 5 (a_push 6 (.int (iZ 0))) := snd_iconst (by decide +kernel : decode (mBc 62) 5 = .ok (.iconst 0, 1)) rfl rfl
theorem s62_6 : mSnd 62 6 (a_istore 7 3) := snd_istore_n (by decide +kernel : decode (mBc 62) 6 = .ok (.istore_n 3, 1)) rfl (by decide) rfl
theorem s62_7 : mSnd 62 7 (a_iload 8 3) := snd_iload_n (by decide +kernel : decode (mBc 62) 7 = .ok (.iload_n 3, 1)) rfl rfl
theorem s62_8 : mSnd 62 8 (a_aload 9 0) := snd_aload_n (by decide +kernel : decode (mBc 62) 8 = .ok (.aload_n 0, 1)) rfl rfl
theorem s62_9 : mSnd 62 9 (a_getf 12 1 [1, 2, 4, 6, 8]) := snd_getf f10 q124 (Or.inl rfl) (by decide +kernel : decode (mBc 62) 9 = .ok (.getfield 15, 3)) rfl
theorem s62_12 : mSnd 62 12 (a_icmp 15 31 (fun x y => decide (y ≤ x))) := snd_icmp_ge (by decide +kernel : decode (mBc 62) 12 = .ok (.if_icmp .ge 19, 3)) rfl rfl
theorem s62_15 : mSnd 62 15 (a_iload 16 2) := snd_iload_n (by decide +kernel : decode (mBc 62) 15 = .ok (.iload_n 2, 1)) rfl rfl
theorem s62_16 : mSnd 62 16 (a_aload 17 0) := snd_aload_n (by decide +kernel : decode (mBc 62) 16 = .ok (.aload_n 0, 1)) rfl rfl
theorem s62_17 : mSnd 62 17 (a_push 18 (.int (iZ 1))) := snd_iconst (by decide +kernel : decode (mBc 62) 17 = .ok (.iconst 1, 1)) rfl rfl
theorem s62_18 : mSnd 62 18 (a_iload 19 3) := snd_iload_n (by decide +kernel : decode (mBc 62) 18 = .ok (.iload_n 3, 1)) rfl rfl
theorem s62_19 : mSnd 62 19 (a_ii 20 (fun x y => x <<< (y &&& 31))) := snd_ishl (by decide +kernel : decode (mBc 62) 19 = .ok (.ishl, 1)) rfl
theorem s62_20 : mSnd 62 20 (a_invV 23 1 0 0 [(1, 46, 0, 0), (2, 46, 0, 0), (4, 46, 0, 0), (6, 46, 0, 0), (8, 46, 0, 0)]) := snd_invV v62_46 rfl rfl (by decide +kernel : decode (mBc 62) 20 = .ok (.invokevirtual 46, 3)) rfl
theorem s62_23 : mSnd 62 23 (a_ii 24 (fun x y => x - y)) := snd_isub (by decide +kernel : decode (mBc 62) 23 = .ok (.isub, 1)) rfl
theorem s62_24 : mSnd 62 24 (a_istore 25 2) := snd_istore_n (by decide +kernel : decode (mBc 62) 24 = .ok (.istore_n 2, 1)) rfl (by decide) rfl
theorem s62_25 : mSnd 62 25 (a_iinc 28 3 (iZ 1)) := snd_iinc (by decide +kernel : decode (mBc 62) 25 = .ok (.iinc 3 1, 3)) rfl (by decide) rfl
theorem s62_28 : mSnd 62 28 (a_goto 7) := snd_goto (by decide +kernel : decode (mBc 62) 28 = .ok (.goto (-21), 3)) rfl
theorem s62_31 : mSnd 62 31 (a_aload 32 0) := snd_aload_n (by decide +kernel : decode (mBc 62) 31 = .ok (.aload_n 0, 1)) rfl rfl
theorem s62_32 : mSnd 62 32 (a_getf 35 1 [1, 2, 4, 6, 8]) := snd_getf f10 q124 (Or.inl rfl) (by decide +kernel : decode (mBc 62) 32 = .ok (.getfield 15, 3)) rfl
theorem s62_35 : mSnd 62 35 (a_aload 36 0) := snd_aload_n (by decide +kernel : decode (mBc 62) 35 = .ok (.aload_n 0, 1)) rfl rfl
theorem s62_36 : mSnd 62 36 (a_push 37 (.int (iZ 1))) := snd_iconst (by decide +kernel : decode (mBc 62) 36 = .ok (.iconst 1, 1)) rfl rfl
theorem s62_37 : mSnd 62 37 (a_iload 38 1) := snd_iload_n (by decide +kernel : decode (mBc 62) 37 = .ok (.iload_n 1, 1)) rfl rfl
theorem s62_38 : mSnd 62 38 (a_ii 39 (fun x y => x <<< (y &&& 31))) := snd_ishl (by decide +kernel : decode (mBc 62) 38 = .ok (.ishl, 1)) rfl
theorem s62_39 : mSnd 62 39 (a_invV 42 1 0 0 [(1, 46, 0, 0), (2, 46, 0, 0), (4, 46, 0, 0), (6, 46, 0, 0), (8, 46, 0, 0)]) := snd_invV v62_46 rfl rfl (by decide +kernel : decode (mBc 62) 39 = .ok (.invokevirtual 46, 3)) rfl
theorem s62_42 : mSnd 62 42 (a_ii 43 (fun x y => x * y)) := snd_imul (by decide +kernel : decode (mBc 62) 42 = .ok (.imul, 1)) rfl
theorem s62_43 : mSnd 62 43 (a_iload 44 2) := snd_iload_n (by decide +kernel : decode (mBc 62) 43 = .ok (.iload_n 2, 1)) rfl rfl
theorem s62_44 : mSnd 62 44 (a_ii 45 (fun x y => x + y)) := snd_iadd (by decide +kernel : decode (mBc 62) 44 = .ok (.iadd, 1)) rfl
theorem s62_45 : mSnd 62 45 (a_iret 0 0) := snd_iret rfl rfl rfl (by decide +kernel : decode (mBc 62) 45 = .ok (.ireturn, 1))
theorem ok62 : mOkl2 62 ct62 := ⟨⟨s62_0, s62_1, s62_4, s62_5, s62_6, s62_7, s62_8, s62_9, s62_12, s62_15, s62_16, s62_17, trivial⟩, ⟨s62_18, s62_19, s62_20, s62_23, s62_24, s62_25, s62_28, s62_31, s62_32, s62_35, s62_36, s62_37, trivial⟩, ⟨s62_38, s62_39, s62_42, s62_43, s62_44, s62_45, trivial⟩, trivial⟩
theorem s63_0 : mSnd 63 0 (a_aload 1 0) := snd_aload_n (by decide +kernel : decode (mBc 63) 0 = .ok (.aload_n 0, 1)) rfl rfl
theorem s63_1 : mSnd 63 1 (a_iload 2 1) := snd_iload_n (by decide +kernel : decode (mBc 63) 1 = .ok (.iload_n 1, 1)) rfl rfl
theorem s63_2 : mSnd 63 2 (a_invV 5 1 0 0 [(1, 64, 0, 0), (2, 64, 0, 0), (4, 64, 0, 0), (6, 64, 0, 0), (8, 64, 0, 0)]) := snd_invV v63_98 rfl rfl (by decide +kernel : decode (mBc 63) 2 = .ok (.invokevirtual 98, 3)) rfl
theorem s63_5 : mSnd 63 5 (a_aload 6 0) := snd_aload_n (by decide +kernel : decode (mBc 63) 5 = .ok (.aload_n 0, 1)) rfl rfl
theorem s63_6 : mSnd 63 6 (a_iload 7 1) := snd_iload_n (by decide +kernel : decode (mBc 63) 6 = .ok (.iload_n 1, 1)) rfl rfl
theorem s63_7 : mSnd 63 7 (a_iload 8 2) := snd_iload_n (by decide +kernel : decode (mBc 63) 7 = .ok (.iload_n 2, 1)) rfl rfl
theorem s63_8 : mSnd 63 8 (a_invV 11 2 0 0 [(1, 65, 0, 0), (2, 65, 0, 0), (4, 65, 0, 0), (6, 65, 0, 0), (8, 65, 0, 0)]) := snd_invV v63_101 rfl rfl (by decide +kernel : decode (mBc 63) 8 = .ok (.invokevirtual 101, 3)) rfl
theorem s63_11 : mSnd 63 11 (a_iret 0 0) := snd_iret rfl rfl rfl (by decide +kernel : decode (mBc 63) 11 = .ok (.ireturn, 1))
theorem ok63 : mOkl2 63 ct63 := ⟨⟨s63_0, s63_1, s63_2, s63_5, s63_6, s63_7, s63_8, s63_11, trivial⟩, trivial⟩
theorem s64_0 : mSnd 64 0 (a_push 1 (.int (iZ 0))) := snd_iconst (by decide +kernel : decode (mBc 64) 0 = .ok (.iconst 0, 1)) rfl rfl
theorem s64_1 : mSnd 64 1 (a_istore 2 2) := snd_istore_n (by decide +kernel : decode (mBc 64) 1 = .ok (.istore_n 2, 1)) rfl (by decide) rfl
theorem s64_2 : mSnd 64 2 (a_iload 3 2) := snd_iload_n (by decide +kernel : decode (mBc 64) 2 = .ok (.iload_n 2, 1)) rfl rfl
theorem s64_3 : mSnd 64 3 (a_aload 4 0) := snd_aload_n (by decide +kernel : decode (mBc 64) 3 = .ok (.aload_n 0, 1)) rfl rfl
theorem s64_4 : mSnd 64 4 (a_getf 7 1 [1, 2, 4, 6, 8]) := snd_getf f10 q124 (Or.inl rfl) (by decide +kernel : decode (mBc 64) 4 = .ok (.getfield 15, 3)) rfl
theorem s64_7 : mSnd 64 7 (a_icmp 10 37 (fun x y => decide (y ≤ x))) := snd_icmp_ge (by decide +kernel : decode (mBc 64) 7 = .ok (.if_icmp .ge 30, 3)) rfl rfl
theorem s64_10 : mSnd 64 10 (a_iload 11 2) := snd_iload_n (by decide +kernel : decode (mBc 64) 10 = .ok (.iload_n 2, 1)) rfl rfl
theorem s64_11 : mSnd 64 11 (a_aload 12 0) := snd_aload_n (by decide +kernel : decode (mBc 64) 11 = .ok (.aload_n 0, 1)) rfl rfl
theorem s64_12 : mSnd 64 12 (a_getf 15 3 [1, 2, 4, 6, 8]) := snd_getf f16 q130 (Or.inl rfl) (by decide +kernel : decode (mBc 64) 12 = .ok (.getfield 22, 3)) rfl
theorem s64_15 : mSnd 64 15 (a_alen 16) := snd_alen (by decide +kernel : decode (mBc 64) 15 = .ok (.arraylength, 1)) rfl
theorem s64_16 : mSnd 64 16 (a_icmp 19 37 (fun x y => decide (y ≤ x))) := snd_icmp_ge (by decide +kernel : decode (mBc 64) 16 = .ok (.if_icmp .ge 21, 3)) rfl rfl
theorem s64_19 : mSnd 64 19 (a_aload 20 0) := snd_aload_n (by decide +kernel : decode (mBc 64) 19 = .ok (.aload_n 0, 1)) rfl rfl
theorem s64_20 : mSnd 64 20 (a_getf 23 3 [1, 2, 4, 6, 8]) := snd_getf f16 q130 (Or.inl rfl) (by decide +kernel : decode (mBc 64) 20 = .ok (.getfield 22, 3)) rfl
theorem s64_23 : mSnd 64 23 (a_iload 24 2) := snd_iload_n (by decide +kernel : decode (mBc 64) 23 = .ok (.iload_n 2, 1)) rfl rfl
theorem s64_24 : mSnd 64 24 (a_aload 25 0) := snd_aload_n (by decide +kernel : decode (mBc 64) 24 = .ok (.aload_n 0, 1)) rfl rfl
theorem s64_25 : mSnd 64 25 (a_iload 26 1) := snd_iload_n (by decide +kernel : decode (mBc 64) 25 = .ok (.iload_n 1, 1)) rfl rfl
theorem s64_26 : mSnd 64 26 (a_iload 27 2) := snd_iload_n (by decide +kernel : decode (mBc 64) 26 = .ok (.iload_n 2, 1)) rfl rfl
theorem s64_27 : mSnd 64 27 (a_invV 30 2 0 0 [(1, 60, 0, 0), (2, 60, 0, 0), (4, 60, 0, 0), (6, 60, 0, 0), (8, 60, 0, 0)]) := snd_invV v64_104 rfl rfl (by decide +kernel : decode (mBc 64) 27 = .ok (.invokevirtual 104, 3)) rfl
theorem s64_30 : mSnd 64 30 (a_iast 31) := snd_iast (by decide +kernel : decode (mBc 64) 30 = .ok (.iastore, 1)) rfl
theorem s64_31 : mSnd 64 31 (a_iinc 34 2 (iZ 1)) := snd_iinc (by decide +kernel : decode (mBc 64) 31 = .ok (.iinc 2 1, 3)) rfl (by decide) rfl
theorem s64_34 : mSnd 64 34 (a_goto 2) := snd_goto (by decide +kernel : decode (mBc 64) 34 = .ok (.goto (-32), 3)) rfl
theorem s64_37 : mSnd 64 37 (a_vret 0 0) := snd_vret rfl rfl rfl (by decide +kernel : decode (mBc 64) 37 = .ok (.return_, 1))
theorem ok64 : mOkl2 64 ct64 := ⟨⟨s64_0, s64_1, s64_2, s64_3, s64_4, s64_7, s64_10, s64_11, s64_12, s64_15, s64_16, s64_19, trivial⟩, ⟨s64_20, s64_23, s64_24, s64_25, s64_26, s64_27, s64_30, s64_31, s64_34, s64_37, trivial⟩, trivial⟩
theorem s65_0 : mSnd 65 0 (a_aload 1 0) := snd_aload_n (by decide +kernel : decode (mBc 65) 0 = .ok (.aload_n 0, 1)) rfl rfl
theorem s65_1 : mSnd 65 1 (a_iload 2 2) := snd_iload_n (by decide +kernel : decode (mBc 65) 1 = .ok (.iload_n 2, 1)) rfl rfl
theorem s65_2 : mSnd 65 2 (a_invV 5 1 0 0 [(1, 46, 0, 0), (2, 46, 0, 0), (4, 46, 0, 0), (6, 46, 0, 0), (8, 46, 0, 0)]) := snd_invV v65_46 rfl rfl (by decide +kernel : decode (mBc 65) 2 = .ok (.invokevirtual 46, 3)) rfl
theorem s65_5 : mSnd 65 5 (a_aload 6 0) := snd_aload_n (by decide +kernel : decode (mBc 65) 5 = .ok (.aload_n 0, 1)) rfl rfl
theorem s65_6 : mSnd 65 6 (a_iload 7 1) := snd_iload_n (by decide +kernel : decode (mBc 65) 6 = .ok (.iload_n 1, 1)) rfl rfl
theorem s65_7 : mSnd 65 7 (a_invV 10 1 0 0 [(1, 59, 0, 0), (2, 59, 0, 0), (4, 59, 0, 0), (6, 59, 0, 0), (8, 59, 0, 0)]) := snd_invV v65_107 rfl rfl (by decide +kernel : decode (mBc 65) 7 = .ok (.invokevirtual 107, 3)) rfl
theorem s65_10 : mSnd 65 10 (a_ii 11 (fun x y => x * y)) := snd_imul (by decide +kernel : decode (mBc 65) 10 = .ok (.imul, 1)) rfl
theorem s65_11 : mSnd 65 11 (a_istore 12 3) := snd_istore_n (by decide +kernel : decode (mBc 65) 11 = .ok (.istore_n 3, 1)) rfl (by decide) rfl
theorem s65_12 : mSnd 65 12 (a_push 13 (.int (iZ 0))) := snd_iconst (by decide +kernel : decode (mBc 65) 12 = .ok (.iconst 0, 1)) rfl rfl
theorem s65_13 : mSnd 65 13 (a_istore 15 4) := snd_istore (by decide +kernel : decode (mBc 65) 13 = .ok (.istore 4, 2)) (by decide) rfl
theorem s65_15 : mSnd 65 15 (a_iload 17 4) := snd_iload (by decide +kernel : decode (mBc 65) 15 = .ok (.iload 4, 2)) rfl
theorem s65_17 : mSnd 65 17 (a_aload 18 0) := snd_aload_n (by decide +kernel : decode (mBc 65) 17 = .ok (.aload_n 0, 1)) rfl rfl
theorem s65_18 : mSnd 65 18 (a_getf 21 1 [1, 2, 4, 6, 8]) := snd_getf f10 q124 (Or.inl rfl) (by decide +kernel : decode (mBc 65) 18 = .ok (.getfield 15, 3)) rfl
theorem s65_21 : mSnd 65 21 (a_icmp 24 57 (fun x y => decide (y ≤ x))) := snd_icmp_ge (by decide +kernel : decode (mBc 65) 21 = .ok (.if_icmp .ge 36, 3)) rfl rfl
theorem s65_24 : mSnd 65 24 (a_iload 26 4) := snd_iload (by decide +kernel : decode (mBc 65) 24 = .ok (.iload 4, 2)) rfl
theorem s65_26 : mSnd 65 26 (a_aload 27 0) := snd_aload_n (by decide +kernel : decode (mBc 65) 26 = .ok (.aload_n 0, 1)) rfl rfl
theorem s65_27 : mSnd 65 27 (a_getf 30 3 [1, 2, 4, 6, 8]) := snd_getf f16 q130 (Or.inl rfl) (by decide +kernel : decode (mBc 65) 27 = .ok (.getfield 22, 3)) rfl
theorem s65_30 : mSnd 65 30 (a_alen 31) := snd_alen (by decide +kernel : decode (mBc 65) 30 = .ok (.arraylength, 1)) rfl
theorem s65_31 : mSnd 65 31 (a_icmp 34 57 (fun x y => decide (y ≤ x))) := snd_icmp_ge (by decide +kernel : decode (mBc 65) 31 = .ok (.if_icmp .ge 26, 3)) rfl rfl
theorem s65_34 : mSnd 65 34 (a_iload 35 3) := snd_iload_n (by decide +kernel : decode (mBc 65) 34 = .ok (.iload_n 3, 1)) rfl rfl
theorem s65_35 : mSnd 65 35 (a_iload 36 2) := snd_iload_n (by decide +kernel : decode (mBc 65) 35 = .ok (.iload_n 2, 1)) rfl rfl
theorem s65_36 : mSnd 65 36 (a_iload 38 4) := snd_iload (by decide +kernel : decode (mBc 65) 36 = .ok (.iload 4, 2)) rfl
theorem s65_38 : mSnd 65 38 (a_invS 41 126 2 0 0 0 0) := snd_invSN (host := "JointWorks") k65_126 rfl rfl (by decide +kernel) q229 q1 (by decide +kernel) (by decide +kernel : decode (mBc 65) 38 = .ok (.invokestatic 68, 3)) rfl
theorem s65_41 : mSnd 65 41 (a_aload 42 0) := snd_aload_n (by decide +kernel : decode (mBc 65) 41 = .ok (.aload_n 0, 1)) rfl rfl
theorem s65_42 : mSnd 65 42 (a_getf 45 3 [1, 2, 4, 6, 8]) := snd_getf f16 q130 (Or.inl rfl) (by decide +kernel : decode (mBc 65) 42 = .ok (.getfield 22, 3)) rfl
theorem s65_45 : mSnd 65 45 (a_iload 47 4) := snd_iload (by decide +kernel : decode (mBc 65) 45 = .ok (.iload 4, 2)) rfl
theorem s65_47 : mSnd 65 47 (a_iald 48) := snd_iald (by decide +kernel : decode (mBc 65) 47 = .ok (.iaload, 1)) rfl
theorem s65_48 : mSnd 65 48 (a_ii 49 (fun x y => x * y)) := snd_imul (by decide +kernel : decode (mBc 65) 48 = .ok (.imul, 1)) rfl
theorem s65_49 : mSnd 65 49 (a_ii 50 (fun x y => x - y)) := snd_isub (by decide +kernel : decode (mBc 65) 49 = .ok (.isub, 1)) rfl
theorem s65_50 : mSnd 65 50 (a_istore 51 3) := snd_istore_n (by decide +kernel : decode (mBc 65) 50 = .ok (.istore_n 3, 1)) rfl (by decide) rfl
theorem s65_51 : mSnd 65 51 (a_iinc 54 4 (iZ 1)) := snd_iinc (by decide +kernel : decode (mBc 65) 51 = .ok (.iinc 4 1, 3)) rfl (by decide) rfl
theorem s65_54 : mSnd 65 54 (a_goto 15) := snd_goto (by decide +kernel : decode (mBc 65) 54 = .ok (.goto (-39), 3)) rfl
theorem s65_57 : mSnd 65 57 (a_iload 58 3) := snd_iload_n (by decide +kernel : decode (mBc 65) 57 = .ok (.iload_n 3, 1)) rfl rfl
theorem s65_58 : mSnd 65 58 (a_iret 0 0) := snd_iret rfl rfl rfl (by decide +kernel : decode (mBc 65) 58 = .ok (.ireturn, 1))
theorem ok65 : mOkl2 65 ct65 := ⟨⟨s65_0, s65_1, s65_2, s65_5, s65_6, s65_7, s65_10, s65_11, s65_12, s65_13, s65_15, s65_17, trivial⟩, ⟨s65_18, s65_21, s65_24, s65_26, s65_27, s65_30, s65_31, s65_34, s65_35, s65_36, s65_38, s65_41, trivial⟩, ⟨s65_42, s65_45, s65_47, s65_48, s65_49, s65_50, s65_51, s65_54, s65_57, s65_58, trivial⟩, trivial⟩
theorem s66_0 : mSnd 66 0 (a_aload 1 0) := snd_aload_n (by decide +kernel : decode (mBc 66) 0 = .ok (.aload_n 0, 1)) rfl rfl
theorem s66_1 : mSnd 66 1 (a_iload 2 1) := snd_iload_n (by decide +kernel : decode (mBc 66) 1 = .ok (.iload_n 1, 1)) rfl rfl
theorem s66_2 : mSnd 66 2 (a_invV 5 1 0 0 [(1, 64, 0, 0), (2, 64, 0, 0), (4, 64, 0, 0), (6, 64, 0, 0), (8, 64, 0, 0)]) := snd_invV v66_98 rfl rfl (by decide +kernel : decode (mBc 66) 2 = .ok (.invokevirtual 98, 3)) rfl
theorem s66_5 : mSnd 66 5 (a_push 6 (.int (iZ (-1)))) := snd_iconst (by decide +kernel : decode (mBc 66) 5 = .ok (.iconst (-1), 1)) rfl rfl
theorem s66_6 : mSnd 66 6 (a_istore 7 2) := snd_istore_n (by decide +kernel : decode (mBc 66) 6 = .ok (.istore_n 2, 1)) rfl (by decide) rfl
theorem s66_7 : mSnd 66 7 (a_push 8 (.int (iZ 0))) := snd_iconst (by decide +kernel : decode (mBc 66) 7 = .ok (.iconst 0, 1)) rfl rfl
theorem s66_8 : mSnd 66 8 (a_istore 9 3) := snd_istore_n (by decide +kernel : decode (mBc 66) 8 = .ok (.istore_n 3, 1)) rfl (by decide) rfl
theorem s66_9 : mSnd 66 9 (a_push 10 (.int (iZ 1))) := snd_iconst (by decide +kernel : decode (mBc 66) 9 = .ok (.iconst 1, 1)) rfl rfl
theorem s66_10 : mSnd 66 10 (a_istore 12 4) := snd_istore (by decide +kernel : decode (mBc 66) 10 = .ok (.istore 4, 2)) (by decide) rfl
theorem s66_12 : mSnd 66 12 (a_iload 14 4) := snd_iload (by decide +kernel : decode (mBc 66) 12 = .ok (.iload 4, 2)) rfl
theorem s66_14 : mSnd 66 14 (a_aload 15 0) := snd_aload_n (by decide +kernel : decode (mBc 66) 14 = .ok (.aload_n 0, 1)) rfl rfl
theorem s66_15 : mSnd 66 15 (a_invV 18 0 0 0 [(1, 42, 0, 0), (2, 42, 0, 0), (4, 42, 0, 0), (6, 42, 0, 0), (8, 42, 0, 0)]) := snd_invV v66_42 rfl rfl (by decide +kernel : decode (mBc 66) 15 = .ok (.invokevirtual 42, 3)) rfl
theorem s66_18 : mSnd 66 18 (a_icmp 21 53 (fun x y => decide (y ≤ x))) := snd_icmp_ge (by decide +kernel : decode (mBc 66) 18 = .ok (.if_icmp .ge 35, 3)) rfl rfl
theorem s66_21 : mSnd 66 21 (a_aload 22 0) := snd_aload_n (by decide +kernel : decode (mBc 66) 21 = .ok (.aload_n 0, 1)) rfl rfl
theorem s66_22 : mSnd 66 22 (a_iload 23 1) := snd_iload_n (by decide +kernel : decode (mBc 66) 22 = .ok (.iload_n 1, 1)) rfl rfl
theorem s66_23 : mSnd 66 23 (a_iload 25 4) := snd_iload (by decide +kernel : decode (mBc 66) 23 = .ok (.iload 4, 2)) rfl
theorem s66_25 : mSnd 66 25 (a_invV 28 2 0 0 [(1, 65, 0, 0), (2, 65, 0, 0), (4, 65, 0, 0), (6, 65, 0, 0), (8, 65, 0, 0)]) := snd_invV v66_101 rfl rfl (by decide +kernel : decode (mBc 66) 25 = .ok (.invokevirtual 101, 3)) rfl
theorem s66_28 : mSnd 66 28 (a_istore 30 5) := snd_istore (by decide +kernel : decode (mBc 66) 28 = .ok (.istore 5, 2)) (by decide) rfl
theorem s66_30 : mSnd 66 30 (a_iload 31 2) := snd_iload_n (by decide +kernel : decode (mBc 66) 30 = .ok (.iload_n 2, 1)) rfl rfl
theorem s66_31 : mSnd 66 31 (a_push 32 (.int (iZ (-1)))) := snd_iconst (by decide +kernel : decode (mBc 66) 31 = .ok (.iconst (-1), 1)) rfl rfl
theorem s66_32 : mSnd 66 32 (a_icmp 35 41 (fun x y => decide (x = y))) := snd_icmp_eq (by decide +kernel : decode (mBc 66) 32 = .ok (.if_icmp .eq 9, 3)) rfl rfl
theorem s66_35 : mSnd 66 35 (a_iload 37 5) := snd_iload (by decide +kernel : decode (mBc 66) 35 = .ok (.iload 5, 2)) rfl
theorem s66_37 : mSnd 66 37 (a_iload 38 3) := snd_iload_n (by decide +kernel : decode (mBc 66) 37 = .ok (.iload_n 3, 1)) rfl rfl
theorem s66_38 : mSnd 66 38 (a_icmp 41 47 (fun x y => decide (x ≤ y))) := snd_icmp_le (by decide +kernel : decode (mBc 66) 38 = .ok (.if_icmp .le 9, 3)) rfl rfl
theorem s66_41 : mSnd 66 41 (a_iload 43 4) := snd_iload (by decide +kernel : decode (mBc 66) 41 = .ok (.iload 4, 2)) rfl
theorem s66_43 : mSnd 66 43 (a_istore 44 2) := snd_istore_n (by decide +kernel : decode (mBc 66) 43 = .ok (.istore_n 2, 1)) rfl (by decide) rfl
theorem s66_44 : mSnd 66 44 (a_iload 46 5) := snd_iload (by decide +kernel : decode (mBc 66) 44 = .ok (.iload 5, 2)) rfl
theorem s66_46 : mSnd 66 46 (a_istore 47 3) := snd_istore_n (by decide +kernel : decode (mBc 66) 46 = .ok (.istore_n 3, 1)) rfl (by decide) rfl
theorem s66_47 : mSnd 66 47 (a_iinc 50 4 (iZ 1)) := snd_iinc (by decide +kernel : decode (mBc 66) 47 = .ok (.iinc 4 1, 3)) rfl (by decide) rfl
theorem s66_50 : mSnd 66 50 (a_goto 12) := snd_goto (by decide +kernel : decode (mBc 66) 50 = .ok (.goto (-38), 3)) rfl
theorem s66_53 : mSnd 66 53 (a_iload 54 2) := snd_iload_n (by decide +kernel : decode (mBc 66) 53 = .ok (.iload_n 2, 1)) rfl rfl
theorem s66_54 : mSnd 66 54 (a_iret 0 0) := snd_iret rfl rfl rfl (by decide +kernel : decode (mBc 66) 54 = .ok (.ireturn, 1))
theorem ok66 : mOkl2 66 ct66 := ⟨⟨s66_0, s66_1, s66_2, s66_5, s66_6, s66_7, s66_8, s66_9, s66_10, s66_12, s66_14, s66_15, trivial⟩, ⟨s66_18, s66_21, s66_22, s66_23, s66_25, s66_28, s66_30, s66_31, s66_32, s66_35, s66_37, s66_38, trivial⟩, ⟨s66_41, s66_43, s66_44, s66_46, s66_47, s66_50, s66_53, s66_54, trivial⟩, trivial⟩
theorem s67_0 : mSnd 67 0 (a_aload 1 0) := snd_aload_n (by decide +kernel : decode (mBc 67) 0 = .ok (.aload_n 0, 1)) rfl rfl
theorem s67_1 : mSnd 67 1 (a_getf 4 1 [1, 2, 4, 6, 8]) := snd_getf f10 q124 (Or.inl rfl) (by decide +kernel : decode (mBc 67) 1 = .ok (.getfield 15, 3)) rfl
theorem s67_4 : mSnd 67 4 (a_invS 7 129 1 0 0 0 0) := snd_invSN (host := "JointWorks") k67_129 rfl rfl (by decide +kernel) q633 q1 (by decide +kernel) (by decide +kernel : decode (mBc 67) 4 = .ok (.invokestatic 110, 3)) rfl
theorem s67_7 : mSnd 67 7 (a_astore 8 1) := snd_astore_n (by decide +kernel : decode (mBc 67) 7 = .ok (.astore_n 1, 1)) rfl (by decide) rfl
theorem s67_8 : mSnd 67 8 (a_push 9 (.long (lZ 0))) := snd_lconst (by decide +kernel : decode (mBc 67) 8 = .ok (.lconst 0, 1)) (by decide +kernel) rfl
theorem s67_9 : mSnd 67 9 (a_lstore 10 2) := snd_lstore_n (by decide +kernel : decode (mBc 67) 9 = .ok (.lstore_n 2, 1)) rfl (by decide) rfl
theorem s67_10 : mSnd 67 10 (a_push 11 (.long (lZ 0))) := snd_lconst (by decide +kernel : decode (mBc 67) 10 = .ok (.lconst 0, 1)) (by decide +kernel) rfl
theorem s67_11 : mSnd 67 11 (a_lstore 13 4) := snd_lstore (by decide +kernel : decode (mBc 67) 11 = .ok (.lstore 4, 2)) (by decide) rfl
theorem s67_13 : mSnd 67 13 (a_push 14 (.long (lZ 0))) := snd_lconst (by decide +kernel : decode (mBc 67) 13 = .ok (.lconst 0, 1)) (by decide +kernel) rfl
theorem s67_14 : mSnd 67 14 (a_lstore 16 6) := snd_lstore (by decide +kernel : decode (mBc 67) 14 = .ok (.lstore 6, 2)) (by decide) rfl
theorem s67_16 : mSnd 67 16 (a_push 17 (.int (iZ 0))) := snd_iconst (by decide +kernel : decode (mBc 67) 16 = .ok (.iconst 0, 1)) rfl rfl
theorem s67_17 : mSnd 67 17 (a_istore 19 8) := snd_istore (by decide +kernel : decode (mBc 67) 17 = .ok (.istore 8, 2)) (by decide) rfl
theorem s67_19 : mSnd 67 19 (a_iload 21 8) := snd_iload (by decide +kernel : decode (mBc 67) 19 = .ok (.iload 8, 2)) rfl
theorem s67_21 : mSnd 67 21 (a_aload 22 1) := snd_aload_n (by decide +kernel : decode (mBc 67) 21 = .ok (.aload_n 1, 1)) rfl rfl
theorem s67_22 : mSnd 67 22 (a_alen 23) := snd_alen (by decide +kernel : decode (mBc 67) 22 = .ok (.arraylength, 1)) rfl
theorem s67_23 : mSnd 67 23 (a_icmp 26 85 (fun x y => decide (y ≤ x))) := snd_icmp_ge (by decide +kernel : decode (mBc 67) 23 = .ok (.if_icmp .ge 62, 3)) rfl rfl
theorem s67_26 : mSnd 67 26 (a_aload 27 0) := snd_aload_n (by decide +kernel : decode (mBc 67) 26 = .ok (.aload_n 0, 1)) rfl rfl
theorem s67_27 : mSnd 67 27 (a_aload 28 1) := snd_aload_n (by decide +kernel : decode (mBc 67) 27 = .ok (.aload_n 1, 1)) rfl rfl
theorem s67_28 : mSnd 67 28 (a_iload 30 8) := snd_iload (by decide +kernel : decode (mBc 67) 28 = .ok (.iload 8, 2)) rfl
theorem s67_30 : mSnd 67 30 (a_lald 31) := snd_lald (by decide +kernel : decode (mBc 67) 30 = .ok (.laload, 1)) rfl
theorem s67_31 : mSnd 67 31 (a_invV 34 1 0 0 [(1, 68, 0, 0), (2, 68, 0, 0), (4, 68, 0, 0), (6, 68, 0, 0), (8, 68, 0, 0)]) := snd_invV v67_114 rfl rfl (by decide +kernel : decode (mBc 67) 31 = .ok (.invokevirtual 114, 3)) rfl
theorem s67_34 : mSnd 67 34 (a_i2l 35) := snd_i2l (by decide +kernel : decode (mBc 67) 34 = .ok (.i2l, 1)) rfl
theorem s67_35 : mSnd 67 35 (a_lstore 37 9) := snd_lstore (by decide +kernel : decode (mBc 67) 35 = .ok (.lstore 9, 2)) (by decide) rfl
theorem s67_37 : mSnd 67 37 (a_aload 38 1) := snd_aload_n (by decide +kernel : decode (mBc 67) 37 = .ok (.aload_n 1, 1)) rfl rfl
theorem s67_38 : mSnd 67 38 (a_iload 40 8) := snd_iload (by decide +kernel : decode (mBc 67) 38 = .ok (.iload 8, 2)) rfl
theorem s67_40 : mSnd 67 40 (a_lald 41) := snd_lald (by decide +kernel : decode (mBc 67) 40 = .ok (.laload, 1)) rfl
theorem s67_41 : mSnd 67 41 (a_invS 44 133 1 0 0 0 0) := snd_invSN (host := "JointWorks") k67_133 rfl rfl (by decide +kernel) q659 q1 (by decide +kernel) (by decide +kernel : decode (mBc 67) 41 = .ok (.invokestatic 118, 3)) rfl
theorem s67_44 : mSnd 67 44 (a_i2l 45) := snd_i2l (by decide +kernel : decode (mBc 67) 44 = .ok (.i2l, 1)) rfl
theorem s67_45 : mSnd 67 45 (a_lstore 47 11) := snd_lstore (by decide +kernel : decode (mBc 67) 45 = .ok (.lstore 11, 2)) (by decide) rfl
theorem s67_47 : mSnd 67 47 (a_iload 49 8) := snd_iload (by decide +kernel : decode (mBc 67) 47 = .ok (.iload 8, 2)) rfl
theorem s67_49 : mSnd 67 49 (a_if 52 66 (fun x => decide (x = 0))) := snd_if_eq (by decide +kernel : decode (mBc 67) 49 = .ok (.ifCond .eq 17, 3)) rfl rfl
theorem s67_52 : mSnd 67 52 (a_lload 54 9) := snd_lload (by decide +kernel : decode (mBc 67) 52 = .ok (.lload 9, 2)) rfl
theorem s67_54 : mSnd 67 54 (a_lload 56 6) := snd_lload (by decide +kernel : decode (mBc 67) 54 = .ok (.lload 6, 2)) rfl
theorem s67_56 : mSnd 67 56 (a_ll 57 (fun x y => x * y)) := snd_lmul (by decide +kernel : decode (mBc 67) 56 = .ok (.lmul, 1)) rfl
theorem s67_57 : mSnd 67 57 (a_lload 59 4) := snd_lload (by decide +kernel : decode (mBc 67) 57 = .ok (.lload 4, 2)) rfl
theorem s67_59 : mSnd 67 59 (a_lload 61 11) := snd_lload (by decide +kernel : decode (mBc 67) 59 = .ok (.lload 11, 2)) rfl
theorem s67_61 : mSnd 67 61 (a_ll 62 (fun x y => x * y)) := snd_lmul (by decide +kernel : decode (mBc 67) 61 = .ok (.lmul, 1)) rfl
theorem s67_62 : mSnd 67 62 (a_lcmp 63) := snd_lcmp (by decide +kernel : decode (mBc 67) 62 = .ok (.lcmp, 1)) rfl
theorem s67_63 : mSnd 67 63 (a_if 66 79 (fun x => decide (x ≤ 0))) := snd_if_le (by decide +kernel : decode (mBc 67) 63 = .ok (.ifCond .le 16, 3)) rfl rfl
theorem s67_66 : mSnd 67 66 (a_aload 67 1) := snd_aload_n (by decide +kernel : decode (mBc 67) 66 = .ok (.aload_n 1, 1)) rfl rfl
theorem s67_67 : mSnd 67 67 (a_iload 69 8) := snd_iload (by decide +kernel : decode (mBc 67) 67 = .ok (.iload 8, 2)) rfl
theorem s67_69 : mSnd 67 69 (a_lald 70) := snd_lald (by decide +kernel : decode (mBc 67) 69 = .ok (.laload, 1)) rfl
theorem s67_70 : mSnd 67 70 (a_lstore 71 2) := snd_lstore_n (by decide +kernel : decode (mBc 67) 70 = .ok (.lstore_n 2, 1)) rfl (by decide) rfl
theorem s67_71 : mSnd 67 71 (a_lload 73 9) := snd_lload (by decide +kernel : decode (mBc 67) 71 = .ok (.lload 9, 2)) rfl
theorem s67_73 : mSnd 67 73 (a_lstore 75 4) := snd_lstore (by decide +kernel : decode (mBc 67) 73 = .ok (.lstore 4, 2)) (by decide) rfl
theorem s67_75 : mSnd 67 75 (a_lload 77 11) := snd_lload (by decide +kernel : decode (mBc 67) 75 = .ok (.lload 11, 2)) rfl
theorem s67_77 : mSnd 67 77 (a_lstore 79 6) := snd_lstore (by decide +kernel : decode (mBc 67) 77 = .ok (.lstore 6, 2)) (by decide) rfl
theorem s67_79 : mSnd 67 79 (a_iinc 82 8 (iZ 1)) := snd_iinc (by decide +kernel : decode (mBc 67) 79 = .ok (.iinc 8 1, 3)) rfl (by decide) rfl
theorem s67_82 : mSnd 67 82 (a_goto 19) := snd_goto (by decide +kernel : decode (mBc 67) 82 = .ok (.goto (-63), 3)) rfl
theorem s67_85 : mSnd 67 85 (a_lload 86 2) := snd_lload_n (by decide +kernel : decode (mBc 67) 85 = .ok (.lload_n 2, 1)) rfl rfl
theorem s67_86 : mSnd 67 86 (a_lret 0 0) := snd_lret rfl rfl rfl (by decide +kernel : decode (mBc 67) 86 = .ok (.lreturn, 1))
theorem ok67 : mOkl2 67 ct67 := ⟨⟨s67_0, s67_1, s67_4, s67_7, s67_8, s67_9, s67_10, s67_11, s67_13, s67_14, s67_16, s67_17, trivial⟩, ⟨s67_19, s67_21, s67_22, s67_23, s67_26, s67_27, s67_28, s67_30, s67_31, s67_34, s67_35, s67_37, trivial⟩, ⟨s67_38, s67_40, s67_41, s67_44, s67_45, s67_47, s67_49, s67_52, s67_54, s67_56, s67_57, s67_59, trivial⟩, ⟨s67_61, s67_62, s67_63, s67_66, s67_67, s67_69, s67_70, s67_71, s67_73, s67_75, s67_77, s67_79, trivial⟩, ⟨s67_82, s67_85, s67_86, trivial⟩, trivial⟩
