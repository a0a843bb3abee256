theorem s68_0 : mSnd 68 0 (a_push 2 (.int (iZ (-6)))) := snd_bipush (by decide +kernel : decode (mBc 68) 0 = .ok (.bipush (-6), 2)) (by decide +kernel) rfl
theorem s68_2 : mSnd 68 2 (a_aload 3 0) := snd_aload_n (by decide +kernel : decode (mBc 68) 2 = .ok (.aload_n 0, 1)) rfl rfl
theorem s68_3 : mSnd 68 3 (a_invV 6 0 0 0 [(1, 47, 0, 0), (2, 47, 0, 0), (4, 47, 0, 0), (6, 47, 0, 0), (8, 47, 0, 0)]) := snd_invV v68_95 rfl rfl (by decide +kernel : decode (mBc 68) 3 = .ok (.invokevirtual 95, 3)) rfl
theorem s68_6 : mSnd 68 6 (a_ii 7 (fun x y => x * y)) := snd_imul (by decide +kernel : decode (mBc 68) 6 = .ok (.imul, 1)) rfl
theorem s68_7 : mSnd 68 7 (a_istore 8 3) := snd_istore_n (by decide +kernel : decode (mBc 68) 7 = .ok (.istore_n 3, 1)) rfl (by decide) rfl
theorem s68_8 : mSnd 68 8 (a_push 9 (.int (iZ 0))) := snd_iconst (by decide +kernel : decode (mBc 68) 8 = .ok (.iconst 0, 1)) rfl rfl
theorem s68_9 : mSnd 68 9 (a_istore 11 4) := snd_istore (by decide +kernel : decode (mBc 68) 9 = .ok (.istore 4, 2)) (by decide) rfl
theorem s68_11 : mSnd 68 11 (a_iload 13 4) := snd_iload (by decide +kernel : decode (mBc 68) 11 = .ok (.iload 4, 2)) rfl
theorem s68_13 : mSnd 68 13 (a_push 14 (.int (iZ 4))) := snd_iconst (by decide +kernel : decode (mBc 68) 13 = .ok (.iconst 4, 1)) rfl rfl
theorem s68_14 : mSnd 68 14 (a_icmp 17 43 (fun x y => decide (y ≤ x))) := snd_icmp_ge (by decide +kernel : decode (mBc 68) 14 = .ok (.if_icmp .ge 29, 3)) rfl rfl
theorem s68_17 : mSnd 68 17 (a_iload 18 3) := snd_iload_n (by decide +kernel : decode (mBc 68) 17 = .ok (.iload_n 3, 1)) rfl rfl
theorem s68_18 : mSnd 68 18 (a_lload 19 1) := snd_lload_n (by decide +kernel : decode (mBc 68) 18 = .ok (.lload_n 1, 1)) rfl rfl
theorem s68_19 : mSnd 68 19 (a_iload 21 4) := snd_iload (by decide +kernel : decode (mBc 68) 19 = .ok (.iload 4, 2)) rfl
theorem s68_21 : mSnd 68 21 (a_invS 24 131 2 0 0 0 0) := snd_invSN (host := "JointWorks") k68_131 rfl rfl (by decide +kernel) q653 q1 (by decide +kernel) (by decide +kernel : decode (mBc 68) 21 = .ok (.invokestatic 121, 3)) rfl
theorem s68_24 : mSnd 68 24 (a_aload 25 0) := snd_aload_n (by decide +kernel : decode (mBc 68) 24 = .ok (.aload_n 0, 1)) rfl rfl
theorem s68_25 : mSnd 68 25 (a_lload 26 1) := snd_lload_n (by decide +kernel : decode (mBc 68) 25 = .ok (.lload_n 1, 1)) rfl rfl
theorem s68_26 : mSnd 68 26 (a_iload 28 4) := snd_iload (by decide +kernel : decode (mBc 68) 26 = .ok (.iload 4, 2)) rfl
theorem s68_28 : mSnd 68 28 (a_invS 31 130 2 0 0 0 0) := snd_invSN (host := "JointWorks") k68_130 rfl rfl (by decide +kernel) q656 q1 (by decide +kernel) (by decide +kernel : decode (mBc 68) 28 = .ok (.invokestatic 125, 3)) rfl
theorem s68_31 : mSnd 68 31 (a_invV 34 1 0 0 [(1, 46, 0, 0), (2, 46, 0, 0), (4, 46, 0, 0), (6, 46, 0, 0), (8, 46, 0, 0)]) := snd_invV v68_46 rfl rfl (by decide +kernel : decode (mBc 68) 31 = .ok (.invokevirtual 46, 3)) rfl
theorem s68_34 : mSnd 68 34 (a_ii 35 (fun x y => x * y)) := snd_imul (by decide +kernel : decode (mBc 68) 34 = .ok (.imul, 1)) rfl
theorem s68_35 : mSnd 68 35 (a_ii 36 (fun x y => x + y)) := snd_iadd (by decide +kernel : decode (mBc 68) 35 = .ok (.iadd, 1)) rfl
theorem s68_36 : mSnd 68 36 (a_istore 37 3) := snd_istore_n (by decide +kernel : decode (mBc 68) 36 = .ok (.istore_n 3, 1)) rfl (by decide) rfl
theorem s68_37 : mSnd 68 37 (a_iinc 40 4 (iZ 1)) := snd_iinc (by decide +kernel : decode (mBc 68) 37 = .ok (.iinc 4 1, 3)) rfl (by decide) rfl
theorem s68_40 : mSnd 68 40 (a_goto 11) := snd_goto (by decide +kernel : decode (mBc 68) 40 = .ok (.goto (-29), 3)) rfl
theorem s68_43 : mSnd 68 43 (a_iload 44 3) := snd_iload_n (by decide +kernel : decode (mBc 68) 43 = .ok (.iload_n 3, 1)) rfl rfl
theorem s68_44 : mSnd 68 44 (a_iret 0 0) := snd_iret rfl rfl rfl (by decide +kernel : decode (mBc 68) 44 = .ok (.ireturn, 1))
theorem ok68 : mOkl2 68 ct68 := ⟨⟨s68_0, s68_2, s68_3, s68_6, s68_7, s68_8, s68_9, s68_11, s68_13, s68_14, s68_17, s68_18, trivial⟩, ⟨s68_19, s68_21, s68_24, s68_25, s68_26, s68_28, s68_31, s68_34, s68_35, s68_36, s68_37, s68_40, trivial⟩, ⟨s68_43, s68_44, trivial⟩, trivial⟩
theorem s69_0 : mSnd 69 0 (a_aload 1 0) := snd_aload_n (by decide +kernel : decode (mBc 69) 0 = .ok (.aload_n 0, 1)) rfl rfl
theorem s69_1 : mSnd 69 1 (a_obj 4) := snd_obj q45 q21 q22 (by decide) (by decide) (by decide +kernel : decode (mBc 69) 1 = .ok (.invokespecial 3, 3)) rfl
theorem s69_4 : mSnd 69 4 (a_aload 5 0) := snd_aload_n (by decide +kernel : decode (mBc 69) 4 = .ok (.aload_n 0, 1)) rfl rfl
theorem s69_5 : mSnd 69 5 (a_push 6 (.int (iZ 0))) := snd_iconst (by decide +kernel : decode (mBc 69) 5 = .ok (.iconst 0, 1)) rfl rfl
theorem s69_6 : mSnd 69 6 (a_putf 9 0 0 [7]) := snd_putf f19 (by decide +kernel) q46 (Or.inl rfl) (Or.inl rfl) (by decide +kernel : decode (mBc 69) 6 = .ok (.putfield 9, 3)) rfl
theorem s69_9 : mSnd 69 9 (a_aload 10 0) := snd_aload_n (by decide +kernel : decode (mBc 69) 9 = .ok (.aload_n 0, 1)) rfl rfl
theorem s69_10 : mSnd 69 10 (a_push 12 (.int (iZ 40))) := snd_bipush (by decide +kernel : decode (mBc 69) 10 = .ok (.bipush 40, 2)) (by decide +kernel) rfl
theorem s69_12 : mSnd 69 12 (a_newa 14 0 1 40) := snd_newi rfl rfl q54 (by decide +kernel : decode (mBc 69) 12 = .ok (.newarray .int, 2)) rfl
theorem s69_14 : mSnd 69 14 (a_putf 17 1 2 [7]) := snd_putf f20 (by decide +kernel) q48 (Or.inl rfl) (Or.inr ⟨rfl, rfl⟩) (by decide +kernel : decode (mBc 69) 14 = .ok (.putfield 15, 3)) rfl
theorem s69_17 : mSnd 69 17 (a_vret 1 40) := snd_vret rfl rfl rfl (by decide +kernel : decode (mBc 69) 17 = .ok (.return_, 1))
theorem ok69 : mOkl2 69 ct69 := ⟨⟨s69_0, s69_1, s69_4, s69_5, s69_6, s69_9, s69_10, s69_12, s69_14, s69_17, trivial⟩, trivial⟩
theorem s70_0 : mSnd 70 0 (a_aload 1 0) := snd_aload_n (by decide +kernel : decode (mBc 70) 0 = .ok (.aload_n 0, 1)) rfl rfl
theorem s70_1 : mSnd 70 1 (a_push 2 (.int (iZ 0))) := snd_iconst (by decide +kernel : decode (mBc 70) 1 = .ok (.iconst 0, 1)) rfl rfl
theorem s70_2 : mSnd 70 2 (a_putf 5 0 0 [7]) := snd_putf f19 (by decide +kernel) q46 (Or.inl rfl) (Or.inl rfl) (by decide +kernel : decode (mBc 70) 2 = .ok (.putfield 9, 3)) rfl
theorem s70_5 : mSnd 70 5 (a_vret 0 0) := snd_vret rfl rfl rfl (by decide +kernel : decode (mBc 70) 5 = .ok (.return_, 1))
theorem ok70 : mOkl2 70 ct70 := ⟨⟨s70_0, s70_1, s70_2, s70_5, trivial⟩, trivial⟩
theorem s71_0 : mSnd 71 0 (a_aload 1 0) := snd_aload_n (by decide +kernel : decode (mBc 71) 0 = .ok (.aload_n 0, 1)) rfl rfl
theorem s71_1 : mSnd 71 1 (a_getf 4 0 [7]) := snd_getf f19 q46 (Or.inl rfl) (by decide +kernel : decode (mBc 71) 1 = .ok (.getfield 9, 3)) rfl
theorem s71_4 : mSnd 71 4 (a_if 7 29 (fun x => decide (x < 0))) := snd_if_lt (by decide +kernel : decode (mBc 71) 4 = .ok (.ifCond .lt 25, 3)) rfl rfl
theorem s71_7 : mSnd 71 7 (a_aload 8 0) := snd_aload_n (by decide +kernel : decode (mBc 71) 7 = .ok (.aload_n 0, 1)) rfl rfl
theorem s71_8 : mSnd 71 8 (a_getf 11 0 [7]) := snd_getf f19 q46 (Or.inl rfl) (by decide +kernel : decode (mBc 71) 8 = .ok (.getfield 9, 3)) rfl
theorem s71_11 : mSnd 71 11 (a_aload 12 0) := snd_aload_n (by decide +kernel : decode (mBc 71) 11 = .ok (.aload_n 0, 1)) rfl rfl
theorem s71_12 : mSnd 71 12 (a_getf 15 1 [7]) := snd_getf f20 q48 (Or.inl rfl) (by decide +kernel : decode (mBc 71) 12 = .ok (.getfield 15, 3)) rfl
theorem s71_15 : mSnd 71 15 (a_alen 16) := snd_alen (by decide +kernel : decode (mBc 71) 15 = .ok (.arraylength, 1)) rfl
theorem s71_16 : mSnd 71 16 (a_icmp 19 29 (fun x y => decide (y ≤ x))) := snd_icmp_ge (by decide +kernel : decode (mBc 71) 16 = .ok (.if_icmp .ge 13, 3)) rfl rfl
theorem s71_19 : mSnd 71 19 (a_aload 20 0) := snd_aload_n (by decide +kernel : decode (mBc 71) 19 = .ok (.aload_n 0, 1)) rfl rfl
theorem s71_20 : mSnd 71 20 (a_getf 23 1 [7]) := snd_getf f20 q48 (Or.inl rfl) (by decide +kernel : decode (mBc 71) 20 = .ok (.getfield 15, 3)) rfl
theorem s71_23 : mSnd 71 23 (a_aload 24 0) := snd_aload_n (by decide +kernel : decode (mBc 71) 23 = .ok (.aload_n 0, 1)) rfl rfl
theorem s71_24 : mSnd 71 24 (a_getf 27 0 [7]) := snd_getf f19 q46 (Or.inl rfl) (by decide +kernel : decode (mBc 71) 24 = .ok (.getfield 9, 3)) rfl
theorem s71_27 : mSnd 71 27 (a_iload 28 1) := snd_iload_n (by decide +kernel : decode (mBc 71) 27 = .ok (.iload_n 1, 1)) rfl rfl
theorem s71_28 : mSnd 71 28 (a_iast 29) := snd_iast (by decide +kernel : decode (mBc 71) 28 = .ok (.iastore, 1)) rfl
theorem s71_29 : mSnd 71 29 (a_aload 30 0) := snd_aload_n (by decide +kernel : decode (mBc 71) 29 = .ok (.aload_n 0, 1)) rfl rfl
theorem s71_30 : mSnd 71 30 (a_dup 31) := snd_dup (by decide +kernel : decode (mBc 71) 30 = .ok (.dup, 1)) rfl
theorem s71_31 : mSnd 71 31 (a_getf 34 0 [7]) := snd_getf f19 q46 (Or.inl rfl) (by decide +kernel : decode (mBc 71) 31 = .ok (.getfield 9, 3)) rfl
theorem s71_34 : mSnd 71 34 (a_push 35 (.int (iZ 1))) := snd_iconst (by decide +kernel : decode (mBc 71) 34 = .ok (.iconst 1, 1)) rfl rfl
theorem s71_35 : mSnd 71 35 (a_ii 36 (fun x y => x + y)) := snd_iadd (by decide +kernel : decode (mBc 71) 35 = .ok (.iadd, 1)) rfl
theorem s71_36 : mSnd 71 36 (a_putf 39 0 0 [7]) := snd_putf f19 (by decide +kernel) q46 (Or.inl rfl) (Or.inl rfl) (by decide +kernel : decode (mBc 71) 36 = .ok (.putfield 9, 3)) rfl
theorem s71_39 : mSnd 71 39 (a_vret 0 0) := snd_vret rfl rfl rfl (by decide +kernel : decode (mBc 71) 39 = .ok (.return_, 1))
theorem ok71 : mOkl2 71 ct71 := ⟨⟨s71_0, s71_1, s71_4, s71_7, s71_8, s71_11, s71_12, s71_15, s71_16, s71_19, s71_20, s71_23, trivial⟩, ⟨s71_24, s71_27, s71_28, s71_29, s71_30, s71_31, s71_34, s71_35, s71_36, s71_39, trivial⟩, trivial⟩
theorem s72_0 : mSnd 72 0 (a_iload 1 1) := snd_iload_n (by decide +kernel : decode (mBc 72) 0 = .ok (.iload_n 1, 1)) rfl rfl
theorem s72_1 : mSnd 72 1 (a_if 4 21 (fun x => decide (x < 0))) := snd_if_lt (by decide +kernel : decode (mBc 72) 1 = .ok (.ifCond .lt 20, 3)) rfl rfl
theorem s72_4 : mSnd 72 4 (a_iload 5 1) := snd_iload_n (by decide +kernel : decode (mBc 72) 4 = .ok (.iload_n 1, 1)) rfl rfl
theorem s72_5 : mSnd 72 5 (a_aload 6 0) := snd_aload_n (by decide +kernel : decode (mBc 72) 5 = .ok (.aload_n 0, 1)) rfl rfl
theorem s72_6 : mSnd 72 6 (a_getf 9 0 [7]) := snd_getf f19 q46 (Or.inl rfl) (by decide +kernel : decode (mBc 72) 6 = .ok (.getfield 9, 3)) rfl
theorem s72_9 : mSnd 72 9 (a_icmp 12 21 (fun x y => decide (y ≤ x))) := snd_icmp_ge (by decide +kernel : decode (mBc 72) 9 = .ok (.if_icmp .ge 12, 3)) rfl rfl
theorem s72_12 : mSnd 72 12 (a_iload 13 1) := snd_iload_n (by decide +kernel : decode (mBc 72) 12 = .ok (.iload_n 1, 1)) rfl rfl
theorem s72_13 : mSnd 72 13 (a_aload 14 0) := snd_aload_n (by decide +kernel : decode (mBc 72) 13 = .ok (.aload_n 0, 1)) rfl rfl
theorem s72_14 : mSnd 72 14 (a_getf 17 1 [7]) := snd_getf f20 q48 (Or.inl rfl) (by decide +kernel : decode (mBc 72) 14 = .ok (.getfield 15, 3)) rfl
theorem s72_17 : mSnd 72 17 (a_alen 18) := snd_alen (by decide +kernel : decode (mBc 72) 17 = .ok (.arraylength, 1)) rfl
theorem s72_18 : mSnd 72 18 (a_icmp 21 25 (fun x y => decide (x < y))) := snd_icmp_lt (by decide +kernel : decode (mBc 72) 18 = .ok (.if_icmp .lt 7, 3)) rfl rfl
theorem s72_21 : mSnd 72 21 (a_push 22 (.int (iZ (-1)))) := snd_iconst (by decide +kernel : decode (mBc 72) 21 = .ok (.iconst (-1), 1)) rfl rfl
theorem s72_22 : mSnd 72 22 (a_goto 31) := snd_goto (by decide +kernel : decode (mBc 72) 22 = .ok (.goto 9, 3)) rfl
theorem s72_25 : mSnd 72 25 (a_aload 26 0) := snd_aload_n (by decide +kernel : decode (mBc 72) 25 = .ok (.aload_n 0, 1)) rfl rfl
theorem s72_26 : mSnd 72 26 (a_getf 29 1 [7]) := snd_getf f20 q48 (Or.inl rfl) (by decide +kernel : decode (mBc 72) 26 = .ok (.getfield 15, 3)) rfl
theorem s72_29 : mSnd 72 29 (a_iload 30 1) := snd_iload_n (by decide +kernel : decode (mBc 72) 29 = .ok (.iload_n 1, 1)) rfl rfl
theorem s72_30 : mSnd 72 30 (a_iald 31) := snd_iald (by decide +kernel : decode (mBc 72) 30 = .ok (.iaload, 1)) rfl
theorem s72_31 : mSnd 72 31 (a_iret 0 0) := snd_iret rfl rfl rfl (by decide +kernel : decode (mBc 72) 31 = .ok (.ireturn, 1))
theorem ok72 : mOkl2 72 ct72 := ⟨⟨s72_0, s72_1, s72_4, s72_5, s72_6, s72_9, s72_12, s72_13, s72_14, s72_17, s72_18, s72_21, trivial⟩, ⟨s72_22, s72_25, s72_26, s72_29, s72_30, s72_31, trivial⟩, trivial⟩
theorem s73_0 : mSnd 73 0 (a_aload 1 0) := snd_aload_n (by decide +kernel : decode (mBc 73) 0 = .ok (.aload_n 0, 1)) rfl rfl
theorem s73_1 : mSnd 73 1 (a_iload 2 1) := snd_iload_n (by decide +kernel : decode (mBc 73) 1 = .ok (.iload_n 1, 1)) rfl rfl
theorem s73_2 : mSnd 73 2 (a_iload 3 2) := snd_iload_n (by decide +kernel : decode (mBc 73) 2 = .ok (.iload_n 2, 1)) rfl rfl
theorem s73_3 : mSnd 73 3 (a_invI 6 37 2 8 152 8 152) := snd_invI k73_37 rfl rfl rfl rfl q220 q89 q5 (by decide +kernel) (by decide +kernel : decode (mBc 73) 3 = .ok (.invokespecial 3, 3)) rfl
theorem s73_6 : mSnd 73 6 (a_push 7 (.int (iZ 1))) := snd_iconst (by decide +kernel : decode (mBc 73) 6 = .ok (.iconst 1, 1)) rfl rfl
theorem s73_7 : mSnd 73 7 (a_istore 9 5) := snd_istore (by decide +kernel : decode (mBc 73) 7 = .ok (.istore 5, 2)) (by decide) rfl
theorem s73_9 : mSnd 73 9 (a_iload 11 5) := snd_iload (by decide +kernel : decode (mBc 73) 9 = .ok (.iload 5, 2)) rfl
theorem s73_11 : mSnd 73 11 (a_aload 12 0) := snd_aload_n (by decide +kernel : decode (mBc 73) 11 = .ok (.aload_n 0, 1)) rfl rfl
theorem s73_12 : mSnd 73 12 (a_invV 15 0 8 152 [(8, 42, 0, 0)]) := snd_invV v73_9 rfl rfl (by decide +kernel : decode (mBc 73) 12 = .ok (.invokevirtual 9, 3)) rfl
theorem s73_15 : mSnd 73 15 (a_icmp 18 46 (fun x y => decide (y < x))) := snd_icmp_gt (by decide +kernel : decode (mBc 73) 15 = .ok (.if_icmp .gt 31, 3)) rfl rfl
theorem s73_18 : mSnd 73 18 (a_aload 19 0) := snd_aload_n (by decide +kernel : decode (mBc 73) 18 = .ok (.aload_n 0, 1)) rfl rfl
theorem s73_19 : mSnd 73 19 (a_iload 21 5) := snd_iload (by decide +kernel : decode (mBc 73) 19 = .ok (.iload 5, 2)) rfl
theorem s73_21 : mSnd 73 21 (a_iload 23 5) := snd_iload (by decide +kernel : decode (mBc 73) 21 = .ok (.iload 5, 2)) rfl
theorem s73_23 : mSnd 73 23 (a_iload 24 3) := snd_iload_n (by decide +kernel : decode (mBc 73) 23 = .ok (.iload_n 3, 1)) rfl rfl
theorem s73_24 : mSnd 73 24 (a_invS 27 74 2 8 152 0 0) := snd_invS k73_74 rfl rfl q225 q226 q7 (by decide +kernel) (by decide +kernel : decode (mBc 73) 24 = .ok (.invokestatic 15, 3)) rfl
theorem s73_27 : mSnd 73 27 (a_iload 29 4) := snd_iload (by decide +kernel : decode (mBc 73) 27 = .ok (.iload 4, 2)) rfl
theorem s73_29 : mSnd 73 29 (a_icmp 32 36 (fun x y => decide (x < y))) := snd_icmp_lt (by decide +kernel : decode (mBc 73) 29 = .ok (.if_icmp .lt 7, 3)) rfl rfl
theorem s73_32 : mSnd 73 32 (a_push 33 (.int (iZ 1))) := snd_iconst (by decide +kernel : decode (mBc 73) 32 = .ok (.iconst 1, 1)) rfl rfl
theorem s73_33 : mSnd 73 33 (a_goto 37) := snd_goto (by decide +kernel : decode (mBc 73) 33 = .ok (.goto 4, 3)) rfl
theorem s73_36 : mSnd 73 36 (a_push 37 (.int (iZ 0))) := snd_iconst (by decide +kernel : decode (mBc 73) 36 = .ok (.iconst 0, 1)) rfl rfl
theorem s73_37 : mSnd 73 37 (a_invV 40 2 8 152 [(8, 48, 0, 0)]) := snd_invV v73_19 rfl rfl (by decide +kernel : decode (mBc 73) 37 = .ok (.invokevirtual 19, 3)) rfl
theorem s73_40 : mSnd 73 40 (a_iinc 43 5 (iZ 1)) := snd_iinc (by decide +kernel : decode (mBc 73) 40 = .ok (.iinc 5 1, 3)) rfl (by decide) rfl
theorem s73_43 : mSnd 73 43 (a_goto 9) := snd_goto (by decide +kernel : decode (mBc 73) 43 = .ok (.goto (-34), 3)) rfl
theorem s73_46 : mSnd 73 46 (a_vret 8 152) := snd_vret rfl rfl rfl (by decide +kernel : decode (mBc 73) 46 = .ok (.return_, 1))
theorem ok73 : mOkl2 73 ct73 := ⟨⟨s73_0, s73_1, s73_2, s73_3, s73_6, s73_7, s73_9, s73_11, s73_12, s73_15, s73_18, s73_19, trivial⟩, ⟨s73_21, s73_23, s73_24, s73_27, s73_29, s73_32, s73_33, s73_36, s73_37, s73_40, s73_43, s73_46, trivial⟩, trivial⟩
theorem s74_0 : mSnd 74 0 (a_push 1 (.int (iZ 0))) := snd_iconst (by decide +kernel : decode (mBc 74) 0 = .ok (.iconst 0, 1)) rfl rfl
theorem s74_1 : mSnd 74 1 (a_istore 2 2) := snd_istore_n (by decide +kernel : decode (mBc 74) 1 = .ok (.istore_n 2, 1)) rfl (by decide) rfl
theorem s74_2 : mSnd 74 2 (a_iload 3 1) := snd_iload_n (by decide +kernel : decode (mBc 74) 2 = .ok (.iload_n 1, 1)) rfl rfl
theorem s74_3 : mSnd 74 3 (a_istore 4 3) := snd_istore_n (by decide +kernel : decode (mBc 74) 3 = .ok (.istore_n 3, 1)) rfl (by decide) rfl
theorem s74_4 : mSnd 74 4 (a_push 5 (.int (iZ 0))) := snd_iconst (by decide +kernel : decode (mBc 74) 4 = .ok (.iconst 0, 1)) rfl rfl
theorem s74_5 : mSnd 74 5 (a_istore 7 4) := snd_istore (by decide +kernel : decode (mBc 74) 5 = .ok (.istore 4, 2)) (by decide) rfl
theorem s74_7 : mSnd 74 7 (a_iload 9 4) := snd_iload (by decide +kernel : decode (mBc 74) 7 = .ok (.iload 4, 2)) rfl
theorem s74_9 : mSnd 74 9 (a_push 10 (.int (iZ 4))) := snd_iconst (by decide +kernel : decode (mBc 74) 9 = .ok (.iconst 4, 1)) rfl rfl
theorem s74_10 : mSnd 74 10 (a_icmp 13 38 (fun x y => decide (y ≤ x))) := snd_icmp_ge (by decide +kernel : decode (mBc 74) 10 = .ok (.if_icmp .ge 28, 3)) rfl rfl
theorem s74_13 : mSnd 74 13 (a_iload 14 2) := snd_iload_n (by decide +kernel : decode (mBc 74) 13 = .ok (.iload_n 2, 1)) rfl rfl
theorem s74_14 : mSnd 74 14 (a_iload 15 0) := snd_iload_n (by decide +kernel : decode (mBc 74) 14 = .ok (.iload_n 0, 1)) rfl rfl
theorem s74_15 : mSnd 74 15 (a_iload 17 4) := snd_iload (by decide +kernel : decode (mBc 74) 15 = .ok (.iload 4, 2)) rfl
theorem s74_17 : mSnd 74 17 (a_invS 20 126 2 0 0 0 0) := snd_invSN (host := "JointWorks") k74_126 rfl rfl (by decide +kernel) q229 q1 (by decide +kernel) (by decide +kernel : decode (mBc 74) 17 = .ok (.invokestatic 22, 3)) rfl
theorem s74_20 : mSnd 74 20 (a_iload 21 3) := snd_iload_n (by decide +kernel : decode (mBc 74) 20 = .ok (.iload_n 3, 1)) rfl rfl
theorem s74_21 : mSnd 74 21 (a_push 23 (.int (iZ 21))) := snd_bipush (by decide +kernel : decode (mBc 74) 21 = .ok (.bipush 21, 2)) (by decide +kernel) rfl
theorem s74_23 : mSnd 74 23 (a_iid 24 (fun x y => x - x / y * y)) := snd_irem (by decide +kernel : decode (mBc 74) 23 = .ok (.irem, 1)) rfl
theorem s74_24 : mSnd 74 24 (a_ii 25 (fun x y => x * y)) := snd_imul (by decide +kernel : decode (mBc 74) 24 = .ok (.imul, 1)) rfl
theorem s74_25 : mSnd 74 25 (a_ii 26 (fun x y => x + y)) := snd_iadd (by decide +kernel : decode (mBc 74) 25 = .ok (.iadd, 1)) rfl
theorem s74_26 : mSnd 74 26 (a_istore 27 2) := snd_istore_n (by decide +kernel : decode (mBc 74) 26 = .ok (.istore_n 2, 1)) rfl (by decide) rfl
theorem s74_27 : mSnd 74 27 (a_iload 28 3) := snd_iload_n (by decide +kernel : decode (mBc 74) 27 = .ok (.iload_n 3, 1)) rfl rfl
theorem s74_28 : mSnd 74 28 (a_push 30 (.int (iZ 21))) := snd_bipush (by decide +kernel : decode (mBc 74) 28 = .ok (.bipush 21, 2)) (by decide +kernel) rfl
theorem s74_30 : mSnd 74 30 (a_iid 31 (fun x y => x / y)) := snd_idiv (by decide +kernel : decode (mBc 74) 30 = .ok (.idiv, 1)) rfl
theorem s74_31 : mSnd 74 31 (a_istore 32 3) := snd_istore_n (by decide +kernel : decode (mBc 74) 31 = .ok (.istore_n 3, 1)) rfl (by decide) rfl
theorem s74_32 : mSnd 74 32 (a_iinc 35 4 (iZ 1)) := snd_iinc (by decide +kernel : decode (mBc 74) 32 = .ok (.iinc 4 1, 3)) rfl (by decide) rfl
theorem s74_35 : mSnd 74 35 (a_goto 7) := snd_goto (by decide +kernel : decode (mBc 74) 35 = .ok (.goto (-28), 3)) rfl
theorem s74_38 : mSnd 74 38 (a_iload 39 2) := snd_iload_n (by decide +kernel : decode (mBc 74) 38 = .ok (.iload_n 2, 1)) rfl rfl
theorem s74_39 : mSnd 74 39 (a_iret 0 0) := snd_iret rfl rfl rfl (by decide +kernel : decode (mBc 74) 39 = .ok (.ireturn, 1))
theorem ok74 : mOkl2 74 ct74 := ⟨⟨s74_0, s74_1, s74_2, s74_3, s74_4, s74_5, s74_7, s74_9, s74_10, s74_13, s74_14, s74_15, trivial⟩, ⟨s74_17, s74_20, s74_21, s74_23, s74_24, s74_25, s74_26, s74_27, s74_28, s74_30, s74_31, s74_32, trivial⟩, ⟨s74_35, s74_38, s74_39, trivial⟩, trivial⟩
theorem s75_0 : mSnd 75 0 (a_push 1 (.int (iZ 1))) := snd_iconst (by decide +kernel : decode (mBc 75) 0 = .ok (.iconst 1, 1)) rfl rfl
theorem s75_1 : mSnd 75 1 (a_iret 0 0) := snd_iret rfl rfl rfl (by decide +kernel : decode (mBc 75) 1 = .ok (.ireturn, 1))
theorem ok75 : mOkl2 75 ct75 := ⟨⟨s75_0, s75_1, trivial⟩, trivial⟩
theorem s76_0 : mSnd 76 0 (a_aload 1 2) := snd_aload_n (by decide +kernel : decode (mBc 76) 0 = .ok (.aload_n 2, 1)) rfl rfl
theorem s76_1 : mSnd 76 1 (a_push 3 (.int (iZ 20))) := snd_bipush (by decide +kernel : decode (mBc 76) 1 = .ok (.bipush 20, 2)) (by decide +kernel) rfl
theorem s76_3 : mSnd 76 3 (a_invV 6 1 0 0 [(7, 71, 0, 0)]) := snd_invV v76_25 rfl rfl (by decide +kernel : decode (mBc 76) 3 = .ok (.invokevirtual 25, 3)) rfl
theorem s76_6 : mSnd 76 6 (a_aload 7 0) := snd_aload_n (by decide +kernel : decode (mBc 76) 6 = .ok (.aload_n 0, 1)) rfl rfl
theorem s76_7 : mSnd 76 7 (a_iload 8 1) := snd_iload_n (by decide +kernel : decode (mBc 76) 7 = .ok (.iload_n 1, 1)) rfl rfl
theorem s76_8 : mSnd 76 8 (a_aload 9 2) := snd_aload_n (by decide +kernel : decode (mBc 76) 8 = .ok (.aload_n 2, 1)) rfl rfl
theorem s76_9 : mSnd 76 9 (a_invV 12 2 0 0 [(8, 39, 0, 0)]) := snd_invU u76_31 rfl rfl (by decide +kernel : decode (mBc 76) 9 = .ok (.invokespecial 31, 3)) rfl
theorem s76_12 : mSnd 76 12 (a_push 13 (.int (iZ 2))) := snd_iconst (by decide +kernel : decode (mBc 76) 12 = .ok (.iconst 2, 1)) rfl rfl
theorem s76_13 : mSnd 76 13 (a_ii 14 (fun x y => x * y)) := snd_imul (by decide +kernel : decode (mBc 76) 13 = .ok (.imul, 1)) rfl
theorem s76_14 : mSnd 76 14 (a_iret 0 0) := snd_iret rfl rfl rfl (by decide +kernel : decode (mBc 76) 14 = .ok (.ireturn, 1))
theorem ok76 : mOkl2 76 ct76 := ⟨⟨s76_0, s76_1, s76_3, s76_6, s76_7, s76_8, s76_9, s76_12, s76_13, s76_14, trivial⟩, trivial⟩
theorem s77_0 : mSnd 77 0 (a_aload 1 2) := snd_aload_n (by decide +kernel : decode (mBc 77) 0 = .ok (.aload_n 2, 1)) rfl rfl
theorem s77_1 : mSnd 77 1 (a_push 3 (.int (iZ 21))) := snd_bipush (by decide +kernel : decode (mBc 77) 1 = .ok (.bipush 21, 2)) (by decide +kernel) rfl
theorem s77_3 : mSnd 77 3 (a_invV 6 1 0 0 [(7, 71, 0, 0)]) := snd_invV v77_25 rfl rfl (by decide +kernel : decode (mBc 77) 3 = .ok (.invokevirtual 25, 3)) rfl
theorem s77_6 : mSnd 77 6 (a_aload 7 0) := snd_aload_n (by decide +kernel : decode (mBc 77) 6 = .ok (.aload_n 0, 1)) rfl rfl
theorem s77_7 : mSnd 77 7 (a_iload 8 1) := snd_iload_n (by decide +kernel : decode (mBc 77) 7 = .ok (.iload_n 1, 1)) rfl rfl
theorem s77_8 : mSnd 77 8 (a_aload 9 2) := snd_aload_n (by decide +kernel : decode (mBc 77) 8 = .ok (.aload_n 2, 1)) rfl rfl
theorem s77_9 : mSnd 77 9 (a_invV 12 2 0 0 [(8, 41, 0, 0)]) := snd_invU u77_35 rfl rfl (by decide +kernel : decode (mBc 77) 9 = .ok (.invokespecial 35, 3)) rfl
theorem s77_12 : mSnd 77 12 (a_push 13 (.int (iZ 1))) := snd_iconst (by decide +kernel : decode (mBc 77) 12 = .ok (.iconst 1, 1)) rfl rfl
theorem s77_13 : mSnd 77 13 (a_ii 14 (fun x y => x - y)) := snd_isub (by decide +kernel : decode (mBc 77) 13 = .ok (.isub, 1)) rfl
theorem s77_14 : mSnd 77 14 (a_iret 0 0) := snd_iret rfl rfl rfl (by decide +kernel : decode (mBc 77) 14 = .ok (.ireturn, 1))
theorem ok77 : mOkl2 77 ct77 := ⟨⟨s77_0, s77_1, s77_3, s77_6, s77_7, s77_8, s77_9, s77_12, s77_13, s77_14, trivial⟩, trivial⟩
theorem s78_0 : mSnd 78 0 (a_aload 1 0) := snd_aload_n (by decide +kernel : decode (mBc 78) 0 = .ok (.aload_n 0, 1)) rfl rfl
theorem s78_1 : mSnd 78 1 (a_obj 4) := snd_obj q20 q21 q22 (by decide) (by decide) (by decide +kernel : decode (mBc 78) 1 = .ok (.invokespecial 1, 3)) rfl
theorem s78_4 : mSnd 78 4 (a_aload 5 0) := snd_aload_n (by decide +kernel : decode (mBc 78) 4 = .ok (.aload_n 0, 1)) rfl rfl
theorem s78_5 : mSnd 78 5 (a_push 7 (.int (iZ 10))) := snd_bipush (by decide +kernel : decode (mBc 78) 5 = .ok (.bipush 10, 2)) (by decide +kernel) rfl
theorem s78_7 : mSnd 78 7 (a_newa 10 2 8 110) := snd_anew (by decide) rfl rfl rfl q23 (by decide +kernel : decode (mBc 78) 7 = .ok (.anewarray 9, 3)) rfl
theorem s78_10 : mSnd 78 10 (a_putf 13 0 2 [9]) := snd_putf f21 (by decide +kernel) q57 (Or.inl rfl) (Or.inr ⟨rfl, rfl⟩) (by decide +kernel : decode (mBc 78) 10 = .ok (.putfield 11, 3)) rfl
theorem s78_13 : mSnd 78 13 (a_aload 14 0) := snd_aload_n (by decide +kernel : decode (mBc 78) 13 = .ok (.aload_n 0, 1)) rfl rfl
theorem s78_14 : mSnd 78 14 (a_push 15 (.int (iZ 0))) := snd_iconst (by decide +kernel : decode (mBc 78) 14 = .ok (.iconst 0, 1)) rfl rfl
theorem s78_15 : mSnd 78 15 (a_putf 18 1 0 [9]) := snd_putf f22 (by decide +kernel) q58 (Or.inl rfl) (Or.inl rfl) (by decide +kernel : decode (mBc 78) 15 = .ok (.putfield 15, 3)) rfl
theorem s78_18 : mSnd 78 18 (a_aload 19 0) := snd_aload_n (by decide +kernel : decode (mBc 78) 18 = .ok (.aload_n 0, 1)) rfl rfl
theorem s78_19 : mSnd 78 19 (a_new 22 3 2 8 110 [.int 0, .null]) := snd_new (q := (RX3, TX3, 2)) rfl rfl rfl rfl (by decide +kernel) (by intro v hv a e; subst e; simp at hv) q25 q26 q2 (by decide +kernel : decode (mBc 78) 19 = .ok (.new 19, 3)) rfl
theorem s78_22 : mSnd 78 22 (a_dup 23) := snd_dup (by decide +kernel : decode (mBc 78) 22 = .ok (.dup, 1)) rfl
theorem s78_23 : mSnd 78 23 (a_invI 26 21 0 8 110 1 25) := snd_invI k78_21 rfl rfl rfl rfl q27 q28 q2 (by decide +kernel) (by decide +kernel : decode (mBc 78) 23 = .ok (.invokespecial 21, 3)) rfl
theorem s78_26 : mSnd 78 26 (a_putf 29 2 2 [9]) := snd_putf f23 (by decide +kernel) q59 (Or.inl rfl) (Or.inr ⟨rfl, rfl⟩) (by decide +kernel : decode (mBc 78) 26 = .ok (.putfield 22, 3)) rfl
theorem s78_29 : mSnd 78 29 (a_aload 30 0) := snd_aload_n (by decide +kernel : decode (mBc 78) 29 = .ok (.aload_n 0, 1)) rfl rfl
theorem s78_30 : mSnd 78 30 (a_new 33 3 2 8 110 [.int 0, .null]) := snd_new (q := (RX3, TX3, 2)) rfl rfl rfl rfl (by decide +kernel) (by intro v hv a e; subst e; simp at hv) q25 q26 q2 (by decide +kernel : decode (mBc 78) 30 = .ok (.new 19, 3)) rfl
theorem s78_33 : mSnd 78 33 (a_dup 34) := snd_dup (by decide +kernel : decode (mBc 78) 33 = .ok (.dup, 1)) rfl
theorem s78_34 : mSnd 78 34 (a_invI 37 21 0 8 110 1 25) := snd_invI k78_21 rfl rfl rfl rfl q27 q28 q2 (by decide +kernel) (by decide +kernel : decode (mBc 78) 34 = .ok (.invokespecial 21, 3)) rfl
theorem s78_37 : mSnd 78 37 (a_putf 40 3 2 [9]) := snd_putf f24 (by decide +kernel) q60 (Or.inl rfl) (Or.inr ⟨rfl, rfl⟩) (by decide +kernel : decode (mBc 78) 37 = .ok (.putfield 26, 3)) rfl
theorem s78_40 : mSnd 78 40 (a_aload 41 0) := snd_aload_n (by decide +kernel : decode (mBc 78) 40 = .ok (.aload_n 0, 1)) rfl rfl
theorem s78_41 : mSnd 78 41 (a_new 44 7 2 8 110 [.int 0, .null]) := snd_new (q := (RX7, TX7, 2)) rfl rfl rfl rfl (by decide +kernel) (by intro v hv a e; subst e; simp at hv) q40 q41 q3 (by decide +kernel : decode (mBc 78) 41 = .ok (.new 29, 3)) rfl
theorem s78_44 : mSnd 78 44 (a_dup 45) := snd_dup (by decide +kernel : decode (mBc 78) 44 = .ok (.dup, 1)) rfl
theorem s78_45 : mSnd 78 45 (a_invI 48 69 0 8 110 1 40) := snd_invI k78_69 rfl rfl rfl rfl q42 q43 q3 (by decide +kernel) (by decide +kernel : decode (mBc 78) 45 = .ok (.invokespecial 31, 3)) rfl
theorem s78_48 : mSnd 78 48 (a_putf 51 4 2 [9]) := snd_putf f25 (by decide +kernel) q61 (Or.inl rfl) (Or.inr ⟨rfl, rfl⟩) (by decide +kernel : decode (mBc 78) 48 = .ok (.putfield 32, 3)) rfl
theorem s78_51 : mSnd 78 51 (a_aload 52 0) := snd_aload_n (by decide +kernel : decode (mBc 78) 51 = .ok (.aload_n 0, 1)) rfl rfl
theorem s78_52 : mSnd 78 52 (a_push 53 (.int (iZ 4))) := snd_iconst (by decide +kernel : decode (mBc 78) 52 = .ok (.iconst 4, 1)) rfl rfl
theorem s78_53 : mSnd 78 53 (a_newa 56 3 8 110) := snd_anew (by decide) rfl rfl rfl q55 (by decide +kernel : decode (mBc 78) 53 = .ok (.anewarray 36, 3)) rfl
theorem s78_56 : mSnd 78 56 (a_putf 59 5 2 [9]) := snd_putf f26 (by decide +kernel) q62 (Or.inl rfl) (Or.inr ⟨rfl, rfl⟩) (by decide +kernel : decode (mBc 78) 56 = .ok (.putfield 38, 3)) rfl
theorem s78_59 : mSnd 78 59 (a_vret 8 110) := snd_vret rfl rfl rfl (by decide +kernel : decode (mBc 78) 59 = .ok (.return_, 1))
theorem ok78 : mOkl2 78 ct78 := ⟨⟨s78_0, s78_1, s78_4, s78_5, s78_7, s78_10, s78_13, s78_14, s78_15, s78_18, s78_19, s78_22, trivial⟩, ⟨s78_23, s78_26, s78_29, s78_30, s78_33, s78_34, s78_37, s78_40, s78_41, s78_44, s78_45, s78_48, trivial⟩, ⟨s78_51, s78_52, s78_53, s78_56, s78_59, trivial⟩, trivial⟩
theorem s79_0 : mSnd 79 0 (a_iload 1 1) := snd_iload_n (by decide +kernel : decode (mBc 79) 0 = .ok (.iload_n 1, 1)) rfl rfl
theorem s79_1 : mSnd 79 1 (a_invS 4 119 1 9 158 0 0) := snd_invS k79_119 rfl rfl q80 q81 q1 (by decide +kernel) (by decide +kernel : decode (mBc 79) 1 = .ok (.invokestatic 42, 3)) rfl
theorem s79_4 : mSnd 79 4 (a_if 7 10 (fun x => decide (¬ x = 0))) := snd_if_ne (by decide +kernel : decode (mBc 79) 4 = .ok (.ifCond .ne 6, 3)) rfl rfl
theorem s79_7 : mSnd 79 7 (a_push 9 (.int (iZ (-2)))) := snd_bipush (by decide +kernel : decode (mBc 79) 7 = .ok (.bipush (-2), 2)) (by decide +kernel) rfl
theorem s79_9 : mSnd 79 9 (a_iret 9 158) := snd_iret rfl rfl rfl (by decide +kernel : decode (mBc 79) 9 = .ok (.ireturn, 1))
theorem s79_10 : mSnd 79 10 (a_aload 11 0) := snd_aload_n (by decide +kernel : decode (mBc 79) 10 = .ok (.aload_n 0, 1)) rfl rfl
theorem s79_11 : mSnd 79 11 (a_invV 14 0 9 158 [(9, 115, 0, 0)]) := snd_invV v79_46 rfl rfl (by decide +kernel : decode (mBc 79) 11 = .ok (.invokevirtual 46, 3)) rfl
theorem s79_14 : mSnd 79 14 (a_if 17 22 (fun x => decide (x = 0))) := snd_if_eq (by decide +kernel : decode (mBc 79) 14 = .ok (.ifCond .eq 8, 3)) rfl rfl
theorem s79_17 : mSnd 79 17 (a_push 19 (.int (iZ (-4)))) := snd_bipush (by decide +kernel : decode (mBc 79) 17 = .ok (.bipush (-4), 2)) (by decide +kernel) rfl
theorem s79_19 : mSnd 79 19 (a_goto 38) := snd_goto (by decide +kernel : decode (mBc 79) 19 = .ok (.goto 19, 3)) rfl
theorem s79_22 : mSnd 79 22 (a_aload 23 0) := snd_aload_n (by decide +kernel : decode (mBc 79) 22 = .ok (.aload_n 0, 1)) rfl rfl
theorem s79_23 : mSnd 79 23 (a_new 26 6 6 9 158 [.int 0, .int 0, .null, .null, .null, .int 0]) := snd_new (q := (RX6, TX6, 6)) rfl rfl rfl rfl (by decide +kernel) (by intro v hv a e; subst e; simp at hv) q23 q87 q5 (by decide +kernel : decode (mBc 79) 23 = .ok (.new 9, 3)) rfl
theorem s79_26 : mSnd 79 26 (a_dup 27) := snd_dup (by decide +kernel : decode (mBc 79) 26 = .ok (.dup, 1)) rfl
theorem s79_27 : mSnd 79 27 (a_aload 28 0) := snd_aload_n (by decide +kernel : decode (mBc 79) 27 = .ok (.aload_n 0, 1)) rfl rfl
theorem s79_28 : mSnd 79 28 (a_getf 31 1 [9]) := snd_getf f22 q58 (Or.inl rfl) (by decide +kernel : decode (mBc 79) 28 = .ok (.getfield 15, 3)) rfl
theorem s79_31 : mSnd 79 31 (a_iload 32 1) := snd_iload_n (by decide +kernel : decode (mBc 79) 31 = .ok (.iload_n 1, 1)) rfl rfl
theorem s79_32 : mSnd 79 32 (a_invI 35 37 2 9 158 8 152) := snd_invI k79_37 rfl rfl rfl rfl q88 q89 q5 (by decide +kernel) (by decide +kernel : decode (mBc 79) 32 = .ok (.invokespecial 50, 3)) rfl
theorem s79_35 : mSnd 79 35 (a_invV 38 1 9 158 [(9, 116, 0, 0)]) := snd_invV v79_53 rfl rfl (by decide +kernel : decode (mBc 79) 35 = .ok (.invokevirtual 53, 3)) rfl
theorem s79_38 : mSnd 79 38 (a_iret 9 158) := snd_iret rfl rfl rfl (by decide +kernel : decode (mBc 79) 38 = .ok (.ireturn, 1))
theorem ok79 : mOkl2 79 ct79 := ⟨⟨s79_0, s79_1, s79_4, s79_7, s79_9, s79_10, s79_11, s79_14, s79_17, s79_19, s79_22, s79_23, trivial⟩, ⟨s79_26, s79_27, s79_28, s79_31, s79_32, s79_35, s79_38, trivial⟩, trivial⟩
theorem s80_0 : mSnd 80 0 (a_aload 1 0) := snd_aload_n (by decide +kernel : decode (mBc 80) 0 = .ok (.aload_n 0, 1)) rfl rfl
theorem s80_1 : mSnd 80 1 (a_iload 2 1) := snd_iload_n (by decide +kernel : decode (mBc 80) 1 = .ok (.iload_n 1, 1)) rfl rfl
theorem s80_2 : mSnd 80 2 (a_invV 5 1 0 0 [(9, 114, 0, 0)]) := snd_invV v80_57 rfl rfl (by decide +kernel : decode (mBc 80) 2 = .ok (.invokevirtual 57, 3)) rfl
theorem s80_5 : mSnd 80 5 (a_astore 7 4) := snd_astore (by decide +kernel : decode (mBc 80) 5 = .ok (.astore 4, 2)) (by decide) rfl
theorem s80_7 : mSnd 80 7 (a_aload 9 4) := snd_aload (by decide +kernel : decode (mBc 80) 7 = .ok (.aload 4, 2)) rfl
theorem s80_9 : mSnd 80 9 (a_ifnull 12 29) := snd_ifnull (by decide +kernel : decode (mBc 80) 9 = .ok (.ifnull 20, 3)) rfl rfl
theorem s80_12 : mSnd 80 12 (a_aload 14 4) := snd_aload (by decide +kernel : decode (mBc 80) 12 = .ok (.aload 4, 2)) rfl
theorem s80_14 : mSnd 80 14 (a_iload 15 2) := snd_iload_n (by decide +kernel : decode (mBc 80) 14 = .ok (.iload_n 2, 1)) rfl rfl
theorem s80_15 : mSnd 80 15 (a_invV 18 1 0 0 [(1, 44, 0, 0), (2, 44, 0, 0), (4, 44, 0, 0), (6, 44, 0, 0), (8, 44, 0, 0)]) := snd_invV v80_61 rfl rfl (by decide +kernel : decode (mBc 80) 15 = .ok (.invokevirtual 61, 3)) rfl
theorem s80_18 : mSnd 80 18 (a_if 21 29 (fun x => decide (x = 0))) := snd_if_eq (by decide +kernel : decode (mBc 80) 18 = .ok (.ifCond .eq 11, 3)) rfl rfl
theorem s80_21 : mSnd 80 21 (a_iload 22 3) := snd_iload_n (by decide +kernel : decode (mBc 80) 21 = .ok (.iload_n 3, 1)) rfl rfl
theorem s80_22 : mSnd 80 22 (a_i2l 23) := snd_i2l (by decide +kernel : decode (mBc 80) 22 = .ok (.i2l, 1)) rfl
theorem s80_23 : mSnd 80 23 (a_invS 26 120 1 0 0 0 0) := snd_invS k80_120 rfl rfl q176 q177 q1 (by decide +kernel) (by decide +kernel : decode (mBc 80) 23 = .ok (.invokestatic 64, 3)) rfl
theorem s80_26 : mSnd 80 26 (a_if 29 32 (fun x => decide (¬ x = 0))) := snd_if_ne (by decide +kernel : decode (mBc 80) 26 = .ok (.ifCond .ne 6, 3)) rfl rfl
theorem s80_29 : mSnd 80 29 (a_push 31 (.int (iZ (-2)))) := snd_bipush (by decide +kernel : decode (mBc 80) 29 = .ok (.bipush (-2), 2)) (by decide +kernel) rfl
theorem s80_31 : mSnd 80 31 (a_iret 0 0) := snd_iret rfl rfl rfl (by decide +kernel : decode (mBc 80) 31 = .ok (.ireturn, 1))
theorem s80_32 : mSnd 80 32 (a_aload 34 4) := snd_aload (by decide +kernel : decode (mBc 80) 32 = .ok (.aload 4, 2)) rfl
theorem s80_34 : mSnd 80 34 (a_invV 37 0 0 0 [(1, 15, 0, 0), (2, 18, 0, 0), (4, 31, 0, 0), (6, 38, 0, 0), (8, 75, 0, 0)]) := snd_invV v80_68 rfl rfl (by decide +kernel : decode (mBc 80) 34 = .ok (.invokevirtual 68, 3)) rfl
theorem s80_37 : mSnd 80 37 (a_if 40 43 (fun x => decide (x = 0))) := snd_if_eq (by decide +kernel : decode (mBc 80) 37 = .ok (.ifCond .eq 6, 3)) rfl rfl
theorem s80_40 : mSnd 80 40 (a_push 42 (.int (iZ (-3)))) := snd_bipush (by decide +kernel : decode (mBc 80) 40 = .ok (.bipush (-3), 2)) (by decide +kernel) rfl
theorem s80_42 : mSnd 80 42 (a_iret 0 0) := snd_iret rfl rfl rfl (by decide +kernel : decode (mBc 80) 42 = .ok (.ireturn, 1))
theorem s80_43 : mSnd 80 43 (a_aload 45 4) := snd_aload (by decide +kernel : decode (mBc 80) 43 = .ok (.aload 4, 2)) rfl
theorem s80_45 : mSnd 80 45 (a_iload 46 2) := snd_iload_n (by decide +kernel : decode (mBc 80) 45 = .ok (.iload_n 2, 1)) rfl rfl
theorem s80_46 : mSnd 80 46 (a_iload 47 3) := snd_iload_n (by decide +kernel : decode (mBc 80) 46 = .ok (.iload_n 3, 1)) rfl rfl
theorem s80_47 : mSnd 80 47 (a_invV 50 2 0 0 [(1, 48, 0, 0), (2, 48, 0, 0), (4, 48, 0, 0), (6, 48, 0, 0), (8, 48, 0, 0)]) := snd_invV v80_72 rfl rfl (by decide +kernel : decode (mBc 80) 47 = .ok (.invokevirtual 72, 3)) rfl
theorem s80_50 : mSnd 80 50 (a_push 51 (.int (iZ 1))) := snd_iconst (by decide +kernel : decode (mBc 80) 50 = .ok (.iconst 1, 1)) rfl rfl
theorem s80_51 : mSnd 80 51 (a_iret 0 0) := snd_iret rfl rfl rfl (by decide +kernel : decode (mBc 80) 51 = .ok (.ireturn, 1))
theorem ok80 : mOkl2 80 ct80 := ⟨⟨s80_0, s80_1, s80_2, s80_5, s80_7, s80_9, s80_12, s80_14, s80_15, s80_18, s80_21, s80_22, trivial⟩, ⟨s80_23, s80_26, s80_29, s80_31, s80_32, s80_34, s80_37, s80_40, s80_42, s80_43, s80_45, s80_46, trivial⟩, ⟨s80_47, s80_50, s80_51, trivial⟩, trivial⟩
theorem s81_0 : mSnd 81 0 (a_iload 1 1) := snd_iload_n (by decide +kernel : decode (mBc 81) 0 = .ok (.iload_n 1, 1)) rfl rfl
theorem s81_1 : mSnd 81 1 (a_invS 4 119 1 9 158 0 0) := snd_invS k81_119 rfl rfl q80 q81 q1 (by decide +kernel) (by decide +kernel : decode (mBc 81) 1 = .ok (.invokestatic 42, 3)) rfl
theorem s81_4 : mSnd 81 4 (a_if 7 28 (fun x => decide (x = 0))) := snd_if_eq (by decide +kernel : decode (mBc 81) 4 = .ok (.ifCond .eq 24, 3)) rfl rfl
theorem s81_7 : mSnd 81 7 (a_iload 8 2) := snd_iload_n (by decide +kernel : decode (mBc 81) 7 = .ok (.iload_n 2, 1)) rfl rfl
theorem s81_8 : mSnd 81 8 (a_push 10 (.int (iZ 21))) := snd_bipush (by decide +kernel : decode (mBc 81) 8 = .ok (.bipush 21, 2)) (by decide +kernel) rfl
theorem s81_10 : mSnd 81 10 (a_iload 11 1) := snd_iload_n (by decide +kernel : decode (mBc 81) 10 = .ok (.iload_n 1, 1)) rfl rfl
theorem s81_11 : mSnd 81 11 (a_invS 14 125 3 9 158 0 0) := snd_invS k81_125 rfl rfl q212 q213 q1 (by decide +kernel) (by decide +kernel : decode (mBc 81) 11 = .ok (.invokestatic 75, 3)) rfl
theorem s81_14 : mSnd 81 14 (a_if 17 28 (fun x => decide (x = 0))) := snd_if_eq (by decide +kernel : decode (mBc 81) 14 = .ok (.ifCond .eq 14, 3)) rfl rfl
theorem s81_17 : mSnd 81 17 (a_iload 18 3) := snd_iload_n (by decide +kernel : decode (mBc 81) 17 = .ok (.iload_n 3, 1)) rfl rfl
theorem s81_18 : mSnd 81 18 (a_push 19 (.int (iZ 1))) := snd_iconst (by decide +kernel : decode (mBc 81) 18 = .ok (.iconst 1, 1)) rfl rfl
theorem s81_19 : mSnd 81 19 (a_icmp 22 28 (fun x y => decide (x < y))) := snd_icmp_lt (by decide +kernel : decode (mBc 81) 19 = .ok (.if_icmp .lt 9, 3)) rfl rfl
theorem s81_22 : mSnd 81 22 (a_iload 23 3) := snd_iload_n (by decide +kernel : decode (mBc 81) 22 = .ok (.iload_n 3, 1)) rfl rfl
theorem s81_23 : mSnd 81 23 (a_push 25 (.int (iZ 80))) := snd_bipush (by decide +kernel : decode (mBc 81) 23 = .ok (.bipush 80, 2)) (by decide +kernel) rfl
theorem s81_25 : mSnd 81 25 (a_icmp 28 31 (fun x y => decide (x ≤ y))) := snd_icmp_le (by decide +kernel : decode (mBc 81) 25 = .ok (.if_icmp .le 6, 3)) rfl rfl
theorem s81_28 : mSnd 81 28 (a_push 30 (.int (iZ (-2)))) := snd_bipush (by decide +kernel : decode (mBc 81) 28 = .ok (.bipush (-2), 2)) (by decide +kernel) rfl
theorem s81_30 : mSnd 81 30 (a_iret 9 158) := snd_iret rfl rfl rfl (by decide +kernel : decode (mBc 81) 30 = .ok (.ireturn, 1))
theorem s81_31 : mSnd 81 31 (a_aload 32 0) := snd_aload_n (by decide +kernel : decode (mBc 81) 31 = .ok (.aload_n 0, 1)) rfl rfl
theorem s81_32 : mSnd 81 32 (a_invV 35 0 9 158 [(9, 115, 0, 0)]) := snd_invV v81_46 rfl rfl (by decide +kernel : decode (mBc 81) 32 = .ok (.invokevirtual 46, 3)) rfl
theorem s81_35 : mSnd 81 35 (a_if 38 43 (fun x => decide (x = 0))) := snd_if_eq (by decide +kernel : decode (mBc 81) 35 = .ok (.ifCond .eq 8, 3)) rfl rfl
theorem s81_38 : mSnd 81 38 (a_push 40 (.int (iZ (-4)))) := snd_bipush (by decide +kernel : decode (mBc 81) 38 = .ok (.bipush (-4), 2)) (by decide +kernel) rfl
theorem s81_40 : mSnd 81 40 (a_goto 61) := snd_goto (by decide +kernel : decode (mBc 81) 40 = .ok (.goto 21, 3)) rfl
theorem s81_43 : mSnd 81 43 (a_aload 44 0) := snd_aload_n (by decide +kernel : decode (mBc 81) 43 = .ok (.aload_n 0, 1)) rfl rfl
theorem s81_44 : mSnd 81 44 (a_new 47 8 6 9 158 [.int 0, .int 0, .null, .null, .null, .int 0]) := snd_new (q := (RX8, TX8, 6)) rfl rfl rfl rfl (by decide +kernel) (by intro v hv a e; subst e; simp at hv) q215 q216 q7 (by decide +kernel : decode (mBc 81) 44 = .ok (.new 79, 3)) rfl
theorem s81_47 : mSnd 81 47 (a_dup 48) := snd_dup (by decide +kernel : decode (mBc 81) 47 = .ok (.dup, 1)) rfl
theorem s81_48 : mSnd 81 48 (a_aload 49 0) := snd_aload_n (by decide +kernel : decode (mBc 81) 48 = .ok (.aload_n 0, 1)) rfl rfl
theorem s81_49 : mSnd 81 49 (a_getf 52 1 [9]) := snd_getf f22 q58 (Or.inl rfl) (by decide +kernel : decode (mBc 81) 49 = .ok (.getfield 15, 3)) rfl
theorem s81_52 : mSnd 81 52 (a_iload 53 1) := snd_iload_n (by decide +kernel : decode (mBc 81) 52 = .ok (.iload_n 1, 1)) rfl rfl
theorem s81_53 : mSnd 81 53 (a_iload 54 2) := snd_iload_n (by decide +kernel : decode (mBc 81) 53 = .ok (.iload_n 2, 1)) rfl rfl
theorem s81_54 : mSnd 81 54 (a_iload 55 3) := snd_iload_n (by decide +kernel : decode (mBc 81) 54 = .ok (.iload_n 3, 1)) rfl rfl
theorem s81_55 : mSnd 81 55 (a_invI 58 73 4 9 158 8 152) := snd_invI k81_73 rfl rfl rfl rfl q217 q218 q7 (by decide +kernel) (by decide +kernel : decode (mBc 81) 55 = .ok (.invokespecial 81, 3)) rfl
theorem s81_58 : mSnd 81 58 (a_invV 61 1 9 158 [(9, 116, 0, 0)]) := snd_invV v81_53 rfl rfl (by decide +kernel : decode (mBc 81) 58 = .ok (.invokevirtual 53, 3)) rfl
theorem s81_61 : mSnd 81 61 (a_iret 9 158) := snd_iret rfl rfl rfl (by decide +kernel : decode (mBc 81) 61 = .ok (.ireturn, 1))
theorem ok81 : mOkl2 81 ct81 := ⟨⟨s81_0, s81_1, s81_4, s81_7, s81_8, s81_10, s81_11, s81_14, s81_17, s81_18, s81_19, s81_22, trivial⟩, ⟨s81_23, s81_25, s81_28, s81_30, s81_31, s81_32, s81_35, s81_38, s81_40, s81_43, s81_44, s81_47, trivial⟩, ⟨s81_48, s81_49, s81_52, s81_53, s81_54, s81_55, s81_58, s81_61, trivial⟩, trivial⟩
theorem s82_0 : mSnd 82 0 (a_iload 1 1) := snd_iload_n (by decide +kernel : decode (mBc 82) 0 = .ok (.iload_n 1, 1)) rfl rfl
theorem s82_1 : mSnd 82 1 (a_invS 4 119 1 9 158 0 0) := snd_invS k82_119 rfl rfl q80 q81 q1 (by decide +kernel) (by decide +kernel : decode (mBc 82) 1 = .ok (.invokestatic 42, 3)) rfl
theorem s82_4 : mSnd 82 4 (a_if 7 17 (fun x => decide (x = 0))) := snd_if_eq (by decide +kernel : decode (mBc 82) 4 = .ok (.ifCond .eq 13, 3)) rfl rfl
theorem s82_7 : mSnd 82 7 (a_iload 8 2) := snd_iload_n (by decide +kernel : decode (mBc 82) 7 = .ok (.iload_n 2, 1)) rfl rfl
theorem s82_8 : mSnd 82 8 (a_push 10 (.int (iZ 51))) := snd_bipush (by decide +kernel : decode (mBc 82) 8 = .ok (.bipush 51, 2)) (by decide +kernel) rfl
theorem s82_10 : mSnd 82 10 (a_iload 11 1) := snd_iload_n (by decide +kernel : decode (mBc 82) 10 = .ok (.iload_n 1, 1)) rfl rfl
theorem s82_11 : mSnd 82 11 (a_invS 14 125 3 9 158 0 0) := snd_invS k82_125 rfl rfl q212 q213 q1 (by decide +kernel) (by decide +kernel : decode (mBc 82) 11 = .ok (.invokestatic 75, 3)) rfl
theorem s82_14 : mSnd 82 14 (a_if 17 20 (fun x => decide (¬ x = 0))) := snd_if_ne (by decide +kernel : decode (mBc 82) 14 = .ok (.ifCond .ne 6, 3)) rfl rfl
theorem s82_17 : mSnd 82 17 (a_push 19 (.int (iZ (-2)))) := snd_bipush (by decide +kernel : decode (mBc 82) 17 = .ok (.bipush (-2), 2)) (by decide +kernel) rfl
theorem s82_19 : mSnd 82 19 (a_iret 9 158) := snd_iret rfl rfl rfl (by decide +kernel : decode (mBc 82) 19 = .ok (.ireturn, 1))
theorem s82_20 : mSnd 82 20 (a_aload 21 0) := snd_aload_n (by decide +kernel : decode (mBc 82) 20 = .ok (.aload_n 0, 1)) rfl rfl
theorem s82_21 : mSnd 82 21 (a_invV 24 0 9 158 [(9, 115, 0, 0)]) := snd_invV v82_46 rfl rfl (by decide +kernel : decode (mBc 82) 21 = .ok (.invokevirtual 46, 3)) rfl
theorem s82_24 : mSnd 82 24 (a_if 27 32 (fun x => decide (x = 0))) := snd_if_eq (by decide +kernel : decode (mBc 82) 24 = .ok (.ifCond .eq 8, 3)) rfl rfl
theorem s82_27 : mSnd 82 27 (a_push 29 (.int (iZ (-4)))) := snd_bipush (by decide +kernel : decode (mBc 82) 27 = .ok (.bipush (-4), 2)) (by decide +kernel) rfl
theorem s82_29 : mSnd 82 29 (a_goto 49) := snd_goto (by decide +kernel : decode (mBc 82) 29 = .ok (.goto 20, 3)) rfl
theorem s82_32 : mSnd 82 32 (a_aload 33 0) := snd_aload_n (by decide +kernel : decode (mBc 82) 32 = .ok (.aload_n 0, 1)) rfl rfl
theorem s82_33 : mSnd 82 33 (a_new 36 4 6 9 158 [.int 0, .int 0, .null, .null, .null, .int 0]) := snd_new (q := (RX4, TX4, 6)) rfl rfl rfl rfl (by decide +kernel) (by intro v hv a e; subst e; simp at hv) q246 q247 q8 (by decide +kernel : decode (mBc 82) 33 = .ok (.new 84, 3)) rfl
theorem s82_36 : mSnd 82 36 (a_dup 37) := snd_dup (by decide +kernel : decode (mBc 82) 36 = .ok (.dup, 1)) rfl
theorem s82_37 : mSnd 82 37 (a_aload 38 0) := snd_aload_n (by decide +kernel : decode (mBc 82) 37 = .ok (.aload_n 0, 1)) rfl rfl
theorem s82_38 : mSnd 82 38 (a_getf 41 1 [9]) := snd_getf f22 q58 (Or.inl rfl) (by decide +kernel : decode (mBc 82) 38 = .ok (.getfield 15, 3)) rfl
theorem s82_41 : mSnd 82 41 (a_iload 42 1) := snd_iload_n (by decide +kernel : decode (mBc 82) 41 = .ok (.iload_n 1, 1)) rfl rfl
theorem s82_42 : mSnd 82 42 (a_iload 43 2) := snd_iload_n (by decide +kernel : decode (mBc 82) 42 = .ok (.iload_n 2, 1)) rfl rfl
theorem s82_43 : mSnd 82 43 (a_invI 46 29 3 9 158 8 152) := snd_invI k82_29 rfl rfl rfl rfl q248 q249 q8 (by decide +kernel) (by decide +kernel : decode (mBc 82) 43 = .ok (.invokespecial 86, 3)) rfl
theorem s82_46 : mSnd 82 46 (a_invV 49 1 9 158 [(9, 116, 0, 0)]) := snd_invV v82_53 rfl rfl (by decide +kernel : decode (mBc 82) 46 = .ok (.invokevirtual 53, 3)) rfl
theorem s82_49 : mSnd 82 49 (a_iret 9 158) := snd_iret rfl rfl rfl (by decide +kernel : decode (mBc 82) 49 = .ok (.ireturn, 1))
theorem ok82 : mOkl2 82 ct82 := ⟨⟨s82_0, s82_1, s82_4, s82_7, s82_8, s82_10, s82_11, s82_14, s82_17, s82_19, s82_20, s82_21, trivial⟩, ⟨s82_24, s82_27, s82_29, s82_32, s82_33, s82_36, s82_37, s82_38, s82_41, s82_42, s82_43, s82_46, trivial⟩, ⟨s82_49, trivial⟩, trivial⟩
theorem s83_0 : mSnd 83 0 (a_iload 1 1) := snd_iload_n (by decide +kernel : decode (mBc 83) 0 = .ok (.iload_n 1, 1)) rfl rfl
theorem s83_1 : mSnd 83 1 (a_invS 4 119 1 9 158 0 0) := snd_invS k83_119 rfl rfl q80 q81 q1 (by decide +kernel) (by decide +kernel : decode (mBc 83) 1 = .ok (.invokestatic 42, 3)) rfl
theorem s83_4 : mSnd 83 4 (a_if 7 18 (fun x => decide (x = 0))) := snd_if_eq (by decide +kernel : decode (mBc 83) 4 = .ok (.ifCond .eq 14, 3)) rfl rfl
theorem s83_7 : mSnd 83 7 (a_iload 8 2) := snd_iload_n (by decide +kernel : decode (mBc 83) 7 = .ok (.iload_n 2, 1)) rfl rfl
theorem s83_8 : mSnd 83 8 (a_if 11 18 (fun x => decide (x < 0))) := snd_if_lt (by decide +kernel : decode (mBc 83) 8 = .ok (.ifCond .lt 10, 3)) rfl rfl
theorem s83_11 : mSnd 83 11 (a_iload 12 2) := snd_iload_n (by decide +kernel : decode (mBc 83) 11 = .ok (.iload_n 2, 1)) rfl rfl
theorem s83_12 : mSnd 83 12 (a_push 13 (.int (iZ 1))) := snd_iconst (by decide +kernel : decode (mBc 83) 12 = .ok (.iconst 1, 1)) rfl rfl
theorem s83_13 : mSnd 83 13 (a_iload 14 1) := snd_iload_n (by decide +kernel : decode (mBc 83) 13 = .ok (.iload_n 1, 1)) rfl rfl
theorem s83_14 : mSnd 83 14 (a_ii 15 (fun x y => x <<< (y &&& 31))) := snd_ishl (by decide +kernel : decode (mBc 83) 14 = .ok (.ishl, 1)) rfl
theorem s83_15 : mSnd 83 15 (a_icmp 18 21 (fun x y => decide (x < y))) := snd_icmp_lt (by decide +kernel : decode (mBc 83) 15 = .ok (.if_icmp .lt 6, 3)) rfl rfl
theorem s83_18 : mSnd 83 18 (a_push 20 (.int (iZ (-2)))) := snd_bipush (by decide +kernel : decode (mBc 83) 18 = .ok (.bipush (-2), 2)) (by decide +kernel) rfl
theorem s83_20 : mSnd 83 20 (a_iret 9 158) := snd_iret rfl rfl rfl (by decide +kernel : decode (mBc 83) 20 = .ok (.ireturn, 1))
theorem s83_21 : mSnd 83 21 (a_aload 22 0) := snd_aload_n (by decide +kernel : decode (mBc 83) 21 = .ok (.aload_n 0, 1)) rfl rfl
theorem s83_22 : mSnd 83 22 (a_invV 25 0 9 158 [(9, 115, 0, 0)]) := snd_invV v83_46 rfl rfl (by decide +kernel : decode (mBc 83) 22 = .ok (.invokevirtual 46, 3)) rfl
theorem s83_25 : mSnd 83 25 (a_if 28 33 (fun x => decide (x = 0))) := snd_if_eq (by decide +kernel : decode (mBc 83) 25 = .ok (.ifCond .eq 8, 3)) rfl rfl
theorem s83_28 : mSnd 83 28 (a_push 30 (.int (iZ (-4)))) := snd_bipush (by decide +kernel : decode (mBc 83) 28 = .ok (.bipush (-4), 2)) (by decide +kernel) rfl
theorem s83_30 : mSnd 83 30 (a_goto 50) := snd_goto (by decide +kernel : decode (mBc 83) 30 = .ok (.goto 20, 3)) rfl
theorem s83_33 : mSnd 83 33 (a_aload 34 0) := snd_aload_n (by decide +kernel : decode (mBc 83) 33 = .ok (.aload_n 0, 1)) rfl rfl
theorem s83_34 : mSnd 83 34 (a_new 37 1 6 9 158 [.int 0, .int 0, .null, .null, .null, .int 0]) := snd_new (q := (RX1, TX1, 6)) rfl rfl rfl rfl (by decide +kernel) (by intro v hv a e; subst e; simp at hv) q276 q277 q10 (by decide +kernel : decode (mBc 83) 34 = .ok (.new 89, 3)) rfl
theorem s83_37 : mSnd 83 37 (a_dup 38) := snd_dup (by decide +kernel : decode (mBc 83) 37 = .ok (.dup, 1)) rfl
theorem s83_38 : mSnd 83 38 (a_aload 39 0) := snd_aload_n (by decide +kernel : decode (mBc 83) 38 = .ok (.aload_n 0, 1)) rfl rfl
theorem s83_39 : mSnd 83 39 (a_getf 42 1 [9]) := snd_getf f22 q58 (Or.inl rfl) (by decide +kernel : decode (mBc 83) 39 = .ok (.getfield 15, 3)) rfl
theorem s83_42 : mSnd 83 42 (a_iload 43 1) := snd_iload_n (by decide +kernel : decode (mBc 83) 42 = .ok (.iload_n 1, 1)) rfl rfl
theorem s83_43 : mSnd 83 43 (a_iload 44 2) := snd_iload_n (by decide +kernel : decode (mBc 83) 43 = .ok (.iload_n 2, 1)) rfl rfl
theorem s83_44 : mSnd 83 44 (a_invI 47 14 3 9 158 8 152) := snd_invI k83_14 rfl rfl rfl rfl q278 q279 q10 (by decide +kernel) (by decide +kernel : decode (mBc 83) 44 = .ok (.invokespecial 91, 3)) rfl
theorem s83_47 : mSnd 83 47 (a_invV 50 1 9 158 [(9, 116, 0, 0)]) := snd_invV v83_53 rfl rfl (by decide +kernel : decode (mBc 83) 47 = .ok (.invokevirtual 53, 3)) rfl
theorem s83_50 : mSnd 83 50 (a_iret 9 158) := snd_iret rfl rfl rfl (by decide +kernel : decode (mBc 83) 50 = .ok (.ireturn, 1))
theorem ok83 : mOkl2 83 ct83 := ⟨⟨s83_0, s83_1, s83_4, s83_7, s83_8, s83_11, s83_12, s83_13, s83_14, s83_15, s83_18, s83_20, trivial⟩, ⟨s83_21, s83_22, s83_25, s83_28, s83_30, s83_33, s83_34, s83_37, s83_38, s83_39, s83_42, s83_43, trivial⟩, ⟨s83_44, s83_47, s83_50, trivial⟩, trivial⟩
theorem s84_0 : mSnd 84 0 (a_aload 1 0) := snd_aload_n (by decide +kernel : decode (mBc 84) 0 = .ok (.aload_n 0, 1)) rfl rfl
theorem s84_1 : mSnd 84 1 (a_iload 2 1) := snd_iload_n (by decide +kernel : decode (mBc 84) 1 = .ok (.iload_n 1, 1)) rfl rfl
theorem s84_2 : mSnd 84 2 (a_invV 5 1 9 158 [(9, 114, 0, 0)]) := snd_invV v84_57 rfl rfl (by decide +kernel : decode (mBc 84) 2 = .ok (.invokevirtual 57, 3)) rfl
theorem s84_5 : mSnd 84 5 (a_astore 7 5) := snd_astore (by decide +kernel : decode (mBc 84) 5 = .ok (.astore 5, 2)) (by decide) rfl
theorem s84_7 : mSnd 84 7 (a_aload 8 0) := snd_aload_n (by decide +kernel : decode (mBc 84) 7 = .ok (.aload_n 0, 1)) rfl rfl
theorem s84_8 : mSnd 84 8 (a_iload 9 2) := snd_iload_n (by decide +kernel : decode (mBc 84) 8 = .ok (.iload_n 2, 1)) rfl rfl
theorem s84_9 : mSnd 84 9 (a_invV 12 1 9 158 [(9, 114, 0, 0)]) := snd_invV v84_57 rfl rfl (by decide +kernel : decode (mBc 84) 9 = .ok (.invokevirtual 57, 3)) rfl
theorem s84_12 : mSnd 84 12 (a_astore 14 6) := snd_astore (by decide +kernel : decode (mBc 84) 12 = .ok (.astore 6, 2)) (by decide) rfl
theorem s84_14 : mSnd 84 14 (a_aload 16 5) := snd_aload (by decide +kernel : decode (mBc 84) 14 = .ok (.aload 5, 2)) rfl
theorem s84_16 : mSnd 84 16 (a_ifnull 19 39) := snd_ifnull (by decide +kernel : decode (mBc 84) 16 = .ok (.ifnull 23, 3)) rfl rfl
theorem s84_19 : mSnd 84 19 (a_aload 21 6) := snd_aload (by decide +kernel : decode (mBc 84) 19 = .ok (.aload 6, 2)) rfl
theorem s84_21 : mSnd 84 21 (a_ifnull 24 39) := snd_ifnull (by decide +kernel : decode (mBc 84) 21 = .ok (.ifnull 18, 3)) rfl rfl
theorem s84_24 : mSnd 84 24 (a_iload 25 3) := snd_iload_n (by decide +kernel : decode (mBc 84) 24 = .ok (.iload_n 3, 1)) rfl rfl
theorem s84_25 : mSnd 84 25 (a_invS 28 121 1 9 158 0 0) := snd_invS k84_121 rfl rfl q308 q309 q1 (by decide +kernel) (by decide +kernel : decode (mBc 84) 25 = .ok (.invokestatic 92, 3)) rfl
theorem s84_28 : mSnd 84 28 (a_if 31 39 (fun x => decide (x = 0))) := snd_if_eq (by decide +kernel : decode (mBc 84) 28 = .ok (.ifCond .eq 11, 3)) rfl rfl
theorem s84_31 : mSnd 84 31 (a_iload 33 4) := snd_iload (by decide +kernel : decode (mBc 84) 31 = .ok (.iload 4, 2)) rfl
theorem s84_33 : mSnd 84 33 (a_invS 36 121 1 9 158 0 0) := snd_invS k84_121 rfl rfl q308 q309 q1 (by decide +kernel) (by decide +kernel : decode (mBc 84) 33 = .ok (.invokestatic 92, 3)) rfl
theorem s84_36 : mSnd 84 36 (a_if 39 42 (fun x => decide (¬ x = 0))) := snd_if_ne (by decide +kernel : decode (mBc 84) 36 = .ok (.ifCond .ne 6, 3)) rfl rfl
theorem s84_39 : mSnd 84 39 (a_push 41 (.int (iZ (-2)))) := snd_bipush (by decide +kernel : decode (mBc 84) 39 = .ok (.bipush (-2), 2)) (by decide +kernel) rfl
theorem s84_41 : mSnd 84 41 (a_iret 9 158) := snd_iret rfl rfl rfl (by decide +kernel : decode (mBc 84) 41 = .ok (.ireturn, 1))
theorem s84_42 : mSnd 84 42 (a_aload 44 5) := snd_aload (by decide +kernel : decode (mBc 84) 42 = .ok (.aload 5, 2)) rfl
theorem s84_44 : mSnd 84 44 (a_getf 47 1 [1, 2, 4, 6, 8]) := snd_getf f10 q128 (Or.inl rfl) (by decide +kernel : decode (mBc 84) 44 = .ok (.getfield 95, 3)) rfl
theorem s84_47 : mSnd 84 47 (a_aload 49 6) := snd_aload (by decide +kernel : decode (mBc 84) 47 = .ok (.aload 6, 2)) rfl
theorem s84_49 : mSnd 84 49 (a_getf 52 1 [1, 2, 4, 6, 8]) := snd_getf f10 q128 (Or.inl rfl) (by decide +kernel : decode (mBc 84) 49 = .ok (.getfield 95, 3)) rfl
theorem s84_52 : mSnd 84 52 (a_icmp 55 58 (fun x y => decide (x = y))) := snd_icmp_eq (by decide +kernel : decode (mBc 84) 52 = .ok (.if_icmp .eq 6, 3)) rfl rfl
theorem s84_55 : mSnd 84 55 (a_push 57 (.int (iZ (-3)))) := snd_bipush (by decide +kernel : decode (mBc 84) 55 = .ok (.bipush (-3), 2)) (by decide +kernel) rfl
theorem s84_57 : mSnd 84 57 (a_iret 9 158) := snd_iret rfl rfl rfl (by decide +kernel : decode (mBc 84) 57 = .ok (.ireturn, 1))
theorem s84_58 : mSnd 84 58 (a_aload 59 0) := snd_aload_n (by decide +kernel : decode (mBc 84) 58 = .ok (.aload_n 0, 1)) rfl rfl
theorem s84_59 : mSnd 84 59 (a_invV 62 0 9 158 [(9, 115, 0, 0)]) := snd_invV v84_46 rfl rfl (by decide +kernel : decode (mBc 84) 59 = .ok (.invokevirtual 46, 3)) rfl
theorem s84_62 : mSnd 84 62 (a_if 65 78 (fun x => decide (¬ x = 0))) := snd_if_ne (by decide +kernel : decode (mBc 84) 62 = .ok (.ifCond .ne 16, 3)) rfl rfl
theorem s84_65 : mSnd 84 65 (a_aload 67 5) := snd_aload (by decide +kernel : decode (mBc 84) 65 = .ok (.aload 5, 2)) rfl
theorem s84_67 : mSnd 84 67 (a_aload 69 6) := snd_aload (by decide +kernel : decode (mBc 84) 67 = .ok (.aload 6, 2)) rfl
theorem s84_69 : mSnd 84 69 (a_iload 70 3) := snd_iload_n (by decide +kernel : decode (mBc 84) 69 = .ok (.iload_n 3, 1)) rfl rfl
theorem s84_70 : mSnd 84 70 (a_iload 72 4) := snd_iload (by decide +kernel : decode (mBc 84) 70 = .ok (.iload 4, 2)) rfl
theorem s84_72 : mSnd 84 72 (a_invS 75 117 4 9 158 0 0) := snd_invS k84_117 rfl rfl q311 q312 q1 (by decide +kernel) (by decide +kernel : decode (mBc 84) 72 = .ok (.invokestatic 98, 3)) rfl
theorem s84_75 : mSnd 84 75 (a_if 78 81 (fun x => decide (¬ x = 0))) := snd_if_ne (by decide +kernel : decode (mBc 84) 75 = .ok (.ifCond .ne 6, 3)) rfl rfl
theorem s84_78 : mSnd 84 78 (a_push 80 (.int (iZ (-4)))) := snd_bipush (by decide +kernel : decode (mBc 84) 78 = .ok (.bipush (-4), 2)) (by decide +kernel) rfl
theorem s84_80 : mSnd 84 80 (a_iret 9 158) := snd_iret rfl rfl rfl (by decide +kernel : decode (mBc 84) 80 = .ok (.ireturn, 1))
theorem s84_81 : mSnd 84 81 (a_new 84 2 6 9 158 [.int 0, .int 0, .null, .null, .null, .int 0]) := snd_new (q := (RX2, TX2, 6)) rfl rfl rfl rfl (by decide +kernel) (by intro v hv a e; subst e; simp at hv) q324 q325 q12 (by decide +kernel : decode (mBc 84) 81 = .ok (.new 102, 3)) rfl
theorem s84_84 : mSnd 84 84 (a_dup 85) := snd_dup (by decide +kernel : decode (mBc 84) 84 = .ok (.dup, 1)) rfl
theorem s84_85 : mSnd 84 85 (a_aload 86 0) := snd_aload_n (by decide +kernel : decode (mBc 84) 85 = .ok (.aload_n 0, 1)) rfl rfl
theorem s84_86 : mSnd 84 86 (a_getf 89 1 [9]) := snd_getf f22 q58 (Or.inl rfl) (by decide +kernel : decode (mBc 84) 86 = .ok (.getfield 15, 3)) rfl
theorem s84_89 : mSnd 84 89 (a_aload 91 5) := snd_aload (by decide +kernel : decode (mBc 84) 89 = .ok (.aload 5, 2)) rfl
theorem s84_91 : mSnd 84 91 (a_getf 94 1 [1, 2, 4, 6, 8]) := snd_getf f10 q128 (Or.inl rfl) (by decide +kernel : decode (mBc 84) 91 = .ok (.getfield 95, 3)) rfl
theorem s84_94 : mSnd 84 94 (a_invI 97 17 2 9 158 8 152) := snd_invI k84_17 rfl rfl rfl rfl q326 q327 q12 (by decide +kernel) (by decide +kernel : decode (mBc 84) 94 = .ok (.invokespecial 104, 3)) rfl
theorem s84_97 : mSnd 84 97 (a_astore 99 7) := snd_astore (by decide +kernel : decode (mBc 84) 97 = .ok (.astore 7, 2)) (by decide) rfl
theorem s84_99 : mSnd 84 99 (a_push 100 (.int (iZ 1))) := snd_iconst (by decide +kernel : decode (mBc 84) 99 = .ok (.iconst 1, 1)) rfl rfl
theorem s84_100 : mSnd 84 100 (a_istore 102 8) := snd_istore (by decide +kernel : decode (mBc 84) 100 = .ok (.istore 8, 2)) (by decide) rfl
theorem s84_102 : mSnd 84 102 (a_iload 104 8) := snd_iload (by decide +kernel : decode (mBc 84) 102 = .ok (.iload 8, 2)) rfl
theorem s84_104 : mSnd 84 104 (a_aload 106 7) := snd_aload (by decide +kernel : decode (mBc 84) 104 = .ok (.aload 7, 2)) rfl
theorem s84_106 : mSnd 84 106 (a_invV 109 0 9 158 [(2, 42, 0, 0)]) := snd_invV v84_105 rfl rfl (by decide +kernel : decode (mBc 84) 106 = .ok (.invokevirtual 105, 3)) rfl
theorem s84_109 : mSnd 84 109 (a_icmp 112 145 (fun x y => decide (y < x))) := snd_icmp_gt (by decide +kernel : decode (mBc 84) 109 = .ok (.if_icmp .gt 36, 3)) rfl rfl
theorem s84_112 : mSnd 84 112 (a_aload 114 7) := snd_aload (by decide +kernel : decode (mBc 84) 112 = .ok (.aload 7, 2)) rfl
theorem s84_114 : mSnd 84 114 (a_iload 116 8) := snd_iload (by decide +kernel : decode (mBc 84) 114 = .ok (.iload 8, 2)) rfl
theorem s84_116 : mSnd 84 116 (a_iload 117 3) := snd_iload_n (by decide +kernel : decode (mBc 84) 116 = .ok (.iload_n 3, 1)) rfl rfl
theorem s84_117 : mSnd 84 117 (a_aload 119 5) := snd_aload (by decide +kernel : decode (mBc 84) 117 = .ok (.aload 5, 2)) rfl
theorem s84_119 : mSnd 84 119 (a_iload 121 8) := snd_iload (by decide +kernel : decode (mBc 84) 119 = .ok (.iload 8, 2)) rfl
theorem s84_121 : mSnd 84 121 (a_invV 124 1 9 158 [(1, 46, 0, 0), (2, 46, 0, 0), (4, 46, 0, 0), (6, 46, 0, 0), (8, 46, 0, 0)]) := snd_invV v84_108 rfl rfl (by decide +kernel : decode (mBc 84) 121 = .ok (.invokevirtual 108, 3)) rfl
theorem s84_124 : mSnd 84 124 (a_ii 125 (fun x y => x * y)) := snd_imul (by decide +kernel : decode (mBc 84) 124 = .ok (.imul, 1)) rfl
theorem s84_125 : mSnd 84 125 (a_iload 127 4) := snd_iload (by decide +kernel : decode (mBc 84) 125 = .ok (.iload 4, 2)) rfl
theorem s84_127 : mSnd 84 127 (a_aload 129 6) := snd_aload (by decide +kernel : decode (mBc 84) 127 = .ok (.aload 6, 2)) rfl
theorem s84_129 : mSnd 84 129 (a_iload 131 8) := snd_iload (by decide +kernel : decode (mBc 84) 129 = .ok (.iload 8, 2)) rfl
theorem s84_131 : mSnd 84 131 (a_invV 134 1 9 158 [(1, 46, 0, 0), (2, 46, 0, 0), (4, 46, 0, 0), (6, 46, 0, 0), (8, 46, 0, 0)]) := snd_invV v84_108 rfl rfl (by decide +kernel : decode (mBc 84) 131 = .ok (.invokevirtual 108, 3)) rfl
theorem s84_134 : mSnd 84 134 (a_ii 135 (fun x y => x * y)) := snd_imul (by decide +kernel : decode (mBc 84) 134 = .ok (.imul, 1)) rfl
theorem s84_135 : mSnd 84 135 (a_ii 136 (fun x y => x + y)) := snd_iadd (by decide +kernel : decode (mBc 84) 135 = .ok (.iadd, 1)) rfl
theorem s84_136 : mSnd 84 136 (a_invV 139 2 9 158 [(2, 48, 0, 0)]) := snd_invV v84_112 rfl rfl (by decide +kernel : decode (mBc 84) 136 = .ok (.invokevirtual 112, 3)) rfl
theorem s84_139 : mSnd 84 139 (a_iinc 142 8 (iZ 1)) := snd_iinc (by decide +kernel : decode (mBc 84) 139 = .ok (.iinc 8 1, 3)) rfl (by decide) rfl
theorem s84_142 : mSnd 84 142 (a_goto 102) := snd_goto (by decide +kernel : decode (mBc 84) 142 = .ok (.goto (-40), 3)) rfl
theorem s84_145 : mSnd 84 145 (a_aload 146 0) := snd_aload_n (by decide +kernel : decode (mBc 84) 145 = .ok (.aload_n 0, 1)) rfl rfl
theorem s84_146 : mSnd 84 146 (a_aload 148 7) := snd_aload (by decide +kernel : decode (mBc 84) 146 = .ok (.aload 7, 2)) rfl
theorem s84_148 : mSnd 84 148 (a_invV 151 1 9 158 [(9, 116, 0, 0)]) := snd_invV v84_53 rfl rfl (by decide +kernel : decode (mBc 84) 148 = .ok (.invokevirtual 53, 3)) rfl
theorem s84_151 : mSnd 84 151 (a_iret 9 158) := snd_iret rfl rfl rfl (by decide +kernel : decode (mBc 84) 151 = .ok (.ireturn, 1))
theorem ok84 : mOkl2 84 ct84 := ⟨⟨s84_0, s84_1, s84_2, s84_5, s84_7, s84_8, s84_9, s84_12, s84_14, s84_16, s84_19, s84_21, trivial⟩, ⟨s84_24, s84_25, s84_28, s84_31, s84_33, s84_36, s84_39, s84_41, s84_42, s84_44, s84_47, s84_49, trivial⟩, ⟨s84_52, s84_55, s84_57, s84_58, s84_59, s84_62, s84_65, s84_67, s84_69, s84_70, s84_72, s84_75, trivial⟩, ⟨s84_78, s84_80, s84_81, s84_84, s84_85, s84_86, s84_89, s84_91, s84_94, s84_97, s84_99, s84_100, trivial⟩, ⟨s84_102, s84_104, s84_106, s84_109, s84_112, s84_114, s84_116, s84_117, s84_119, s84_121, s84_124, s84_125, trivial⟩, ⟨s84_127, s84_129, s84_131, s84_134, s84_135, s84_136, s84_139, s84_142, s84_145, s84_146, s84_148, s84_151, trivial⟩, trivial⟩
theorem s85_0 : mSnd 85 0 (a_aload 1 0) := snd_aload_n (by decide +kernel : decode (mBc 85) 0 = .ok (.aload_n 0, 1)) rfl rfl
theorem s85_1 : mSnd 85 1 (a_iload 2 1) := snd_iload_n (by decide +kernel : decode (mBc 85) 1 = .ok (.iload_n 1, 1)) rfl rfl
theorem s85_2 : mSnd 85 2 (a_invV 5 1 9 158 [(9, 114, 0, 0)]) := snd_invV v85_57 rfl rfl (by decide +kernel : decode (mBc 85) 2 = .ok (.invokevirtual 57, 3)) rfl
theorem s85_5 : mSnd 85 5 (a_astore 6 3) := snd_astore_n (by decide +kernel : decode (mBc 85) 5 = .ok (.astore_n 3, 1)) rfl (by decide) rfl
theorem s85_6 : mSnd 85 6 (a_aload 7 3) := snd_aload_n (by decide +kernel : decode (mBc 85) 6 = .ok (.aload_n 3, 1)) rfl rfl
theorem s85_7 : mSnd 85 7 (a_ifnull 10 18) := snd_ifnull (by decide +kernel : decode (mBc 85) 7 = .ok (.ifnull 11, 3)) rfl rfl
theorem s85_10 : mSnd 85 10 (a_aload 11 3) := snd_aload_n (by decide +kernel : decode (mBc 85) 10 = .ok (.aload_n 3, 1)) rfl rfl
theorem s85_11 : mSnd 85 11 (a_iload 12 2) := snd_iload_n (by decide +kernel : decode (mBc 85) 11 = .ok (.iload_n 2, 1)) rfl rfl
theorem s85_12 : mSnd 85 12 (a_invV 15 1 9 158 [(1, 43, 0, 0), (2, 43, 0, 0), (4, 43, 0, 0), (6, 43, 0, 0), (8, 43, 0, 0)]) := snd_invV v85_113 rfl rfl (by decide +kernel : decode (mBc 85) 12 = .ok (.invokevirtual 113, 3)) rfl
theorem s85_15 : mSnd 85 15 (a_if 18 21 (fun x => decide (¬ x = 0))) := snd_if_ne (by decide +kernel : decode (mBc 85) 15 = .ok (.ifCond .ne 6, 3)) rfl rfl
theorem s85_18 : mSnd 85 18 (a_push 20 (.int (iZ (-2)))) := snd_bipush (by decide +kernel : decode (mBc 85) 18 = .ok (.bipush (-2), 2)) (by decide +kernel) rfl
theorem s85_20 : mSnd 85 20 (a_iret 9 158) := snd_iret rfl rfl rfl (by decide +kernel : decode (mBc 85) 20 = .ok (.ireturn, 1))
theorem s85_21 : mSnd 85 21 (a_aload 22 3) := snd_aload_n (by decide +kernel : decode (mBc 85) 21 = .ok (.aload_n 3, 1)) rfl rfl
theorem s85_22 : mSnd 85 22 (a_getf 25 1 [1, 2, 4, 6, 8]) := snd_getf f10 q128 (Or.inl rfl) (by decide +kernel : decode (mBc 85) 22 = .ok (.getfield 95, 3)) rfl
theorem s85_25 : mSnd 85 25 (a_push 26 (.int (iZ 1))) := snd_iconst (by decide +kernel : decode (mBc 85) 25 = .ok (.iconst 1, 1)) rfl rfl
theorem s85_26 : mSnd 85 26 (a_icmp 29 32 (fun x y => decide (¬ x = y))) := snd_icmp_ne (by decide +kernel : decode (mBc 85) 26 = .ok (.if_icmp .ne 6, 3)) rfl rfl
theorem s85_29 : mSnd 85 29 (a_push 31 (.int (iZ (-3)))) := snd_bipush (by decide +kernel : decode (mBc 85) 29 = .ok (.bipush (-3), 2)) (by decide +kernel) rfl
theorem s85_31 : mSnd 85 31 (a_iret 9 158) := snd_iret rfl rfl rfl (by decide +kernel : decode (mBc 85) 31 = .ok (.ireturn, 1))
theorem s85_32 : mSnd 85 32 (a_aload 33 0) := snd_aload_n (by decide +kernel : decode (mBc 85) 32 = .ok (.aload_n 0, 1)) rfl rfl
theorem s85_33 : mSnd 85 33 (a_invV 36 0 9 158 [(9, 115, 0, 0)]) := snd_invV v85_46 rfl rfl (by decide +kernel : decode (mBc 85) 33 = .ok (.invokevirtual 46, 3)) rfl
theorem s85_36 : mSnd 85 36 (a_if 39 42 (fun x => decide (x = 0))) := snd_if_eq (by decide +kernel : decode (mBc 85) 36 = .ok (.ifCond .eq 6, 3)) rfl rfl
theorem s85_39 : mSnd 85 39 (a_push 41 (.int (iZ (-4)))) := snd_bipush (by decide +kernel : decode (mBc 85) 39 = .ok (.bipush (-4), 2)) (by decide +kernel) rfl
theorem s85_41 : mSnd 85 41 (a_iret 9 158) := snd_iret rfl rfl rfl (by decide +kernel : decode (mBc 85) 41 = .ok (.ireturn, 1))
theorem s85_42 : mSnd 85 42 (a_new 45 2 6 9 158 [.int 0, .int 0, .null, .null, .null, .int 0]) := snd_new (q := (RX2, TX2, 6)) rfl rfl rfl rfl (by decide +kernel) (by intro v hv a e; subst e; simp at hv) q324 q325 q12 (by decide +kernel : decode (mBc 85) 42 = .ok (.new 102, 3)) rfl
theorem s85_45 : mSnd 85 45 (a_dup 46) := snd_dup (by decide +kernel : decode (mBc 85) 45 = .ok (.dup, 1)) rfl
theorem s85_46 : mSnd 85 46 (a_aload 47 0) := snd_aload_n (by decide +kernel : decode (mBc 85) 46 = .ok (.aload_n 0, 1)) rfl rfl
theorem s85_47 : mSnd 85 47 (a_getf 50 1 [9]) := snd_getf f22 q58 (Or.inl rfl) (by decide +kernel : decode (mBc 85) 47 = .ok (.getfield 15, 3)) rfl
theorem s85_50 : mSnd 85 50 (a_aload 51 3) := snd_aload_n (by decide +kernel : decode (mBc 85) 50 = .ok (.aload_n 3, 1)) rfl rfl
theorem s85_51 : mSnd 85 51 (a_getf 54 1 [1, 2, 4, 6, 8]) := snd_getf f10 q128 (Or.inl rfl) (by decide +kernel : decode (mBc 85) 51 = .ok (.getfield 95, 3)) rfl
theorem s85_54 : mSnd 85 54 (a_push 55 (.int (iZ 1))) := snd_iconst (by decide +kernel : decode (mBc 85) 54 = .ok (.iconst 1, 1)) rfl rfl
theorem s85_55 : mSnd 85 55 (a_ii 56 (fun x y => x - y)) := snd_isub (by decide +kernel : decode (mBc 85) 55 = .ok (.isub, 1)) rfl
theorem s85_56 : mSnd 85 56 (a_invI 59 17 2 9 158 8 152) := snd_invI k85_17 rfl rfl rfl rfl q326 q327 q12 (by decide +kernel) (by decide +kernel : decode (mBc 85) 56 = .ok (.invokespecial 104, 3)) rfl
theorem s85_59 : mSnd 85 59 (a_astore 61 4) := snd_astore (by decide +kernel : decode (mBc 85) 59 = .ok (.astore 4, 2)) (by decide) rfl
theorem s85_61 : mSnd 85 61 (a_push 62 (.int (iZ 1))) := snd_iconst (by decide +kernel : decode (mBc 85) 61 = .ok (.iconst 1, 1)) rfl rfl
theorem s85_62 : mSnd 85 62 (a_istore 64 5) := snd_istore (by decide +kernel : decode (mBc 85) 62 = .ok (.istore 5, 2)) (by decide) rfl
theorem s85_64 : mSnd 85 64 (a_iload 66 5) := snd_iload (by decide +kernel : decode (mBc 85) 64 = .ok (.iload 5, 2)) rfl
theorem s85_66 : mSnd 85 66 (a_aload 68 4) := snd_aload (by decide +kernel : decode (mBc 85) 66 = .ok (.aload 4, 2)) rfl
theorem s85_68 : mSnd 85 68 (a_invV 71 0 9 158 [(2, 42, 0, 0)]) := snd_invV v85_105 rfl rfl (by decide +kernel : decode (mBc 85) 68 = .ok (.invokevirtual 105, 3)) rfl
theorem s85_71 : mSnd 85 71 (a_icmp 74 97 (fun x y => decide (y < x))) := snd_icmp_gt (by decide +kernel : decode (mBc 85) 71 = .ok (.if_icmp .gt 26, 3)) rfl rfl
theorem s85_74 : mSnd 85 74 (a_aload 76 4) := snd_aload (by decide +kernel : decode (mBc 85) 74 = .ok (.aload 4, 2)) rfl
theorem s85_76 : mSnd 85 76 (a_iload 78 5) := snd_iload (by decide +kernel : decode (mBc 85) 76 = .ok (.iload 5, 2)) rfl
theorem s85_78 : mSnd 85 78 (a_aload 79 3) := snd_aload_n (by decide +kernel : decode (mBc 85) 78 = .ok (.aload_n 3, 1)) rfl rfl
theorem s85_79 : mSnd 85 79 (a_iload 81 5) := snd_iload (by decide +kernel : decode (mBc 85) 79 = .ok (.iload 5, 2)) rfl
theorem s85_81 : mSnd 85 81 (a_iload 82 2) := snd_iload_n (by decide +kernel : decode (mBc 85) 81 = .ok (.iload_n 2, 1)) rfl rfl
theorem s85_82 : mSnd 85 82 (a_invS 85 127 2 9 158 0 0) := snd_invS k85_127 rfl rfl q356 q357 q1 (by decide +kernel) (by decide +kernel : decode (mBc 85) 82 = .ok (.invokestatic 116, 3)) rfl
theorem s85_85 : mSnd 85 85 (a_invV 88 1 9 158 [(1, 46, 0, 0), (2, 46, 0, 0), (4, 46, 0, 0), (6, 46, 0, 0), (8, 46, 0, 0)]) := snd_invV v85_108 rfl rfl (by decide +kernel : decode (mBc 85) 85 = .ok (.invokevirtual 108, 3)) rfl
theorem s85_88 : mSnd 85 88 (a_invV 91 2 9 158 [(2, 48, 0, 0)]) := snd_invV v85_112 rfl rfl (by decide +kernel : decode (mBc 85) 88 = .ok (.invokevirtual 112, 3)) rfl
theorem s85_91 : mSnd 85 91 (a_iinc 94 5 (iZ 1)) := snd_iinc (by decide +kernel : decode (mBc 85) 91 = .ok (.iinc 5 1, 3)) rfl (by decide) rfl
theorem s85_94 : mSnd 85 94 (a_goto 64) := snd_goto (by decide +kernel : decode (mBc 85) 94 = .ok (.goto (-30), 3)) rfl
theorem s85_97 : mSnd 85 97 (a_aload 98 0) := snd_aload_n (by decide +kernel : decode (mBc 85) 97 = .ok (.aload_n 0, 1)) rfl rfl
theorem s85_98 : mSnd 85 98 (a_aload 100 4) := snd_aload (by decide +kernel : decode (mBc 85) 98 = .ok (.aload 4, 2)) rfl
theorem s85_100 : mSnd 85 100 (a_invV 103 1 9 158 [(9, 116, 0, 0)]) := snd_invV v85_53 rfl rfl (by decide +kernel : decode (mBc 85) 100 = .ok (.invokevirtual 53, 3)) rfl
theorem s85_103 : mSnd 85 103 (a_iret 9 158) := snd_iret rfl rfl rfl (by decide +kernel : decode (mBc 85) 103 = .ok (.ireturn, 1))
theorem ok85 : mOkl2 85 ct85 := ⟨⟨s85_0, s85_1, s85_2, s85_5, s85_6, s85_7, s85_10, s85_11, s85_12, s85_15, s85_18, s85_20, trivial⟩, ⟨s85_21, s85_22, s85_25, s85_26, s85_29, s85_31, s85_32, s85_33, s85_36, s85_39, s85_41, s85_42, trivial⟩, ⟨s85_45, s85_46, s85_47, s85_50, s85_51, s85_54, s85_55, s85_56, s85_59, s85_61, s85_62, s85_64, trivial⟩, ⟨s85_66, s85_68, s85_71, s85_74, s85_76, s85_78, s85_79, s85_81, s85_82, s85_85, s85_88, s85_91, trivial⟩, ⟨s85_94, s85_97, s85_98, s85_100, s85_103, trivial⟩, trivial⟩
theorem s86_0 : mSnd 86 0 (a_aload 1 0) := snd_aload_n (by decide +kernel : decode (mBc 86) 0 = .ok (.aload_n 0, 1)) rfl rfl
theorem s86_1 : mSnd 86 1 (a_iload 2 1) := snd_iload_n (by decide +kernel : decode (mBc 86) 1 = .ok (.iload_n 1, 1)) rfl rfl
theorem s86_2 : mSnd 86 2 (a_invV 5 1 9 158 [(9, 114, 0, 0)]) := snd_invV v86_57 rfl rfl (by decide +kernel : decode (mBc 86) 2 = .ok (.invokevirtual 57, 3)) rfl
theorem s86_5 : mSnd 86 5 (a_astore 7 4) := snd_astore (by decide +kernel : decode (mBc 86) 5 = .ok (.astore 4, 2)) (by decide) rfl
theorem s86_7 : mSnd 86 7 (a_aload 9 4) := snd_aload (by decide +kernel : decode (mBc 86) 7 = .ok (.aload 4, 2)) rfl
theorem s86_9 : mSnd 86 9 (a_ifnull 12 35) := snd_ifnull (by decide +kernel : decode (mBc 86) 9 = .ok (.ifnull 26, 3)) rfl rfl
theorem s86_12 : mSnd 86 12 (a_aload 14 4) := snd_aload (by decide +kernel : decode (mBc 86) 12 = .ok (.aload 4, 2)) rfl
theorem s86_14 : mSnd 86 14 (a_iload 15 2) := snd_iload_n (by decide +kernel : decode (mBc 86) 14 = .ok (.iload_n 2, 1)) rfl rfl
theorem s86_15 : mSnd 86 15 (a_invV 18 1 9 158 [(1, 43, 0, 0), (2, 43, 0, 0), (4, 43, 0, 0), (6, 43, 0, 0), (8, 43, 0, 0)]) := snd_invV v86_113 rfl rfl (by decide +kernel : decode (mBc 86) 15 = .ok (.invokevirtual 113, 3)) rfl
theorem s86_18 : mSnd 86 18 (a_if 21 35 (fun x => decide (x = 0))) := snd_if_eq (by decide +kernel : decode (mBc 86) 18 = .ok (.ifCond .eq 17, 3)) rfl rfl
theorem s86_21 : mSnd 86 21 (a_aload 23 4) := snd_aload (by decide +kernel : decode (mBc 86) 21 = .ok (.aload 4, 2)) rfl
theorem s86_23 : mSnd 86 23 (a_iload 24 3) := snd_iload_n (by decide +kernel : decode (mBc 86) 23 = .ok (.iload_n 3, 1)) rfl rfl
theorem s86_24 : mSnd 86 24 (a_invV 27 1 9 158 [(1, 43, 0, 0), (2, 43, 0, 0), (4, 43, 0, 0), (6, 43, 0, 0), (8, 43, 0, 0)]) := snd_invV v86_113 rfl rfl (by decide +kernel : decode (mBc 86) 24 = .ok (.invokevirtual 113, 3)) rfl
theorem s86_27 : mSnd 86 27 (a_if 30 35 (fun x => decide (x = 0))) := snd_if_eq (by decide +kernel : decode (mBc 86) 27 = .ok (.ifCond .eq 8, 3)) rfl rfl
theorem s86_30 : mSnd 86 30 (a_iload 31 2) := snd_iload_n (by decide +kernel : decode (mBc 86) 30 = .ok (.iload_n 2, 1)) rfl rfl
theorem s86_31 : mSnd 86 31 (a_iload 32 3) := snd_iload_n (by decide +kernel : decode (mBc 86) 31 = .ok (.iload_n 3, 1)) rfl rfl
theorem s86_32 : mSnd 86 32 (a_icmp 35 38 (fun x y => decide (x < y))) := snd_icmp_lt (by decide +kernel : decode (mBc 86) 32 = .ok (.if_icmp .lt 6, 3)) rfl rfl
theorem s86_35 : mSnd 86 35 (a_push 37 (.int (iZ (-2)))) := snd_bipush (by decide +kernel : decode (mBc 86) 35 = .ok (.bipush (-2), 2)) (by decide +kernel) rfl
theorem s86_37 : mSnd 86 37 (a_iret 9 158) := snd_iret rfl rfl rfl (by decide +kernel : decode (mBc 86) 37 = .ok (.ireturn, 1))
theorem s86_38 : mSnd 86 38 (a_aload 39 0) := snd_aload_n (by decide +kernel : decode (mBc 86) 38 = .ok (.aload_n 0, 1)) rfl rfl
theorem s86_39 : mSnd 86 39 (a_invV 42 0 9 158 [(9, 115, 0, 0)]) := snd_invV v86_46 rfl rfl (by decide +kernel : decode (mBc 86) 39 = .ok (.invokevirtual 46, 3)) rfl
theorem s86_42 : mSnd 86 42 (a_if 45 48 (fun x => decide (x = 0))) := snd_if_eq (by decide +kernel : decode (mBc 86) 42 = .ok (.ifCond .eq 6, 3)) rfl rfl
theorem s86_45 : mSnd 86 45 (a_push 47 (.int (iZ (-4)))) := snd_bipush (by decide +kernel : decode (mBc 86) 45 = .ok (.bipush (-4), 2)) (by decide +kernel) rfl
theorem s86_47 : mSnd 86 47 (a_iret 9 158) := snd_iret rfl rfl rfl (by decide +kernel : decode (mBc 86) 47 = .ok (.ireturn, 1))
theorem s86_48 : mSnd 86 48 (a_new 51 2 6 9 158 [.int 0, .int 0, .null, .null, .null, .int 0]) := snd_new (q := (RX2, TX2, 6)) rfl rfl rfl rfl (by decide +kernel) (by intro v hv a e; subst e; simp at hv) q324 q325 q12 (by decide +kernel : decode (mBc 86) 48 = .ok (.new 102, 3)) rfl
theorem s86_51 : mSnd 86 51 (a_dup 52) := snd_dup (by decide +kernel : decode (mBc 86) 51 = .ok (.dup, 1)) rfl
theorem s86_52 : mSnd 86 52 (a_aload 53 0) := snd_aload_n (by decide +kernel : decode (mBc 86) 52 = .ok (.aload_n 0, 1)) rfl rfl
theorem s86_53 : mSnd 86 53 (a_getf 56 1 [9]) := snd_getf f22 q58 (Or.inl rfl) (by decide +kernel : decode (mBc 86) 53 = .ok (.getfield 15, 3)) rfl
theorem s86_56 : mSnd 86 56 (a_aload 58 4) := snd_aload (by decide +kernel : decode (mBc 86) 56 = .ok (.aload 4, 2)) rfl
theorem s86_58 : mSnd 86 58 (a_getf 61 1 [1, 2, 4, 6, 8]) := snd_getf f10 q128 (Or.inl rfl) (by decide +kernel : decode (mBc 86) 58 = .ok (.getfield 95, 3)) rfl
theorem s86_61 : mSnd 86 61 (a_push 62 (.int (iZ 1))) := snd_iconst (by decide +kernel : decode (mBc 86) 61 = .ok (.iconst 1, 1)) rfl rfl
theorem s86_62 : mSnd 86 62 (a_ii 63 (fun x y => x - y)) := snd_isub (by decide +kernel : decode (mBc 86) 62 = .ok (.isub, 1)) rfl
theorem s86_63 : mSnd 86 63 (a_invI 66 17 2 9 158 8 152) := snd_invI k86_17 rfl rfl rfl rfl q326 q327 q12 (by decide +kernel) (by decide +kernel : decode (mBc 86) 63 = .ok (.invokespecial 104, 3)) rfl
theorem s86_66 : mSnd 86 66 (a_astore 68 5) := snd_astore (by decide +kernel : decode (mBc 86) 66 = .ok (.astore 5, 2)) (by decide) rfl
theorem s86_68 : mSnd 86 68 (a_push 69 (.int (iZ 1))) := snd_iconst (by decide +kernel : decode (mBc 86) 68 = .ok (.iconst 1, 1)) rfl rfl
theorem s86_69 : mSnd 86 69 (a_istore 71 6) := snd_istore (by decide +kernel : decode (mBc 86) 69 = .ok (.istore 6, 2)) (by decide) rfl
theorem s86_71 : mSnd 86 71 (a_iload 73 6) := snd_iload (by decide +kernel : decode (mBc 86) 71 = .ok (.iload 6, 2)) rfl
theorem s86_73 : mSnd 86 73 (a_aload 75 5) := snd_aload (by decide +kernel : decode (mBc 86) 73 = .ok (.aload 5, 2)) rfl
theorem s86_75 : mSnd 86 75 (a_invV 78 0 9 158 [(2, 42, 0, 0)]) := snd_invV v86_105 rfl rfl (by decide +kernel : decode (mBc 86) 75 = .ok (.invokevirtual 105, 3)) rfl
theorem s86_78 : mSnd 86 78 (a_icmp 81 114 (fun x y => decide (y < x))) := snd_icmp_gt (by decide +kernel : decode (mBc 86) 78 = .ok (.if_icmp .gt 36, 3)) rfl rfl
theorem s86_81 : mSnd 86 81 (a_aload 83 5) := snd_aload (by decide +kernel : decode (mBc 86) 81 = .ok (.aload 5, 2)) rfl
theorem s86_83 : mSnd 86 83 (a_iload 85 6) := snd_iload (by decide +kernel : decode (mBc 86) 83 = .ok (.iload 6, 2)) rfl
theorem s86_85 : mSnd 86 85 (a_aload 87 4) := snd_aload (by decide +kernel : decode (mBc 86) 85 = .ok (.aload 4, 2)) rfl
theorem s86_87 : mSnd 86 87 (a_iload 89 6) := snd_iload (by decide +kernel : decode (mBc 86) 87 = .ok (.iload 6, 2)) rfl
theorem s86_89 : mSnd 86 89 (a_iload 90 3) := snd_iload_n (by decide +kernel : decode (mBc 86) 89 = .ok (.iload_n 3, 1)) rfl rfl
theorem s86_90 : mSnd 86 90 (a_invS 93 127 2 9 158 0 0) := snd_invS k86_127 rfl rfl q356 q357 q1 (by decide +kernel) (by decide +kernel : decode (mBc 86) 90 = .ok (.invokestatic 116, 3)) rfl
theorem s86_93 : mSnd 86 93 (a_iload 95 6) := snd_iload (by decide +kernel : decode (mBc 86) 93 = .ok (.iload 6, 2)) rfl
theorem s86_95 : mSnd 86 95 (a_iload 96 2) := snd_iload_n (by decide +kernel : decode (mBc 86) 95 = .ok (.iload_n 2, 1)) rfl rfl
theorem s86_96 : mSnd 86 96 (a_invS 99 126 2 9 158 0 0) := snd_invS k86_126 rfl rfl q363 q229 q1 (by decide +kernel) (by decide +kernel : decode (mBc 86) 96 = .ok (.invokestatic 120, 3)) rfl
theorem s86_99 : mSnd 86 99 (a_iload 100 3) := snd_iload_n (by decide +kernel : decode (mBc 86) 99 = .ok (.iload_n 3, 1)) rfl rfl
theorem s86_100 : mSnd 86 100 (a_ii 101 (fun x y => x <<< (y &&& 31))) := snd_ishl (by decide +kernel : decode (mBc 86) 100 = .ok (.ishl, 1)) rfl
theorem s86_101 : mSnd 86 101 (a_ii 102 (fun x y => x ||| y)) := snd_ior (by decide +kernel : decode (mBc 86) 101 = .ok (.ior, 1)) rfl
theorem s86_102 : mSnd 86 102 (a_invV 105 1 9 158 [(1, 46, 0, 0), (2, 46, 0, 0), (4, 46, 0, 0), (6, 46, 0, 0), (8, 46, 0, 0)]) := snd_invV v86_108 rfl rfl (by decide +kernel : decode (mBc 86) 102 = .ok (.invokevirtual 108, 3)) rfl
theorem s86_105 : mSnd 86 105 (a_invV 108 2 9 158 [(2, 48, 0, 0)]) := snd_invV v86_112 rfl rfl (by decide +kernel : decode (mBc 86) 105 = .ok (.invokevirtual 112, 3)) rfl
theorem s86_108 : mSnd 86 108 (a_iinc 111 6 (iZ 1)) := snd_iinc (by decide +kernel : decode (mBc 86) 108 = .ok (.iinc 6 1, 3)) rfl (by decide) rfl
theorem s86_111 : mSnd 86 111 (a_goto 71) := snd_goto (by decide +kernel : decode (mBc 86) 111 = .ok (.goto (-40), 3)) rfl
theorem s86_114 : mSnd 86 114 (a_aload 115 0) := snd_aload_n (by decide +kernel : decode (mBc 86) 114 = .ok (.aload_n 0, 1)) rfl rfl
theorem s86_115 : mSnd 86 115 (a_aload 117 5) := snd_aload (by decide +kernel : decode (mBc 86) 115 = .ok (.aload 5, 2)) rfl
theorem s86_117 : mSnd 86 117 (a_invV 120 1 9 158 [(9, 116, 0, 0)]) := snd_invV v86_53 rfl rfl (by decide +kernel : decode (mBc 86) 117 = .ok (.invokevirtual 53, 3)) rfl
theorem s86_120 : mSnd 86 120 (a_iret 9 158) := snd_iret rfl rfl rfl (by decide +kernel : decode (mBc 86) 120 = .ok (.ireturn, 1))
theorem ok86 : mOkl2 86 ct86 := ⟨⟨s86_0, s86_1, s86_2, s86_5, s86_7, s86_9, s86_12, s86_14, s86_15, s86_18, s86_21, s86_23, trivial⟩, ⟨s86_24, s86_27, s86_30, s86_31, s86_32, s86_35, s86_37, s86_38, s86_39, s86_42, s86_45, s86_47, trivial⟩, ⟨s86_48, s86_51, s86_52, s86_53, s86_56, s86_58, s86_61, s86_62, s86_63, s86_66, s86_68, s86_69, trivial⟩, ⟨s86_71, s86_73, s86_75, s86_78, s86_81, s86_83, s86_85, s86_87, s86_89, s86_90, s86_93, s86_95, trivial⟩, ⟨s86_96, s86_99, s86_100, s86_101, s86_102, s86_105, s86_108, s86_111, s86_114, s86_115, s86_117, s86_120, trivial⟩, trivial⟩
theorem s87_0 : mSnd 87 0 (a_aload 1 0) := snd_aload_n (by decide +kernel : decode (mBc 87) 0 = .ok (.aload_n 0, 1)) rfl rfl
theorem s87_1 : mSnd 87 1 (a_iload 2 1) := snd_iload_n (by decide +kernel : decode (mBc 87) 1 = .ok (.iload_n 1, 1)) rfl rfl
theorem s87_2 : mSnd 87 2 (a_invV 5 1 9 158 [(9, 114, 0, 0)]) := snd_invV v87_57 rfl rfl (by decide +kernel : decode (mBc 87) 2 = .ok (.invokevirtual 57, 3)) rfl
theorem s87_5 : mSnd 87 5 (a_astore 6 2) := snd_astore_n (by decide +kernel : decode (mBc 87) 5 = .ok (.astore_n 2, 1)) rfl (by decide) rfl
theorem s87_6 : mSnd 87 6 (a_aload 7 2) := snd_aload_n (by decide +kernel : decode (mBc 87) 6 = .ok (.aload_n 2, 1)) rfl rfl
theorem s87_7 : mSnd 87 7 (a_ifnull 13 10) := snd_ifnonnull (by decide +kernel : decode (mBc 87) 7 = .ok (.ifnonnull 6, 3)) rfl rfl
theorem s87_10 : mSnd 87 10 (a_push 12 (.int (iZ (-2)))) := snd_bipush (by decide +kernel : decode (mBc 87) 10 = .ok (.bipush (-2), 2)) (by decide +kernel) rfl
theorem s87_12 : mSnd 87 12 (a_iret 9 158) := snd_iret rfl rfl rfl (by decide +kernel : decode (mBc 87) 12 = .ok (.ireturn, 1))
theorem s87_13 : mSnd 87 13 (a_aload 14 0) := snd_aload_n (by decide +kernel : decode (mBc 87) 13 = .ok (.aload_n 0, 1)) rfl rfl
theorem s87_14 : mSnd 87 14 (a_invV 17 0 9 158 [(9, 115, 0, 0)]) := snd_invV v87_46 rfl rfl (by decide +kernel : decode (mBc 87) 14 = .ok (.invokevirtual 46, 3)) rfl
theorem s87_17 : mSnd 87 17 (a_if 20 23 (fun x => decide (x = 0))) := snd_if_eq (by decide +kernel : decode (mBc 87) 17 = .ok (.ifCond .eq 6, 3)) rfl rfl
theorem s87_20 : mSnd 87 20 (a_push 22 (.int (iZ (-4)))) := snd_bipush (by decide +kernel : decode (mBc 87) 20 = .ok (.bipush (-4), 2)) (by decide +kernel) rfl
theorem s87_22 : mSnd 87 22 (a_iret 9 158) := snd_iret rfl rfl rfl (by decide +kernel : decode (mBc 87) 22 = .ok (.ireturn, 1))
theorem s87_23 : mSnd 87 23 (a_new 26 2 6 9 158 [.int 0, .int 0, .null, .null, .null, .int 0]) := snd_new (q := (RX2, TX2, 6)) rfl rfl rfl rfl (by decide +kernel) (by intro v hv a e; subst e; simp at hv) q324 q325 q12 (by decide +kernel : decode (mBc 87) 23 = .ok (.new 102, 3)) rfl
theorem s87_26 : mSnd 87 26 (a_dup 27) := snd_dup (by decide +kernel : decode (mBc 87) 26 = .ok (.dup, 1)) rfl
theorem s87_27 : mSnd 87 27 (a_aload 28 0) := snd_aload_n (by decide +kernel : decode (mBc 87) 27 = .ok (.aload_n 0, 1)) rfl rfl
theorem s87_28 : mSnd 87 28 (a_getf 31 1 [9]) := snd_getf f22 q58 (Or.inl rfl) (by decide +kernel : decode (mBc 87) 28 = .ok (.getfield 15, 3)) rfl
theorem s87_31 : mSnd 87 31 (a_aload 32 2) := snd_aload_n (by decide +kernel : decode (mBc 87) 31 = .ok (.aload_n 2, 1)) rfl rfl
theorem s87_32 : mSnd 87 32 (a_getf 35 1 [1, 2, 4, 6, 8]) := snd_getf f10 q128 (Or.inl rfl) (by decide +kernel : decode (mBc 87) 32 = .ok (.getfield 95, 3)) rfl
theorem s87_35 : mSnd 87 35 (a_invI 38 17 2 9 158 8 152) := snd_invI k87_17 rfl rfl rfl rfl q326 q327 q12 (by decide +kernel) (by decide +kernel : decode (mBc 87) 35 = .ok (.invokespecial 104, 3)) rfl
theorem s87_38 : mSnd 87 38 (a_astore 39 3) := snd_astore_n (by decide +kernel : decode (mBc 87) 38 = .ok (.astore_n 3, 1)) rfl (by decide) rfl
theorem s87_39 : mSnd 87 39 (a_push 40 (.int (iZ 1))) := snd_iconst (by decide +kernel : decode (mBc 87) 39 = .ok (.iconst 1, 1)) rfl rfl
theorem s87_40 : mSnd 87 40 (a_istore 42 4) := snd_istore (by decide +kernel : decode (mBc 87) 40 = .ok (.istore 4, 2)) (by decide) rfl
theorem s87_42 : mSnd 87 42 (a_iload 44 4) := snd_iload (by decide +kernel : decode (mBc 87) 42 = .ok (.iload 4, 2)) rfl
theorem s87_44 : mSnd 87 44 (a_aload 45 3) := snd_aload_n (by decide +kernel : decode (mBc 87) 44 = .ok (.aload_n 3, 1)) rfl rfl
theorem s87_45 : mSnd 87 45 (a_invV 48 0 9 158 [(2, 42, 0, 0)]) := snd_invV v87_105 rfl rfl (by decide +kernel : decode (mBc 87) 45 = .ok (.invokevirtual 105, 3)) rfl
theorem s87_48 : mSnd 87 48 (a_icmp 51 81 (fun x y => decide (y < x))) := snd_icmp_gt (by decide +kernel : decode (mBc 87) 48 = .ok (.if_icmp .gt 33, 3)) rfl rfl
theorem s87_51 : mSnd 87 51 (a_aload 52 3) := snd_aload_n (by decide +kernel : decode (mBc 87) 51 = .ok (.aload_n 3, 1)) rfl rfl
theorem s87_52 : mSnd 87 52 (a_iload 54 4) := snd_iload (by decide +kernel : decode (mBc 87) 52 = .ok (.iload 4, 2)) rfl
theorem s87_54 : mSnd 87 54 (a_aload 55 2) := snd_aload_n (by decide +kernel : decode (mBc 87) 54 = .ok (.aload_n 2, 1)) rfl rfl
theorem s87_55 : mSnd 87 55 (a_invV 58 0 9 158 [(1, 47, 0, 0), (2, 47, 0, 0), (4, 47, 0, 0), (6, 47, 0, 0), (8, 47, 0, 0)]) := snd_invV v87_123 rfl rfl (by decide +kernel : decode (mBc 87) 55 = .ok (.invokevirtual 123, 3)) rfl
theorem s87_58 : mSnd 87 58 (a_aload 59 2) := snd_aload_n (by decide +kernel : decode (mBc 87) 58 = .ok (.aload_n 2, 1)) rfl rfl
theorem s87_59 : mSnd 87 59 (a_aload 60 2) := snd_aload_n (by decide +kernel : decode (mBc 87) 59 = .ok (.aload_n 2, 1)) rfl rfl
theorem s87_60 : mSnd 87 60 (a_invV 63 0 9 158 [(1, 42, 0, 0), (2, 42, 0, 0), (4, 42, 0, 0), (6, 42, 0, 0), (8, 42, 0, 0)]) := snd_invV v87_126 rfl rfl (by decide +kernel : decode (mBc 87) 60 = .ok (.invokevirtual 126, 3)) rfl
theorem s87_63 : mSnd 87 63 (a_iload 65 4) := snd_iload (by decide +kernel : decode (mBc 87) 63 = .ok (.iload 4, 2)) rfl
theorem s87_65 : mSnd 87 65 (a_push 66 (.int (iZ (-1)))) := snd_iconst (by decide +kernel : decode (mBc 87) 65 = .ok (.iconst (-1), 1)) rfl rfl
theorem s87_66 : mSnd 87 66 (a_ii 67 (fun x y => x ^^^ y)) := snd_ixor (by decide +kernel : decode (mBc 87) 66 = .ok (.ixor, 1)) rfl
theorem s87_67 : mSnd 87 67 (a_ii 68 (fun x y => x &&& y)) := snd_iand (by decide +kernel : decode (mBc 87) 67 = .ok (.iand, 1)) rfl
theorem s87_68 : mSnd 87 68 (a_invV 71 1 9 158 [(1, 46, 0, 0), (2, 46, 0, 0), (4, 46, 0, 0), (6, 46, 0, 0), (8, 46, 0, 0)]) := snd_invV v87_108 rfl rfl (by decide +kernel : decode (mBc 87) 68 = .ok (.invokevirtual 108, 3)) rfl
theorem s87_71 : mSnd 87 71 (a_ii 72 (fun x y => x - y)) := snd_isub (by decide +kernel : decode (mBc 87) 71 = .ok (.isub, 1)) rfl
theorem s87_72 : mSnd 87 72 (a_invV 75 2 9 158 [(2, 48, 0, 0)]) := snd_invV v87_112 rfl rfl (by decide +kernel : decode (mBc 87) 72 = .ok (.invokevirtual 112, 3)) rfl
theorem s87_75 : mSnd 87 75 (a_iinc 78 4 (iZ 1)) := snd_iinc (by decide +kernel : decode (mBc 87) 75 = .ok (.iinc 4 1, 3)) rfl (by decide) rfl
theorem s87_78 : mSnd 87 78 (a_goto 42) := snd_goto (by decide +kernel : decode (mBc 87) 78 = .ok (.goto (-36), 3)) rfl
theorem s87_81 : mSnd 87 81 (a_aload 82 0) := snd_aload_n (by decide +kernel : decode (mBc 87) 81 = .ok (.aload_n 0, 1)) rfl rfl
theorem s87_82 : mSnd 87 82 (a_aload 83 3) := snd_aload_n (by decide +kernel : decode (mBc 87) 82 = .ok (.aload_n 3, 1)) rfl rfl
theorem s87_83 : mSnd 87 83 (a_invV 86 1 9 158 [(9, 116, 0, 0)]) := snd_invV v87_53 rfl rfl (by decide +kernel : decode (mBc 87) 83 = .ok (.invokevirtual 53, 3)) rfl
theorem s87_86 : mSnd 87 86 (a_iret 9 158) := snd_iret rfl rfl rfl (by decide +kernel : decode (mBc 87) 86 = .ok (.ireturn, 1))
theorem ok87 : mOkl2 87 ct87 := ⟨⟨s87_0, s87_1, s87_2, s87_5, s87_6, s87_7, s87_10, s87_12, s87_13, s87_14, s87_17, s87_20, trivial⟩, ⟨s87_22, s87_23, s87_26, s87_27, s87_28, s87_31, s87_32, s87_35, s87_38, s87_39, s87_40, s87_42, trivial⟩, ⟨s87_44, s87_45, s87_48, s87_51, s87_52, s87_54, s87_55, s87_58, s87_59, s87_60, s87_63, s87_65, trivial⟩, ⟨s87_66, s87_67, s87_68, s87_71, s87_72, s87_75, s87_78, s87_81, s87_82, s87_83, s87_86, trivial⟩, trivial⟩
