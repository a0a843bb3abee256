theorem s203_0 : mSnd 203 0 (a_aload 1 0) := snd_aload_n (by decide +kernel : decode (mBc 203) 0 = .ok (.aload_n 0, 1)) rfl rfl
theorem s203_1 : mSnd 203 1 (a_push 3 (.int (iZ 11))) := snd_bipush (by decide +kernel : decode (mBc 203) 1 = .ok (.bipush 11, 2)) (by decide +kernel) rfl
theorem s203_3 : mSnd 203 3 (a_invV 6 1 0 0 [(10, 200, 0, 0)]) := snd_invV v203_208 rfl rfl (by decide +kernel : decode (mBc 203) 3 = .ok (.invokevirtual 208, 3)) rfl
theorem s203_6 : mSnd 203 6 (a_aload 7 0) := snd_aload_n (by decide +kernel : decode (mBc 203) 6 = .ok (.aload_n 0, 1)) rfl rfl
theorem s203_7 : mSnd 203 7 (a_iload 8 1) := snd_iload_n (by decide +kernel : decode (mBc 203) 7 = .ok (.iload_n 1, 1)) rfl rfl
theorem s203_8 : mSnd 203 8 (a_iload 9 2) := snd_iload_n (by decide +kernel : decode (mBc 203) 8 = .ok (.iload_n 2, 1)) rfl rfl
theorem s203_9 : mSnd 203 9 (a_invV 12 2 0 0 [(10, 202, 0, 0)]) := snd_invV v203_214 rfl rfl (by decide +kernel : decode (mBc 203) 9 = .ok (.invokevirtual 214, 3)) rfl
theorem s203_12 : mSnd 203 12 (a_aload 13 0) := snd_aload_n (by decide +kernel : decode (mBc 203) 12 = .ok (.aload_n 0, 1)) rfl rfl
theorem s203_13 : mSnd 203 13 (a_getf 16 2 [10]) := snd_getf f29 q904 (Or.inl rfl) (by decide +kernel : decode (mBc 203) 13 = .ok (.getfield 17, 3)) rfl
theorem s203_16 : mSnd 203 16 (a_iload 17 1) := snd_iload_n (by decide +kernel : decode (mBc 203) 16 = .ok (.iload_n 1, 1)) rfl rfl
theorem s203_17 : mSnd 203 17 (a_iald 18) := snd_iald (by decide +kernel : decode (mBc 203) 17 = .ok (.iaload, 1)) rfl
theorem s203_18 : mSnd 203 18 (a_ii 19 (fun x y => x * y)) := snd_imul (by decide +kernel : decode (mBc 203) 18 = .ok (.imul, 1)) rfl
theorem s203_19 : mSnd 203 19 (a_iret 0 0) := snd_iret rfl rfl rfl (by decide +kernel : decode (mBc 203) 19 = .ok (.ireturn, 1))
theorem ok203 : mOkl2 203 ct203 := ⟨⟨s203_0, s203_1, s203_3, s203_6, s203_7, s203_8, s203_9, s203_12, s203_13, s203_16, s203_17, s203_18, trivial⟩, ⟨s203_19, trivial⟩, trivial⟩
theorem s204_0 : mSnd 204 0 (a_aload 1 0) := snd_aload_n (by decide +kernel : decode (mBc 204) 0 = .ok (.aload_n 0, 1)) rfl rfl
theorem s204_1 : mSnd 204 1 (a_getf 4 1 [10]) := snd_getf f28 q903 (Or.inl rfl) (by decide +kernel : decode (mBc 204) 1 = .ok (.getfield 13, 3)) rfl
theorem s204_4 : mSnd 204 4 (a_iload 5 1) := snd_iload_n (by decide +kernel : decode (mBc 204) 4 = .ok (.iload_n 1, 1)) rfl rfl
theorem s204_5 : mSnd 204 5 (a_iald 6) := snd_iald (by decide +kernel : decode (mBc 204) 5 = .ok (.iaload, 1)) rfl
theorem s204_6 : mSnd 204 6 (a_push 7 (.int (iZ 2))) := snd_iconst (by decide +kernel : decode (mBc 204) 6 = .ok (.iconst 2, 1)) rfl rfl
theorem s204_7 : mSnd 204 7 (a_icmp 10 25 (fun x y => decide (¬ x = y))) := snd_icmp_ne (by decide +kernel : decode (mBc 204) 7 = .ok (.if_icmp .ne 18, 3)) rfl rfl
theorem s204_10 : mSnd 204 10 (a_aload 11 0) := snd_aload_n (by decide +kernel : decode (mBc 204) 10 = .ok (.aload_n 0, 1)) rfl rfl
theorem s204_11 : mSnd 204 11 (a_push 13 (.int (iZ 30))) := snd_bipush (by decide +kernel : decode (mBc 204) 11 = .ok (.bipush 30, 2)) (by decide +kernel) rfl
theorem s204_13 : mSnd 204 13 (a_invV 16 1 0 0 [(10, 200, 0, 0)]) := snd_invV v204_208 rfl rfl (by decide +kernel : decode (mBc 204) 13 = .ok (.invokevirtual 208, 3)) rfl
theorem s204_16 : mSnd 204 16 (a_aload 17 0) := snd_aload_n (by decide +kernel : decode (mBc 204) 16 = .ok (.aload_n 0, 1)) rfl rfl
theorem s204_17 : mSnd 204 17 (a_iload 18 1) := snd_iload_n (by decide +kernel : decode (mBc 204) 17 = .ok (.iload_n 1, 1)) rfl rfl
theorem s204_18 : mSnd 204 18 (a_iload 19 2) := snd_iload_n (by decide +kernel : decode (mBc 204) 18 = .ok (.iload_n 2, 1)) rfl rfl
theorem s204_19 : mSnd 204 19 (a_invV 22 2 0 0 [(10, 203, 0, 0)]) := snd_invV v204_217 rfl rfl (by decide +kernel : decode (mBc 204) 19 = .ok (.invokevirtual 217, 3)) rfl
theorem s204_22 : mSnd 204 22 (a_iload 23 1) := snd_iload_n (by decide +kernel : decode (mBc 204) 22 = .ok (.iload_n 1, 1)) rfl rfl
theorem s204_23 : mSnd 204 23 (a_ii 24 (fun x y => x + y)) := snd_iadd (by decide +kernel : decode (mBc 204) 23 = .ok (.iadd, 1)) rfl
theorem s204_24 : mSnd 204 24 (a_iret 0 0) := snd_iret rfl rfl rfl (by decide +kernel : decode (mBc 204) 24 = .ok (.ireturn, 1))
theorem s204_25 : mSnd 204 25 (a_aload 26 0) := snd_aload_n (by decide +kernel : decode (mBc 204) 25 = .ok (.aload_n 0, 1)) rfl rfl
theorem s204_26 : mSnd 204 26 (a_getf 29 1 [10]) := snd_getf f28 q903 (Or.inl rfl) (by decide +kernel : decode (mBc 204) 26 = .ok (.getfield 13, 3)) rfl
theorem s204_29 : mSnd 204 29 (a_iload 30 1) := snd_iload_n (by decide +kernel : decode (mBc 204) 29 = .ok (.iload_n 1, 1)) rfl rfl
theorem s204_30 : mSnd 204 30 (a_iald 31) := snd_iald (by decide +kernel : decode (mBc 204) 30 = .ok (.iaload, 1)) rfl
theorem s204_31 : mSnd 204 31 (a_push 32 (.int (iZ 4))) := snd_iconst (by decide +kernel : decode (mBc 204) 31 = .ok (.iconst 4, 1)) rfl rfl
theorem s204_32 : mSnd 204 32 (a_icmp 35 57 (fun x y => decide (¬ x = y))) := snd_icmp_ne (by decide +kernel : decode (mBc 204) 32 = .ok (.if_icmp .ne 25, 3)) rfl rfl
theorem s204_35 : mSnd 204 35 (a_aload 36 0) := snd_aload_n (by decide +kernel : decode (mBc 204) 35 = .ok (.aload_n 0, 1)) rfl rfl
theorem s204_36 : mSnd 204 36 (a_push 38 (.int (iZ 51))) := snd_bipush (by decide +kernel : decode (mBc 204) 36 = .ok (.bipush 51, 2)) (by decide +kernel) rfl
theorem s204_38 : mSnd 204 38 (a_invV 41 1 0 0 [(10, 200, 0, 0)]) := snd_invV v204_208 rfl rfl (by decide +kernel : decode (mBc 204) 38 = .ok (.invokevirtual 208, 3)) rfl
theorem s204_41 : mSnd 204 41 (a_aload 42 0) := snd_aload_n (by decide +kernel : decode (mBc 204) 41 = .ok (.aload_n 0, 1)) rfl rfl
theorem s204_42 : mSnd 204 42 (a_iload 43 1) := snd_iload_n (by decide +kernel : decode (mBc 204) 42 = .ok (.iload_n 1, 1)) rfl rfl
theorem s204_43 : mSnd 204 43 (a_iload 44 2) := snd_iload_n (by decide +kernel : decode (mBc 204) 43 = .ok (.iload_n 2, 1)) rfl rfl
theorem s204_44 : mSnd 204 44 (a_invV 47 2 0 0 [(10, 203, 0, 0)]) := snd_invV v204_217 rfl rfl (by decide +kernel : decode (mBc 204) 44 = .ok (.invokevirtual 217, 3)) rfl
theorem s204_47 : mSnd 204 47 (a_istore 48 3) := snd_istore_n (by decide +kernel : decode (mBc 204) 47 = .ok (.istore_n 3, 1)) rfl (by decide) rfl
theorem s204_48 : mSnd 204 48 (a_iload 49 3) := snd_iload_n (by decide +kernel : decode (mBc 204) 48 = .ok (.iload_n 3, 1)) rfl rfl
theorem s204_49 : mSnd 204 49 (a_aload 50 0) := snd_aload_n (by decide +kernel : decode (mBc 204) 49 = .ok (.aload_n 0, 1)) rfl rfl
theorem s204_50 : mSnd 204 50 (a_iload 51 1) := snd_iload_n (by decide +kernel : decode (mBc 204) 50 = .ok (.iload_n 1, 1)) rfl rfl
theorem s204_51 : mSnd 204 51 (a_iload 52 2) := snd_iload_n (by decide +kernel : decode (mBc 204) 51 = .ok (.iload_n 2, 1)) rfl rfl
theorem s204_52 : mSnd 204 52 (a_invV 55 2 0 0 [(10, 201, 0, 0)]) := snd_invV v204_211 rfl rfl (by decide +kernel : decode (mBc 204) 52 = .ok (.invokevirtual 211, 3)) rfl
theorem s204_55 : mSnd 204 55 (a_ii 56 (fun x y => x ^^^ y)) := snd_ixor (by decide +kernel : decode (mBc 204) 55 = .ok (.ixor, 1)) rfl
theorem s204_56 : mSnd 204 56 (a_iret 0 0) := snd_iret rfl rfl rfl (by decide +kernel : decode (mBc 204) 56 = .ok (.ireturn, 1))
theorem s204_57 : mSnd 204 57 (a_aload 58 0) := snd_aload_n (by decide +kernel : decode (mBc 204) 57 = .ok (.aload_n 0, 1)) rfl rfl
theorem s204_58 : mSnd 204 58 (a_iload 59 1) := snd_iload_n (by decide +kernel : decode (mBc 204) 58 = .ok (.iload_n 1, 1)) rfl rfl
theorem s204_59 : mSnd 204 59 (a_iload 60 2) := snd_iload_n (by decide +kernel : decode (mBc 204) 59 = .ok (.iload_n 2, 1)) rfl rfl
theorem s204_60 : mSnd 204 60 (a_invV 63 2 0 0 [(10, 203, 0, 0)]) := snd_invV v204_217 rfl rfl (by decide +kernel : decode (mBc 204) 60 = .ok (.invokevirtual 217, 3)) rfl
theorem s204_63 : mSnd 204 63 (a_iret 0 0) := snd_iret rfl rfl rfl (by decide +kernel : decode (mBc 204) 63 = .ok (.ireturn, 1))
theorem ok204 : mOkl2 204 ct204 := ⟨⟨s204_0, s204_1, s204_4, s204_5, s204_6, s204_7, s204_10, s204_11, s204_13, s204_16, s204_17, s204_18, trivial⟩, ⟨s204_19, s204_22, s204_23, s204_24, s204_25, s204_26, s204_29, s204_30, s204_31, s204_32, s204_35, s204_36, trivial⟩, ⟨s204_38, s204_41, s204_42, s204_43, s204_44, s204_47, s204_48, s204_49, s204_50, s204_51, s204_52, s204_55, trivial⟩, ⟨s204_56, s204_57, s204_58, s204_59, s204_60, s204_63, trivial⟩, trivial⟩
theorem s205_0 : mSnd 205 0 (a_aload 1 0) := snd_aload_n (by decide +kernel : decode (mBc 205) 0 = .ok (.aload_n 0, 1)) rfl rfl
theorem s205_1 : mSnd 205 1 (a_push 3 (.int (iZ 12))) := snd_bipush (by decide +kernel : decode (mBc 205) 1 = .ok (.bipush 12, 2)) (by decide +kernel) rfl
theorem s205_3 : mSnd 205 3 (a_invV 6 1 0 0 [(10, 200, 0, 0)]) := snd_invV v205_208 rfl rfl (by decide +kernel : decode (mBc 205) 3 = .ok (.invokevirtual 208, 3)) rfl
theorem s205_6 : mSnd 205 6 (a_aload 7 0) := snd_aload_n (by decide +kernel : decode (mBc 205) 6 = .ok (.aload_n 0, 1)) rfl rfl
theorem s205_7 : mSnd 205 7 (a_iload 8 1) := snd_iload_n (by decide +kernel : decode (mBc 205) 7 = .ok (.iload_n 1, 1)) rfl rfl
theorem s205_8 : mSnd 205 8 (a_iload 9 2) := snd_iload_n (by decide +kernel : decode (mBc 205) 8 = .ok (.iload_n 2, 1)) rfl rfl
theorem s205_9 : mSnd 205 9 (a_invV 12 2 0 0 [(10, 204, 0, 0)]) := snd_invV v205_220 rfl rfl (by decide +kernel : decode (mBc 205) 9 = .ok (.invokevirtual 220, 3)) rfl
theorem s205_12 : mSnd 205 12 (a_istore 13 3) := snd_istore_n (by decide +kernel : decode (mBc 205) 12 = .ok (.istore_n 3, 1)) rfl (by decide) rfl
theorem s205_13 : mSnd 205 13 (a_iload 14 3) := snd_iload_n (by decide +kernel : decode (mBc 205) 13 = .ok (.iload_n 3, 1)) rfl rfl
theorem s205_14 : mSnd 205 14 (a_aload 15 0) := snd_aload_n (by decide +kernel : decode (mBc 205) 14 = .ok (.aload_n 0, 1)) rfl rfl
theorem s205_15 : mSnd 205 15 (a_iload 16 1) := snd_iload_n (by decide +kernel : decode (mBc 205) 15 = .ok (.iload_n 1, 1)) rfl rfl
theorem s205_16 : mSnd 205 16 (a_iload 17 2) := snd_iload_n (by decide +kernel : decode (mBc 205) 16 = .ok (.iload_n 2, 1)) rfl rfl
theorem s205_17 : mSnd 205 17 (a_iload 18 1) := snd_iload_n (by decide +kernel : decode (mBc 205) 17 = .ok (.iload_n 1, 1)) rfl rfl
theorem s205_18 : mSnd 205 18 (a_ii 19 (fun x y => x + y)) := snd_iadd (by decide +kernel : decode (mBc 205) 18 = .ok (.iadd, 1)) rfl
theorem s205_19 : mSnd 205 19 (a_invV 22 2 0 0 [(10, 202, 0, 0)]) := snd_invV v205_214 rfl rfl (by decide +kernel : decode (mBc 205) 19 = .ok (.invokevirtual 214, 3)) rfl
theorem s205_22 : mSnd 205 22 (a_ii 23 (fun x y => x ^^^ y)) := snd_ixor (by decide +kernel : decode (mBc 205) 22 = .ok (.ixor, 1)) rfl
theorem s205_23 : mSnd 205 23 (a_iret 0 0) := snd_iret rfl rfl rfl (by decide +kernel : decode (mBc 205) 23 = .ok (.ireturn, 1))
theorem ok205 : mOkl2 205 ct205 := ⟨⟨s205_0, s205_1, s205_3, s205_6, s205_7, s205_8, s205_9, s205_12, s205_13, s205_14, s205_15, s205_16, trivial⟩, ⟨s205_17, s205_18, s205_19, s205_22, s205_23, trivial⟩, trivial⟩
theorem s206_0 : mSnd 206 0 (a_aload 1 0) := snd_aload_n (by decide +kernel : decode (mBc 206) 0 = .ok (.aload_n 0, 1)) rfl rfl
theorem s206_1 : mSnd 206 1 (a_getf 4 1 [10]) := snd_getf f28 q903 (Or.inl rfl) (by decide +kernel : decode (mBc 206) 1 = .ok (.getfield 13, 3)) rfl
theorem s206_4 : mSnd 206 4 (a_iload 5 1) := snd_iload_n (by decide +kernel : decode (mBc 206) 4 = .ok (.iload_n 1, 1)) rfl rfl
theorem s206_5 : mSnd 206 5 (a_iald 6) := snd_iald (by decide +kernel : decode (mBc 206) 5 = .ok (.iaload, 1)) rfl
theorem s206_6 : mSnd 206 6 (a_push 7 (.int (iZ 1))) := snd_iconst (by decide +kernel : decode (mBc 206) 6 = .ok (.iconst 1, 1)) rfl rfl
theorem s206_7 : mSnd 206 7 (a_icmp 10 25 (fun x y => decide (¬ x = y))) := snd_icmp_ne (by decide +kernel : decode (mBc 206) 7 = .ok (.if_icmp .ne 18, 3)) rfl rfl
theorem s206_10 : mSnd 206 10 (a_aload 11 0) := snd_aload_n (by decide +kernel : decode (mBc 206) 10 = .ok (.aload_n 0, 1)) rfl rfl
theorem s206_11 : mSnd 206 11 (a_push 13 (.int (iZ 21))) := snd_bipush (by decide +kernel : decode (mBc 206) 11 = .ok (.bipush 21, 2)) (by decide +kernel) rfl
theorem s206_13 : mSnd 206 13 (a_invV 16 1 0 0 [(10, 200, 0, 0)]) := snd_invV v206_208 rfl rfl (by decide +kernel : decode (mBc 206) 13 = .ok (.invokevirtual 208, 3)) rfl
theorem s206_16 : mSnd 206 16 (a_aload 17 0) := snd_aload_n (by decide +kernel : decode (mBc 206) 16 = .ok (.aload_n 0, 1)) rfl rfl
theorem s206_17 : mSnd 206 17 (a_iload 18 1) := snd_iload_n (by decide +kernel : decode (mBc 206) 17 = .ok (.iload_n 1, 1)) rfl rfl
theorem s206_18 : mSnd 206 18 (a_iload 19 2) := snd_iload_n (by decide +kernel : decode (mBc 206) 18 = .ok (.iload_n 2, 1)) rfl rfl
theorem s206_19 : mSnd 206 19 (a_invV 22 2 0 0 [(10, 205, 0, 0)]) := snd_invV v206_223 rfl rfl (by decide +kernel : decode (mBc 206) 19 = .ok (.invokevirtual 223, 3)) rfl
theorem s206_22 : mSnd 206 22 (a_push 23 (.int (iZ 1))) := snd_iconst (by decide +kernel : decode (mBc 206) 22 = .ok (.iconst 1, 1)) rfl rfl
theorem s206_23 : mSnd 206 23 (a_ii 24 (fun x y => x - y)) := snd_isub (by decide +kernel : decode (mBc 206) 23 = .ok (.isub, 1)) rfl
theorem s206_24 : mSnd 206 24 (a_iret 0 0) := snd_iret rfl rfl rfl (by decide +kernel : decode (mBc 206) 24 = .ok (.ireturn, 1))
theorem s206_25 : mSnd 206 25 (a_aload 26 0) := snd_aload_n (by decide +kernel : decode (mBc 206) 25 = .ok (.aload_n 0, 1)) rfl rfl
theorem s206_26 : mSnd 206 26 (a_getf 29 1 [10]) := snd_getf f28 q903 (Or.inl rfl) (by decide +kernel : decode (mBc 206) 26 = .ok (.getfield 13, 3)) rfl
theorem s206_29 : mSnd 206 29 (a_iload 30 1) := snd_iload_n (by decide +kernel : decode (mBc 206) 29 = .ok (.iload_n 1, 1)) rfl rfl
theorem s206_30 : mSnd 206 30 (a_iald 31) := snd_iald (by decide +kernel : decode (mBc 206) 30 = .ok (.iaload, 1)) rfl
theorem s206_31 : mSnd 206 31 (a_push 32 (.int (iZ 3))) := snd_iconst (by decide +kernel : decode (mBc 206) 31 = .ok (.iconst 3, 1)) rfl rfl
theorem s206_32 : mSnd 206 32 (a_icmp 35 59 (fun x y => decide (¬ x = y))) := snd_icmp_ne (by decide +kernel : decode (mBc 206) 32 = .ok (.if_icmp .ne 27, 3)) rfl rfl
theorem s206_35 : mSnd 206 35 (a_aload 36 0) := snd_aload_n (by decide +kernel : decode (mBc 206) 35 = .ok (.aload_n 0, 1)) rfl rfl
theorem s206_36 : mSnd 206 36 (a_push 38 (.int (iZ 40))) := snd_bipush (by decide +kernel : decode (mBc 206) 36 = .ok (.bipush 40, 2)) (by decide +kernel) rfl
theorem s206_38 : mSnd 206 38 (a_invV 41 1 0 0 [(10, 200, 0, 0)]) := snd_invV v206_208 rfl rfl (by decide +kernel : decode (mBc 206) 38 = .ok (.invokevirtual 208, 3)) rfl
theorem s206_41 : mSnd 206 41 (a_aload 42 0) := snd_aload_n (by decide +kernel : decode (mBc 206) 41 = .ok (.aload_n 0, 1)) rfl rfl
theorem s206_42 : mSnd 206 42 (a_iload 43 1) := snd_iload_n (by decide +kernel : decode (mBc 206) 42 = .ok (.iload_n 1, 1)) rfl rfl
theorem s206_43 : mSnd 206 43 (a_iload 44 2) := snd_iload_n (by decide +kernel : decode (mBc 206) 43 = .ok (.iload_n 2, 1)) rfl rfl
theorem s206_44 : mSnd 206 44 (a_invV 47 2 0 0 [(10, 202, 0, 0)]) := snd_invV v206_214 rfl rfl (by decide +kernel : decode (mBc 206) 44 = .ok (.invokevirtual 214, 3)) rfl
theorem s206_47 : mSnd 206 47 (a_istore 48 3) := snd_istore_n (by decide +kernel : decode (mBc 206) 47 = .ok (.istore_n 3, 1)) rfl (by decide) rfl
theorem s206_48 : mSnd 206 48 (a_iload 49 3) := snd_iload_n (by decide +kernel : decode (mBc 206) 48 = .ok (.iload_n 3, 1)) rfl rfl
theorem s206_49 : mSnd 206 49 (a_aload 50 0) := snd_aload_n (by decide +kernel : decode (mBc 206) 49 = .ok (.aload_n 0, 1)) rfl rfl
theorem s206_50 : mSnd 206 50 (a_iload 51 1) := snd_iload_n (by decide +kernel : decode (mBc 206) 50 = .ok (.iload_n 1, 1)) rfl rfl
theorem s206_51 : mSnd 206 51 (a_iload 52 2) := snd_iload_n (by decide +kernel : decode (mBc 206) 51 = .ok (.iload_n 2, 1)) rfl rfl
theorem s206_52 : mSnd 206 52 (a_push 53 (.int (iZ 1))) := snd_iconst (by decide +kernel : decode (mBc 206) 52 = .ok (.iconst 1, 1)) rfl rfl
theorem s206_53 : mSnd 206 53 (a_ii 54 (fun x y => x + y)) := snd_iadd (by decide +kernel : decode (mBc 206) 53 = .ok (.iadd, 1)) rfl
theorem s206_54 : mSnd 206 54 (a_invV 57 2 0 0 [(10, 205, 0, 0)]) := snd_invV v206_223 rfl rfl (by decide +kernel : decode (mBc 206) 54 = .ok (.invokevirtual 223, 3)) rfl
theorem s206_57 : mSnd 206 57 (a_ii 58 (fun x y => x - y)) := snd_isub (by decide +kernel : decode (mBc 206) 57 = .ok (.isub, 1)) rfl
theorem s206_58 : mSnd 206 58 (a_iret 0 0) := snd_iret rfl rfl rfl (by decide +kernel : decode (mBc 206) 58 = .ok (.ireturn, 1))
theorem s206_59 : mSnd 206 59 (a_aload 60 0) := snd_aload_n (by decide +kernel : decode (mBc 206) 59 = .ok (.aload_n 0, 1)) rfl rfl
theorem s206_60 : mSnd 206 60 (a_iload 61 1) := snd_iload_n (by decide +kernel : decode (mBc 206) 60 = .ok (.iload_n 1, 1)) rfl rfl
theorem s206_61 : mSnd 206 61 (a_iload 62 2) := snd_iload_n (by decide +kernel : decode (mBc 206) 61 = .ok (.iload_n 2, 1)) rfl rfl
theorem s206_62 : mSnd 206 62 (a_invV 65 2 0 0 [(10, 205, 0, 0)]) := snd_invV v206_223 rfl rfl (by decide +kernel : decode (mBc 206) 62 = .ok (.invokevirtual 223, 3)) rfl
theorem s206_65 : mSnd 206 65 (a_iret 0 0) := snd_iret rfl rfl rfl (by decide +kernel : decode (mBc 206) 65 = .ok (.ireturn, 1))
theorem ok206 : mOkl2 206 ct206 := ⟨⟨s206_0, s206_1, s206_4, s206_5, s206_6, s206_7, s206_10, s206_11, s206_13, s206_16, s206_17, s206_18, trivial⟩, ⟨s206_19, s206_22, s206_23, s206_24, s206_25, s206_26, s206_29, s206_30, s206_31, s206_32, s206_35, s206_36, trivial⟩, ⟨s206_38, s206_41, s206_42, s206_43, s206_44, s206_47, s206_48, s206_49, s206_50, s206_51, s206_52, s206_53, trivial⟩, ⟨s206_54, s206_57, s206_58, s206_59, s206_60, s206_61, s206_62, s206_65, trivial⟩, trivial⟩
theorem s207_0 : mSnd 207 0 (a_aload 1 0) := snd_aload_n (by decide +kernel : decode (mBc 207) 0 = .ok (.aload_n 0, 1)) rfl rfl
theorem s207_1 : mSnd 207 1 (a_push 2 (.int (iZ 0))) := snd_iconst (by decide +kernel : decode (mBc 207) 1 = .ok (.iconst 0, 1)) rfl rfl
theorem s207_2 : mSnd 207 2 (a_putf 5 16 0 [10]) := snd_putf f43 (by decide +kernel) q918 (Or.inl rfl) (Or.inl rfl) (by decide +kernel : decode (mBc 207) 2 = .ok (.putfield 61, 3)) rfl
theorem s207_5 : mSnd 207 5 (a_aload 6 0) := snd_aload_n (by decide +kernel : decode (mBc 207) 5 = .ok (.aload_n 0, 1)) rfl rfl
theorem s207_6 : mSnd 207 6 (a_iload 7 1) := snd_iload_n (by decide +kernel : decode (mBc 207) 6 = .ok (.iload_n 1, 1)) rfl rfl
theorem s207_7 : mSnd 207 7 (a_invV 10 1 0 0 [(10, 138, 0, 0)]) := snd_invV v207_92 rfl rfl (by decide +kernel : decode (mBc 207) 7 = .ok (.invokevirtual 92, 3)) rfl
theorem s207_10 : mSnd 207 10 (a_if 13 23 (fun x => decide (x = 0))) := snd_if_eq (by decide +kernel : decode (mBc 207) 10 = .ok (.ifCond .eq 13, 3)) rfl rfl
theorem s207_13 : mSnd 207 13 (a_aload 14 0) := snd_aload_n (by decide +kernel : decode (mBc 207) 13 = .ok (.aload_n 0, 1)) rfl rfl
theorem s207_14 : mSnd 207 14 (a_iload 15 2) := snd_iload_n (by decide +kernel : decode (mBc 207) 14 = .ok (.iload_n 2, 1)) rfl rfl
theorem s207_15 : mSnd 207 15 (a_push 16 (.int (iZ 0))) := snd_iconst (by decide +kernel : decode (mBc 207) 15 = .ok (.iconst 0, 1)) rfl rfl
theorem s207_16 : mSnd 207 16 (a_push 17 (.int (iZ 2))) := snd_iconst (by decide +kernel : decode (mBc 207) 16 = .ok (.iconst 2, 1)) rfl rfl
theorem s207_17 : mSnd 207 17 (a_invV 20 3 0 0 [(10, 137, 0, 0)]) := snd_invV v207_76 rfl rfl (by decide +kernel : decode (mBc 207) 17 = .ok (.invokevirtual 76, 3)) rfl
theorem s207_20 : mSnd 207 20 (a_if 23 25 (fun x => decide (¬ x = 0))) := snd_if_ne (by decide +kernel : decode (mBc 207) 20 = .ok (.ifCond .ne 5, 3)) rfl rfl
theorem s207_23 : mSnd 207 23 (a_push 24 (.int (iZ 0))) := snd_iconst (by decide +kernel : decode (mBc 207) 23 = .ok (.iconst 0, 1)) rfl rfl
theorem s207_24 : mSnd 207 24 (a_iret 0 0) := snd_iret rfl rfl rfl (by decide +kernel : decode (mBc 207) 24 = .ok (.ireturn, 1))
theorem s207_25 : mSnd 207 25 (a_iload 26 2) := snd_iload_n (by decide +kernel : decode (mBc 207) 25 = .ok (.iload_n 2, 1)) rfl rfl
theorem s207_26 : mSnd 207 26 (a_if 29 38 (fun x => decide (¬ x = 0))) := snd_if_ne (by decide +kernel : decode (mBc 207) 26 = .ok (.ifCond .ne 12, 3)) rfl rfl
theorem s207_29 : mSnd 207 29 (a_aload 30 0) := snd_aload_n (by decide +kernel : decode (mBc 207) 29 = .ok (.aload_n 0, 1)) rfl rfl
theorem s207_30 : mSnd 207 30 (a_iload 31 1) := snd_iload_n (by decide +kernel : decode (mBc 207) 30 = .ok (.iload_n 1, 1)) rfl rfl
theorem s207_31 : mSnd 207 31 (a_iload 32 3) := snd_iload_n (by decide +kernel : decode (mBc 207) 31 = .ok (.iload_n 3, 1)) rfl rfl
theorem s207_32 : mSnd 207 32 (a_invV 35 2 0 0 [(10, 202, 0, 0)]) := snd_invV v207_214 rfl rfl (by decide +kernel : decode (mBc 207) 32 = .ok (.invokevirtual 214, 3)) rfl
theorem s207_35 : mSnd 207 35 (a_goto 58) := snd_goto (by decide +kernel : decode (mBc 207) 35 = .ok (.goto 23, 3)) rfl
theorem s207_38 : mSnd 207 38 (a_iload 39 2) := snd_iload_n (by decide +kernel : decode (mBc 207) 38 = .ok (.iload_n 2, 1)) rfl rfl
theorem s207_39 : mSnd 207 39 (a_push 40 (.int (iZ 1))) := snd_iconst (by decide +kernel : decode (mBc 207) 39 = .ok (.iconst 1, 1)) rfl rfl
theorem s207_40 : mSnd 207 40 (a_icmp 43 52 (fun x y => decide (¬ x = y))) := snd_icmp_ne (by decide +kernel : decode (mBc 207) 40 = .ok (.if_icmp .ne 12, 3)) rfl rfl
theorem s207_43 : mSnd 207 43 (a_aload 44 0) := snd_aload_n (by decide +kernel : decode (mBc 207) 43 = .ok (.aload_n 0, 1)) rfl rfl
theorem s207_44 : mSnd 207 44 (a_iload 45 1) := snd_iload_n (by decide +kernel : decode (mBc 207) 44 = .ok (.iload_n 1, 1)) rfl rfl
theorem s207_45 : mSnd 207 45 (a_iload 46 3) := snd_iload_n (by decide +kernel : decode (mBc 207) 45 = .ok (.iload_n 3, 1)) rfl rfl
theorem s207_46 : mSnd 207 46 (a_invV 49 2 0 0 [(10, 204, 0, 0)]) := snd_invV v207_220 rfl rfl (by decide +kernel : decode (mBc 207) 46 = .ok (.invokevirtual 220, 3)) rfl
theorem s207_49 : mSnd 207 49 (a_goto 58) := snd_goto (by decide +kernel : decode (mBc 207) 49 = .ok (.goto 9, 3)) rfl
theorem s207_52 : mSnd 207 52 (a_aload 53 0) := snd_aload_n (by decide +kernel : decode (mBc 207) 52 = .ok (.aload_n 0, 1)) rfl rfl
theorem s207_53 : mSnd 207 53 (a_iload 54 1) := snd_iload_n (by decide +kernel : decode (mBc 207) 53 = .ok (.iload_n 1, 1)) rfl rfl
theorem s207_54 : mSnd 207 54 (a_iload 55 3) := snd_iload_n (by decide +kernel : decode (mBc 207) 54 = .ok (.iload_n 3, 1)) rfl rfl
theorem s207_55 : mSnd 207 55 (a_invV 58 2 0 0 [(10, 206, 0, 0)]) := snd_invV v207_226 rfl rfl (by decide +kernel : decode (mBc 207) 55 = .ok (.invokevirtual 226, 3)) rfl
theorem s207_58 : mSnd 207 58 (a_iret 0 0) := snd_iret rfl rfl rfl (by decide +kernel : decode (mBc 207) 58 = .ok (.ireturn, 1))
theorem ok207 : mOkl2 207 ct207 := ⟨⟨s207_0, s207_1, s207_2, s207_5, s207_6, s207_7, s207_10, s207_13, s207_14, s207_15, s207_16, s207_17, trivial⟩, ⟨s207_20, s207_23, s207_24, s207_25, s207_26, s207_29, s207_30, s207_31, s207_32, s207_35, s207_38, s207_39, trivial⟩, ⟨s207_40, s207_43, s207_44, s207_45, s207_46, s207_49, s207_52, s207_53, s207_54, s207_55, s207_58, trivial⟩, trivial⟩
theorem s208_0 : mSnd 208 0 (a_iload 1 1) := snd_iload_n (by decide +kernel : decode (mBc 208) 0 = .ok (.iload_n 1, 1)) rfl rfl
theorem s208_1 : mSnd 208 1 (a_if 4 27 (fun x => decide (x < 0))) := snd_if_lt (by decide +kernel : decode (mBc 208) 1 = .ok (.ifCond .lt 26, 3)) rfl rfl
theorem s208_4 : mSnd 208 4 (a_iload 5 1) := snd_iload_n (by decide +kernel : decode (mBc 208) 4 = .ok (.iload_n 1, 1)) rfl rfl
theorem s208_5 : mSnd 208 5 (a_aload 6 0) := snd_aload_n (by decide +kernel : decode (mBc 208) 5 = .ok (.aload_n 0, 1)) rfl rfl
theorem s208_6 : mSnd 208 6 (a_getf 9 16 [10]) := snd_getf f43 q918 (Or.inl rfl) (by decide +kernel : decode (mBc 208) 6 = .ok (.getfield 61, 3)) rfl
theorem s208_9 : mSnd 208 9 (a_icmp 12 27 (fun x y => decide (y ≤ x))) := snd_icmp_ge (by decide +kernel : decode (mBc 208) 9 = .ok (.if_icmp .ge 18, 3)) rfl rfl
theorem s208_12 : mSnd 208 12 (a_iload 13 1) := snd_iload_n (by decide +kernel : decode (mBc 208) 12 = .ok (.iload_n 1, 1)) rfl rfl
theorem s208_13 : mSnd 208 13 (a_push 15 (.int (iZ 40))) := snd_bipush (by decide +kernel : decode (mBc 208) 13 = .ok (.bipush 40, 2)) (by decide +kernel) rfl
theorem s208_15 : mSnd 208 15 (a_icmp 18 27 (fun x y => decide (y ≤ x))) := snd_icmp_ge (by decide +kernel : decode (mBc 208) 15 = .ok (.if_icmp .ge 12, 3)) rfl rfl
theorem s208_18 : mSnd 208 18 (a_aload 19 0) := snd_aload_n (by decide +kernel : decode (mBc 208) 18 = .ok (.aload_n 0, 1)) rfl rfl
theorem s208_19 : mSnd 208 19 (a_getf 22 15 [10]) := snd_getf f42 q917 (Or.inl rfl) (by decide +kernel : decode (mBc 208) 19 = .ok (.getfield 58, 3)) rfl
theorem s208_22 : mSnd 208 22 (a_iload 23 1) := snd_iload_n (by decide +kernel : decode (mBc 208) 22 = .ok (.iload_n 1, 1)) rfl rfl
theorem s208_23 : mSnd 208 23 (a_iald 24) := snd_iald (by decide +kernel : decode (mBc 208) 23 = .ok (.iaload, 1)) rfl
theorem s208_24 : mSnd 208 24 (a_goto 28) := snd_goto (by decide +kernel : decode (mBc 208) 24 = .ok (.goto 4, 3)) rfl
theorem s208_27 : mSnd 208 27 (a_push 28 (.int (iZ (-1)))) := snd_iconst (by decide +kernel : decode (mBc 208) 27 = .ok (.iconst (-1), 1)) rfl rfl
theorem s208_28 : mSnd 208 28 (a_iret 0 0) := snd_iret rfl rfl rfl (by decide +kernel : decode (mBc 208) 28 = .ok (.ireturn, 1))
theorem ok208 : mOkl2 208 ct208 := ⟨⟨s208_0, s208_1, s208_4, s208_5, s208_6, s208_9, s208_12, s208_13, s208_15, s208_18, s208_19, s208_22, trivial⟩, ⟨s208_23, s208_24, s208_27, s208_28, trivial⟩, trivial⟩
theorem s209_0 : mSnd 209 0 (a_iload 1 1) := snd_iload_n (by decide +kernel : decode (mBc 209) 0 = .ok (.iload_n 1, 1)) rfl rfl
theorem s209_1 : mSnd 209 1 (a_if 4 11 (fun x => decide (¬ x = 0))) := snd_if_ne (by decide +kernel : decode (mBc 209) 1 = .ok (.ifCond .ne 10, 3)) rfl rfl
theorem s209_4 : mSnd 209 4 (a_aload 5 0) := snd_aload_n (by decide +kernel : decode (mBc 209) 4 = .ok (.aload_n 0, 1)) rfl rfl
theorem s209_5 : mSnd 209 5 (a_getf 8 0 [10]) := snd_getf f27 q902 (Or.inl rfl) (by decide +kernel : decode (mBc 209) 5 = .ok (.getfield 7, 3)) rfl
theorem s209_8 : mSnd 209 8 (a_goto 37) := snd_goto (by decide +kernel : decode (mBc 209) 8 = .ok (.goto 29, 3)) rfl
theorem s209_11 : mSnd 209 11 (a_iload 12 1) := snd_iload_n (by decide +kernel : decode (mBc 209) 11 = .ok (.iload_n 1, 1)) rfl rfl
theorem s209_12 : mSnd 209 12 (a_push 13 (.int (iZ 1))) := snd_iconst (by decide +kernel : decode (mBc 209) 12 = .ok (.iconst 1, 1)) rfl rfl
theorem s209_13 : mSnd 209 13 (a_icmp 16 23 (fun x y => decide (¬ x = y))) := snd_icmp_ne (by decide +kernel : decode (mBc 209) 13 = .ok (.if_icmp .ne 10, 3)) rfl rfl
theorem s209_16 : mSnd 209 16 (a_aload 17 0) := snd_aload_n (by decide +kernel : decode (mBc 209) 16 = .ok (.aload_n 0, 1)) rfl rfl
theorem s209_17 : mSnd 209 17 (a_getf 20 13 [10]) := snd_getf f40 q915 (Or.inl rfl) (by decide +kernel : decode (mBc 209) 17 = .ok (.getfield 52, 3)) rfl
theorem s209_20 : mSnd 209 20 (a_goto 37) := snd_goto (by decide +kernel : decode (mBc 209) 20 = .ok (.goto 17, 3)) rfl
theorem s209_23 : mSnd 209 23 (a_iload 24 1) := snd_iload_n (by decide +kernel : decode (mBc 209) 23 = .ok (.iload_n 1, 1)) rfl rfl
theorem s209_24 : mSnd 209 24 (a_push 25 (.int (iZ 2))) := snd_iconst (by decide +kernel : decode (mBc 209) 24 = .ok (.iconst 2, 1)) rfl rfl
theorem s209_25 : mSnd 209 25 (a_icmp 28 35 (fun x y => decide (¬ x = y))) := snd_icmp_ne (by decide +kernel : decode (mBc 209) 25 = .ok (.if_icmp .ne 10, 3)) rfl rfl
theorem s209_28 : mSnd 209 28 (a_aload 29 0) := snd_aload_n (by decide +kernel : decode (mBc 209) 28 = .ok (.aload_n 0, 1)) rfl rfl
theorem s209_29 : mSnd 209 29 (a_getf 32 16 [10]) := snd_getf f43 q918 (Or.inl rfl) (by decide +kernel : decode (mBc 209) 29 = .ok (.getfield 61, 3)) rfl
theorem s209_32 : mSnd 209 32 (a_goto 37) := snd_goto (by decide +kernel : decode (mBc 209) 32 = .ok (.goto 5, 3)) rfl
theorem s209_35 : mSnd 209 35 (a_push 37 (.int (iZ (-2)))) := snd_bipush (by decide +kernel : decode (mBc 209) 35 = .ok (.bipush (-2), 2)) (by decide +kernel) rfl
theorem s209_37 : mSnd 209 37 (a_iret 0 0) := snd_iret rfl rfl rfl (by decide +kernel : decode (mBc 209) 37 = .ok (.ireturn, 1))
theorem ok209 : mOkl2 209 ct209 := ⟨⟨s209_0, s209_1, s209_4, s209_5, s209_8, s209_11, s209_12, s209_13, s209_16, s209_17, s209_20, s209_23, trivial⟩, ⟨s209_24, s209_25, s209_28, s209_29, s209_32, s209_35, s209_37, trivial⟩, trivial⟩
theorem s210_0 : mSnd 210 0 (a_aload 1 0) := snd_aload_n (by decide +kernel : decode (mBc 210) 0 = .ok (.aload_n 0, 1)) rfl rfl
theorem s210_1 : mSnd 210 1 (a_iload 2 1) := snd_iload_n (by decide +kernel : decode (mBc 210) 1 = .ok (.iload_n 1, 1)) rfl rfl
theorem s210_2 : mSnd 210 2 (a_push 3 (.int (iZ 0))) := snd_iconst (by decide +kernel : decode (mBc 210) 2 = .ok (.iconst 0, 1)) rfl rfl
theorem s210_3 : mSnd 210 3 (a_push 4 (.int (iZ 3))) := snd_iconst (by decide +kernel : decode (mBc 210) 3 = .ok (.iconst 3, 1)) rfl rfl
theorem s210_4 : mSnd 210 4 (a_invV 7 3 0 0 [(10, 137, 0, 0)]) := snd_invV v210_76 rfl rfl (by decide +kernel : decode (mBc 210) 4 = .ok (.invokevirtual 76, 3)) rfl
theorem s210_7 : mSnd 210 7 (a_zret 0 0) := snd_zret rfl rfl rfl (by decide +kernel : decode (mBc 210) 7 = .ok (.ireturn, 1))
theorem ok210 : mOkl2 210 ct210 := ⟨⟨s210_0, s210_1, s210_2, s210_3, s210_4, s210_7, trivial⟩, trivial⟩
theorem s211_0 : mSnd 211 0 (a_aload 1 0) := snd_aload_n (by decide +kernel : decode (mBc 211) 0 = .ok (.aload_n 0, 1)) rfl rfl
theorem s211_1 : mSnd 211 1 (a_iload 2 1) := snd_iload_n (by decide +kernel : decode (mBc 211) 1 = .ok (.iload_n 1, 1)) rfl rfl
theorem s211_2 : mSnd 211 2 (a_invV 5 1 0 0 [(10, 210, 0, 0)]) := snd_invV v211_229 rfl rfl (by decide +kernel : decode (mBc 211) 2 = .ok (.invokevirtual 229, 3)) rfl
theorem s211_5 : mSnd 211 5 (a_if 8 28 (fun x => decide (x = 0))) := snd_if_eq (by decide +kernel : decode (mBc 211) 5 = .ok (.ifCond .eq 23, 3)) rfl rfl
theorem s211_8 : mSnd 211 8 (a_aload 9 0) := snd_aload_n (by decide +kernel : decode (mBc 211) 8 = .ok (.aload_n 0, 1)) rfl rfl
theorem s211_9 : mSnd 211 9 (a_iload 10 2) := snd_iload_n (by decide +kernel : decode (mBc 211) 9 = .ok (.iload_n 2, 1)) rfl rfl
theorem s211_10 : mSnd 211 10 (a_push 11 (.int (iZ (-1)))) := snd_iconst (by decide +kernel : decode (mBc 211) 10 = .ok (.iconst (-1), 1)) rfl rfl
theorem s211_11 : mSnd 211 11 (a_push 12 (.int (iZ 2))) := snd_iconst (by decide +kernel : decode (mBc 211) 11 = .ok (.iconst 2, 1)) rfl rfl
theorem s211_12 : mSnd 211 12 (a_invV 15 3 0 0 [(10, 137, 0, 0)]) := snd_invV v211_76 rfl rfl (by decide +kernel : decode (mBc 211) 12 = .ok (.invokevirtual 76, 3)) rfl
theorem s211_15 : mSnd 211 15 (a_if 18 28 (fun x => decide (x = 0))) := snd_if_eq (by decide +kernel : decode (mBc 211) 15 = .ok (.ifCond .eq 13, 3)) rfl rfl
theorem s211_18 : mSnd 211 18 (a_iload 19 2) := snd_iload_n (by decide +kernel : decode (mBc 211) 18 = .ok (.iload_n 2, 1)) rfl rfl
theorem s211_19 : mSnd 211 19 (a_if 22 31 (fun x => decide (x < 0))) := snd_if_lt (by decide +kernel : decode (mBc 211) 19 = .ok (.ifCond .lt 12, 3)) rfl rfl
theorem s211_22 : mSnd 211 22 (a_iload 23 3) := snd_iload_n (by decide +kernel : decode (mBc 211) 22 = .ok (.iload_n 3, 1)) rfl rfl
theorem s211_23 : mSnd 211 23 (a_push 25 (.int (iZ 40))) := snd_bipush (by decide +kernel : decode (mBc 211) 23 = .ok (.bipush 40, 2)) (by decide +kernel) rfl
theorem s211_25 : mSnd 211 25 (a_icmp 28 31 (fun x y => decide (x ≤ y))) := snd_icmp_le (by decide +kernel : decode (mBc 211) 25 = .ok (.if_icmp .le 6, 3)) rfl rfl
theorem s211_28 : mSnd 211 28 (a_push 30 (.int (iZ (-2)))) := snd_bipush (by decide +kernel : decode (mBc 211) 28 = .ok (.bipush (-2), 2)) (by decide +kernel) rfl
theorem s211_30 : mSnd 211 30 (a_iret 0 0) := snd_iret rfl rfl rfl (by decide +kernel : decode (mBc 211) 30 = .ok (.ireturn, 1))
theorem s211_31 : mSnd 211 31 (a_iload 32 2) := snd_iload_n (by decide +kernel : decode (mBc 211) 31 = .ok (.iload_n 2, 1)) rfl rfl
theorem s211_32 : mSnd 211 32 (a_if 35 42 (fun x => decide (x < 0))) := snd_if_lt (by decide +kernel : decode (mBc 211) 32 = .ok (.ifCond .lt 10, 3)) rfl rfl
theorem s211_35 : mSnd 211 35 (a_iload 36 3) := snd_iload_n (by decide +kernel : decode (mBc 211) 35 = .ok (.iload_n 3, 1)) rfl rfl
theorem s211_36 : mSnd 211 36 (a_if 39 42 (fun x => decide (0 ≤ x))) := snd_if_ge (by decide +kernel : decode (mBc 211) 36 = .ok (.ifCond .ge 6, 3)) rfl rfl
theorem s211_39 : mSnd 211 39 (a_push 41 (.int (iZ (-14)))) := snd_bipush (by decide +kernel : decode (mBc 211) 39 = .ok (.bipush (-14), 2)) (by decide +kernel) rfl
theorem s211_41 : mSnd 211 41 (a_iret 0 0) := snd_iret rfl rfl rfl (by decide +kernel : decode (mBc 211) 41 = .ok (.ireturn, 1))
theorem s211_42 : mSnd 211 42 (a_aload 43 0) := snd_aload_n (by decide +kernel : decode (mBc 211) 42 = .ok (.aload_n 0, 1)) rfl rfl
theorem s211_43 : mSnd 211 43 (a_getf 46 17 [10]) := snd_getf f44 q919 (Or.inl rfl) (by decide +kernel : decode (mBc 211) 43 = .ok (.getfield 64, 3)) rfl
theorem s211_46 : mSnd 211 46 (a_iload 47 1) := snd_iload_n (by decide +kernel : decode (mBc 211) 46 = .ok (.iload_n 1, 1)) rfl rfl
theorem s211_47 : mSnd 211 47 (a_iload 48 2) := snd_iload_n (by decide +kernel : decode (mBc 211) 47 = .ok (.iload_n 2, 1)) rfl rfl
theorem s211_48 : mSnd 211 48 (a_iast 49) := snd_iast (by decide +kernel : decode (mBc 211) 48 = .ok (.iastore, 1)) rfl
theorem s211_49 : mSnd 211 49 (a_aload 50 0) := snd_aload_n (by decide +kernel : decode (mBc 211) 49 = .ok (.aload_n 0, 1)) rfl rfl
theorem s211_50 : mSnd 211 50 (a_getf 53 18 [10]) := snd_getf f45 q920 (Or.inl rfl) (by decide +kernel : decode (mBc 211) 50 = .ok (.getfield 67, 3)) rfl
theorem s211_53 : mSnd 211 53 (a_iload 54 1) := snd_iload_n (by decide +kernel : decode (mBc 211) 53 = .ok (.iload_n 1, 1)) rfl rfl
theorem s211_54 : mSnd 211 54 (a_iload 55 2) := snd_iload_n (by decide +kernel : decode (mBc 211) 54 = .ok (.iload_n 2, 1)) rfl rfl
theorem s211_55 : mSnd 211 55 (a_if 58 62 (fun x => decide (0 ≤ x))) := snd_if_ge (by decide +kernel : decode (mBc 211) 55 = .ok (.ifCond .ge 7, 3)) rfl rfl
theorem s211_58 : mSnd 211 58 (a_push 59 (.int (iZ 0))) := snd_iconst (by decide +kernel : decode (mBc 211) 58 = .ok (.iconst 0, 1)) rfl rfl
theorem s211_59 : mSnd 211 59 (a_goto 63) := snd_goto (by decide +kernel : decode (mBc 211) 59 = .ok (.goto 4, 3)) rfl
theorem s211_62 : mSnd 211 62 (a_iload 63 3) := snd_iload_n (by decide +kernel : decode (mBc 211) 62 = .ok (.iload_n 3, 1)) rfl rfl
theorem s211_63 : mSnd 211 63 (a_iast 64) := snd_iast (by decide +kernel : decode (mBc 211) 63 = .ok (.iastore, 1)) rfl
theorem s211_64 : mSnd 211 64 (a_push 65 (.int (iZ 0))) := snd_iconst (by decide +kernel : decode (mBc 211) 64 = .ok (.iconst 0, 1)) rfl rfl
theorem s211_65 : mSnd 211 65 (a_istore 67 4) := snd_istore (by decide +kernel : decode (mBc 211) 65 = .ok (.istore 4, 2)) (by decide) rfl
theorem s211_67 : mSnd 211 67 (a_iload 69 4) := snd_iload (by decide +kernel : decode (mBc 211) 67 = .ok (.iload 4, 2)) rfl
theorem s211_69 : mSnd 211 69 (a_push 71 (.int (iZ 40))) := snd_bipush (by decide +kernel : decode (mBc 211) 69 = .ok (.bipush 40, 2)) (by decide +kernel) rfl
theorem s211_71 : mSnd 211 71 (a_icmp 74 93 (fun x y => decide (y ≤ x))) := snd_icmp_ge (by decide +kernel : decode (mBc 211) 71 = .ok (.if_icmp .ge 22, 3)) rfl rfl
theorem s211_74 : mSnd 211 74 (a_aload 75 0) := snd_aload_n (by decide +kernel : decode (mBc 211) 74 = .ok (.aload_n 0, 1)) rfl rfl
theorem s211_75 : mSnd 211 75 (a_getf 78 19 [10]) := snd_getf f46 q921 (Or.inl rfl) (by decide +kernel : decode (mBc 211) 75 = .ok (.getfield 70, 3)) rfl
theorem s211_78 : mSnd 211 78 (a_push 80 (.int (iZ 40))) := snd_bipush (by decide +kernel : decode (mBc 211) 78 = .ok (.bipush 40, 2)) (by decide +kernel) rfl
theorem s211_80 : mSnd 211 80 (a_iload 81 1) := snd_iload_n (by decide +kernel : decode (mBc 211) 80 = .ok (.iload_n 1, 1)) rfl rfl
theorem s211_81 : mSnd 211 81 (a_ii 82 (fun x y => x * y)) := snd_imul (by decide +kernel : decode (mBc 211) 81 = .ok (.imul, 1)) rfl
theorem s211_82 : mSnd 211 82 (a_iload 84 4) := snd_iload (by decide +kernel : decode (mBc 211) 82 = .ok (.iload 4, 2)) rfl
theorem s211_84 : mSnd 211 84 (a_ii 85 (fun x y => x + y)) := snd_iadd (by decide +kernel : decode (mBc 211) 84 = .ok (.iadd, 1)) rfl
theorem s211_85 : mSnd 211 85 (a_push 86 (.int (iZ 0))) := snd_iconst (by decide +kernel : decode (mBc 211) 85 = .ok (.iconst 0, 1)) rfl rfl
theorem s211_86 : mSnd 211 86 (a_iast 87) := snd_iast (by decide +kernel : decode (mBc 211) 86 = .ok (.iastore, 1)) rfl
theorem s211_87 : mSnd 211 87 (a_iinc 90 4 (iZ 1)) := snd_iinc (by decide +kernel : decode (mBc 211) 87 = .ok (.iinc 4 1, 3)) rfl (by decide) rfl
theorem s211_90 : mSnd 211 90 (a_goto 67) := snd_goto (by decide +kernel : decode (mBc 211) 90 = .ok (.goto (-23), 3)) rfl
theorem s211_93 : mSnd 211 93 (a_push 94 (.int (iZ 1))) := snd_iconst (by decide +kernel : decode (mBc 211) 93 = .ok (.iconst 1, 1)) rfl rfl
theorem s211_94 : mSnd 211 94 (a_iret 0 0) := snd_iret rfl rfl rfl (by decide +kernel : decode (mBc 211) 94 = .ok (.ireturn, 1))
theorem ok211 : mOkl2 211 ct211 := ⟨⟨s211_0, s211_1, s211_2, s211_5, s211_8, s211_9, s211_10, s211_11, s211_12, s211_15, s211_18, s211_19, trivial⟩, ⟨s211_22, s211_23, s211_25, s211_28, s211_30, s211_31, s211_32, s211_35, s211_36, s211_39, s211_41, s211_42, trivial⟩, ⟨s211_43, s211_46, s211_47, s211_48, s211_49, s211_50, s211_53, s211_54, s211_55, s211_58, s211_59, s211_62, trivial⟩, ⟨s211_63, s211_64, s211_65, s211_67, s211_69, s211_71, s211_74, s211_75, s211_78, s211_80, s211_81, s211_82, trivial⟩, ⟨s211_84, s211_85, s211_86, s211_87, s211_90, s211_93, s211_94, trivial⟩, trivial⟩
theorem s212_0 : mSnd 212 0 (a_aload 1 0) := snd_aload_n (by decide +kernel : decode (mBc 212) 0 = .ok (.aload_n 0, 1)) rfl rfl
theorem s212_1 : mSnd 212 1 (a_iload 2 1) := snd_iload_n (by decide +kernel : decode (mBc 212) 1 = .ok (.iload_n 1, 1)) rfl rfl
theorem s212_2 : mSnd 212 2 (a_invV 5 1 0 0 [(10, 210, 0, 0)]) := snd_invV v212_229 rfl rfl (by decide +kernel : decode (mBc 212) 2 = .ok (.invokevirtual 229, 3)) rfl
theorem s212_5 : mSnd 212 5 (a_if 8 11 (fun x => decide (¬ x = 0))) := snd_if_ne (by decide +kernel : decode (mBc 212) 5 = .ok (.ifCond .ne 6, 3)) rfl rfl
theorem s212_8 : mSnd 212 8 (a_push 10 (.int (iZ (-2)))) := snd_bipush (by decide +kernel : decode (mBc 212) 8 = .ok (.bipush (-2), 2)) (by decide +kernel) rfl
theorem s212_10 : mSnd 212 10 (a_iret 0 0) := snd_iret rfl rfl rfl (by decide +kernel : decode (mBc 212) 10 = .ok (.ireturn, 1))
theorem s212_11 : mSnd 212 11 (a_aload 12 0) := snd_aload_n (by decide +kernel : decode (mBc 212) 11 = .ok (.aload_n 0, 1)) rfl rfl
theorem s212_12 : mSnd 212 12 (a_getf 15 17 [10]) := snd_getf f44 q919 (Or.inl rfl) (by decide +kernel : decode (mBc 212) 12 = .ok (.getfield 64, 3)) rfl
theorem s212_15 : mSnd 212 15 (a_iload 16 1) := snd_iload_n (by decide +kernel : decode (mBc 212) 15 = .ok (.iload_n 1, 1)) rfl rfl
theorem s212_16 : mSnd 212 16 (a_iald 17) := snd_iald (by decide +kernel : decode (mBc 212) 16 = .ok (.iaload, 1)) rfl
theorem s212_17 : mSnd 212 17 (a_if 20 23 (fun x => decide (0 ≤ x))) := snd_if_ge (by decide +kernel : decode (mBc 212) 17 = .ok (.ifCond .ge 6, 3)) rfl rfl
theorem s212_20 : mSnd 212 20 (a_push 22 (.int (iZ (-11)))) := snd_bipush (by decide +kernel : decode (mBc 212) 20 = .ok (.bipush (-11), 2)) (by decide +kernel) rfl
theorem s212_22 : mSnd 212 22 (a_iret 0 0) := snd_iret rfl rfl rfl (by decide +kernel : decode (mBc 212) 22 = .ok (.ireturn, 1))
theorem s212_23 : mSnd 212 23 (a_aload 24 0) := snd_aload_n (by decide +kernel : decode (mBc 212) 23 = .ok (.aload_n 0, 1)) rfl rfl
theorem s212_24 : mSnd 212 24 (a_iload 25 2) := snd_iload_n (by decide +kernel : decode (mBc 212) 24 = .ok (.iload_n 2, 1)) rfl rfl
theorem s212_25 : mSnd 212 25 (a_push 26 (.int (iZ 0))) := snd_iconst (by decide +kernel : decode (mBc 212) 25 = .ok (.iconst 0, 1)) rfl rfl
theorem s212_26 : mSnd 212 26 (a_aload 27 0) := snd_aload_n (by decide +kernel : decode (mBc 212) 26 = .ok (.aload_n 0, 1)) rfl rfl
theorem s212_27 : mSnd 212 27 (a_getf 30 18 [10]) := snd_getf f45 q920 (Or.inl rfl) (by decide +kernel : decode (mBc 212) 27 = .ok (.getfield 67, 3)) rfl
theorem s212_30 : mSnd 212 30 (a_iload 31 1) := snd_iload_n (by decide +kernel : decode (mBc 212) 30 = .ok (.iload_n 1, 1)) rfl rfl
theorem s212_31 : mSnd 212 31 (a_iald 32) := snd_iald (by decide +kernel : decode (mBc 212) 31 = .ok (.iaload, 1)) rfl
theorem s212_32 : mSnd 212 32 (a_push 33 (.int (iZ 1))) := snd_iconst (by decide +kernel : decode (mBc 212) 32 = .ok (.iconst 1, 1)) rfl rfl
theorem s212_33 : mSnd 212 33 (a_ii 34 (fun x y => x - y)) := snd_isub (by decide +kernel : decode (mBc 212) 33 = .ok (.isub, 1)) rfl
theorem s212_34 : mSnd 212 34 (a_invV 37 3 0 0 [(10, 137, 0, 0)]) := snd_invV v212_76 rfl rfl (by decide +kernel : decode (mBc 212) 34 = .ok (.invokevirtual 76, 3)) rfl
theorem s212_37 : mSnd 212 37 (a_if 40 43 (fun x => decide (¬ x = 0))) := snd_if_ne (by decide +kernel : decode (mBc 212) 37 = .ok (.ifCond .ne 6, 3)) rfl rfl
theorem s212_40 : mSnd 212 40 (a_push 42 (.int (iZ (-12)))) := snd_bipush (by decide +kernel : decode (mBc 212) 40 = .ok (.bipush (-12), 2)) (by decide +kernel) rfl
theorem s212_42 : mSnd 212 42 (a_iret 0 0) := snd_iret rfl rfl rfl (by decide +kernel : decode (mBc 212) 42 = .ok (.ireturn, 1))
theorem s212_43 : mSnd 212 43 (a_aload 44 0) := snd_aload_n (by decide +kernel : decode (mBc 212) 43 = .ok (.aload_n 0, 1)) rfl rfl
theorem s212_44 : mSnd 212 44 (a_getf 47 19 [10]) := snd_getf f46 q921 (Or.inl rfl) (by decide +kernel : decode (mBc 212) 44 = .ok (.getfield 70, 3)) rfl
theorem s212_47 : mSnd 212 47 (a_push 49 (.int (iZ 40))) := snd_bipush (by decide +kernel : decode (mBc 212) 47 = .ok (.bipush 40, 2)) (by decide +kernel) rfl
theorem s212_49 : mSnd 212 49 (a_iload 50 1) := snd_iload_n (by decide +kernel : decode (mBc 212) 49 = .ok (.iload_n 1, 1)) rfl rfl
theorem s212_50 : mSnd 212 50 (a_ii 51 (fun x y => x * y)) := snd_imul (by decide +kernel : decode (mBc 212) 50 = .ok (.imul, 1)) rfl
theorem s212_51 : mSnd 212 51 (a_iload 52 2) := snd_iload_n (by decide +kernel : decode (mBc 212) 51 = .ok (.iload_n 2, 1)) rfl rfl
theorem s212_52 : mSnd 212 52 (a_ii 53 (fun x y => x + y)) := snd_iadd (by decide +kernel : decode (mBc 212) 52 = .ok (.iadd, 1)) rfl
theorem s212_53 : mSnd 212 53 (a_aload 54 0) := snd_aload_n (by decide +kernel : decode (mBc 212) 53 = .ok (.aload_n 0, 1)) rfl rfl
theorem s212_54 : mSnd 212 54 (a_getf 57 17 [10]) := snd_getf f44 q919 (Or.inl rfl) (by decide +kernel : decode (mBc 212) 54 = .ok (.getfield 64, 3)) rfl
theorem s212_57 : mSnd 212 57 (a_iload 58 1) := snd_iload_n (by decide +kernel : decode (mBc 212) 57 = .ok (.iload_n 1, 1)) rfl rfl
theorem s212_58 : mSnd 212 58 (a_iald 59) := snd_iald (by decide +kernel : decode (mBc 212) 58 = .ok (.iaload, 1)) rfl
theorem s212_59 : mSnd 212 59 (a_if 62 67 (fun x => decide (¬ x = 0))) := snd_if_ne (by decide +kernel : decode (mBc 212) 59 = .ok (.ifCond .ne 8, 3)) rfl rfl
theorem s212_62 : mSnd 212 62 (a_iload 63 3) := snd_iload_n (by decide +kernel : decode (mBc 212) 62 = .ok (.iload_n 3, 1)) rfl rfl
theorem s212_63 : mSnd 212 63 (a_i 64 (fun x => x.toInt8.toInt32)) := snd_i2b (by decide +kernel : decode (mBc 212) 63 = .ok (.i2b, 1)) rfl
theorem s212_64 : mSnd 212 64 (a_goto 68) := snd_goto (by decide +kernel : decode (mBc 212) 64 = .ok (.goto 4, 3)) rfl
theorem s212_67 : mSnd 212 67 (a_iload 68 3) := snd_iload_n (by decide +kernel : decode (mBc 212) 67 = .ok (.iload_n 3, 1)) rfl rfl
theorem s212_68 : mSnd 212 68 (a_iast 69) := snd_iast (by decide +kernel : decode (mBc 212) 68 = .ok (.iastore, 1)) rfl
theorem s212_69 : mSnd 212 69 (a_push 70 (.int (iZ 1))) := snd_iconst (by decide +kernel : decode (mBc 212) 69 = .ok (.iconst 1, 1)) rfl rfl
theorem s212_70 : mSnd 212 70 (a_iret 0 0) := snd_iret rfl rfl rfl (by decide +kernel : decode (mBc 212) 70 = .ok (.ireturn, 1))
theorem ok212 : mOkl2 212 ct212 := ⟨⟨s212_0, s212_1, s212_2, s212_5, s212_8, s212_10, s212_11, s212_12, s212_15, s212_16, s212_17, s212_20, trivial⟩, ⟨s212_22, s212_23, s212_24, s212_25, s212_26, s212_27, s212_30, s212_31, s212_32, s212_33, s212_34, s212_37, trivial⟩, ⟨s212_40, s212_42, s212_43, s212_44, s212_47, s212_49, s212_50, s212_51, s212_52, s212_53, s212_54, s212_57, trivial⟩, ⟨s212_58, s212_59, s212_62, s212_63, s212_64, s212_67, s212_68, s212_69, s212_70, trivial⟩, trivial⟩
theorem s213_0 : mSnd 213 0 (a_aload 1 0) := snd_aload_n (by decide +kernel : decode (mBc 213) 0 = .ok (.aload_n 0, 1)) rfl rfl
theorem s213_1 : mSnd 213 1 (a_iload 2 1) := snd_iload_n (by decide +kernel : decode (mBc 213) 1 = .ok (.iload_n 1, 1)) rfl rfl
theorem s213_2 : mSnd 213 2 (a_invV 5 1 0 0 [(10, 138, 0, 0)]) := snd_invV v213_92 rfl rfl (by decide +kernel : decode (mBc 213) 2 = .ok (.invokevirtual 92, 3)) rfl
theorem s213_5 : mSnd 213 5 (a_if 8 26 (fun x => decide (x = 0))) := snd_if_eq (by decide +kernel : decode (mBc 213) 5 = .ok (.ifCond .eq 21, 3)) rfl rfl
theorem s213_8 : mSnd 213 8 (a_aload 9 0) := snd_aload_n (by decide +kernel : decode (mBc 213) 8 = .ok (.aload_n 0, 1)) rfl rfl
theorem s213_9 : mSnd 213 9 (a_iload 10 2) := snd_iload_n (by decide +kernel : decode (mBc 213) 9 = .ok (.iload_n 2, 1)) rfl rfl
theorem s213_10 : mSnd 213 10 (a_invV 13 1 0 0 [(10, 210, 0, 0)]) := snd_invV v213_229 rfl rfl (by decide +kernel : decode (mBc 213) 10 = .ok (.invokevirtual 229, 3)) rfl
theorem s213_13 : mSnd 213 13 (a_if 16 26 (fun x => decide (x = 0))) := snd_if_eq (by decide +kernel : decode (mBc 213) 13 = .ok (.ifCond .eq 13, 3)) rfl rfl
theorem s213_16 : mSnd 213 16 (a_aload 17 0) := snd_aload_n (by decide +kernel : decode (mBc 213) 16 = .ok (.aload_n 0, 1)) rfl rfl
theorem s213_17 : mSnd 213 17 (a_iload 18 3) := snd_iload_n (by decide +kernel : decode (mBc 213) 17 = .ok (.iload_n 3, 1)) rfl rfl
theorem s213_18 : mSnd 213 18 (a_push 19 (.int (iZ 0))) := snd_iconst (by decide +kernel : decode (mBc 213) 18 = .ok (.iconst 0, 1)) rfl rfl
theorem s213_19 : mSnd 213 19 (a_push 20 (.int (iZ 2))) := snd_iconst (by decide +kernel : decode (mBc 213) 19 = .ok (.iconst 2, 1)) rfl rfl
theorem s213_20 : mSnd 213 20 (a_invV 23 3 0 0 [(10, 137, 0, 0)]) := snd_invV v213_76 rfl rfl (by decide +kernel : decode (mBc 213) 20 = .ok (.invokevirtual 76, 3)) rfl
theorem s213_23 : mSnd 213 23 (a_if 26 29 (fun x => decide (¬ x = 0))) := snd_if_ne (by decide +kernel : decode (mBc 213) 23 = .ok (.ifCond .ne 6, 3)) rfl rfl
theorem s213_26 : mSnd 213 26 (a_push 28 (.int (iZ (-2)))) := snd_bipush (by decide +kernel : decode (mBc 213) 26 = .ok (.bipush (-2), 2)) (by decide +kernel) rfl
theorem s213_28 : mSnd 213 28 (a_iret 0 0) := snd_iret rfl rfl rfl (by decide +kernel : decode (mBc 213) 28 = .ok (.ireturn, 1))
theorem s213_29 : mSnd 213 29 (a_aload 30 0) := snd_aload_n (by decide +kernel : decode (mBc 213) 29 = .ok (.aload_n 0, 1)) rfl rfl
theorem s213_30 : mSnd 213 30 (a_getf 33 1 [10]) := snd_getf f28 q903 (Or.inl rfl) (by decide +kernel : decode (mBc 213) 30 = .ok (.getfield 13, 3)) rfl
theorem s213_33 : mSnd 213 33 (a_iload 34 1) := snd_iload_n (by decide +kernel : decode (mBc 213) 33 = .ok (.iload_n 1, 1)) rfl rfl
theorem s213_34 : mSnd 213 34 (a_iald 35) := snd_iald (by decide +kernel : decode (mBc 213) 34 = .ok (.iaload, 1)) rfl
theorem s213_35 : mSnd 213 35 (a_if 38 41 (fun x => decide (x = 0))) := snd_if_eq (by decide +kernel : decode (mBc 213) 35 = .ok (.ifCond .eq 6, 3)) rfl rfl
theorem s213_38 : mSnd 213 38 (a_push 40 (.int (iZ (-3)))) := snd_bipush (by decide +kernel : decode (mBc 213) 38 = .ok (.bipush (-3), 2)) (by decide +kernel) rfl
theorem s213_40 : mSnd 213 40 (a_iret 0 0) := snd_iret rfl rfl rfl (by decide +kernel : decode (mBc 213) 40 = .ok (.ireturn, 1))
theorem s213_41 : mSnd 213 41 (a_aload 42 0) := snd_aload_n (by decide +kernel : decode (mBc 213) 41 = .ok (.aload_n 0, 1)) rfl rfl
theorem s213_42 : mSnd 213 42 (a_getf 45 17 [10]) := snd_getf f44 q919 (Or.inl rfl) (by decide +kernel : decode (mBc 213) 42 = .ok (.getfield 64, 3)) rfl
theorem s213_45 : mSnd 213 45 (a_iload 46 2) := snd_iload_n (by decide +kernel : decode (mBc 213) 45 = .ok (.iload_n 2, 1)) rfl rfl
theorem s213_46 : mSnd 213 46 (a_iald 47) := snd_iald (by decide +kernel : decode (mBc 213) 46 = .ok (.iaload, 1)) rfl
theorem s213_47 : mSnd 213 47 (a_if 50 63 (fun x => decide (x < 0))) := snd_if_lt (by decide +kernel : decode (mBc 213) 47 = .ok (.ifCond .lt 16, 3)) rfl rfl
theorem s213_50 : mSnd 213 50 (a_aload 51 0) := snd_aload_n (by decide +kernel : decode (mBc 213) 50 = .ok (.aload_n 0, 1)) rfl rfl
theorem s213_51 : mSnd 213 51 (a_getf 54 17 [10]) := snd_getf f44 q919 (Or.inl rfl) (by decide +kernel : decode (mBc 213) 51 = .ok (.getfield 64, 3)) rfl
theorem s213_54 : mSnd 213 54 (a_iload 55 2) := snd_iload_n (by decide +kernel : decode (mBc 213) 54 = .ok (.iload_n 2, 1)) rfl rfl
theorem s213_55 : mSnd 213 55 (a_iald 56) := snd_iald (by decide +kernel : decode (mBc 213) 55 = .ok (.iaload, 1)) rfl
theorem s213_56 : mSnd 213 56 (a_iload 57 3) := snd_iload_n (by decide +kernel : decode (mBc 213) 56 = .ok (.iload_n 3, 1)) rfl rfl
theorem s213_57 : mSnd 213 57 (a_icmp 60 63 (fun x y => decide (x = y))) := snd_icmp_eq (by decide +kernel : decode (mBc 213) 57 = .ok (.if_icmp .eq 6, 3)) rfl rfl
theorem s213_60 : mSnd 213 60 (a_push 62 (.int (iZ (-13)))) := snd_bipush (by decide +kernel : decode (mBc 213) 60 = .ok (.bipush (-13), 2)) (by decide +kernel) rfl
theorem s213_62 : mSnd 213 62 (a_iret 0 0) := snd_iret rfl rfl rfl (by decide +kernel : decode (mBc 213) 62 = .ok (.ireturn, 1))
theorem s213_63 : mSnd 213 63 (a_aload 64 0) := snd_aload_n (by decide +kernel : decode (mBc 213) 63 = .ok (.aload_n 0, 1)) rfl rfl
theorem s213_64 : mSnd 213 64 (a_getf 67 17 [10]) := snd_getf f44 q919 (Or.inl rfl) (by decide +kernel : decode (mBc 213) 64 = .ok (.getfield 64, 3)) rfl
theorem s213_67 : mSnd 213 67 (a_iload 68 2) := snd_iload_n (by decide +kernel : decode (mBc 213) 67 = .ok (.iload_n 2, 1)) rfl rfl
theorem s213_68 : mSnd 213 68 (a_iald 69) := snd_iald (by decide +kernel : decode (mBc 213) 68 = .ok (.iaload, 1)) rfl
theorem s213_69 : mSnd 213 69 (a_if 72 75 (fun x => decide (0 ≤ x))) := snd_if_ge (by decide +kernel : decode (mBc 213) 69 = .ok (.ifCond .ge 6, 3)) rfl rfl
theorem s213_72 : mSnd 213 72 (a_push 74 (.int (iZ (-11)))) := snd_bipush (by decide +kernel : decode (mBc 213) 72 = .ok (.bipush (-11), 2)) (by decide +kernel) rfl
theorem s213_74 : mSnd 213 74 (a_iret 0 0) := snd_iret rfl rfl rfl (by decide +kernel : decode (mBc 213) 74 = .ok (.ireturn, 1))
theorem s213_75 : mSnd 213 75 (a_iload 77 4) := snd_iload (by decide +kernel : decode (mBc 213) 75 = .ok (.iload 4, 2)) rfl
theorem s213_77 : mSnd 213 77 (a_if 80 97 (fun x => decide (x < 0))) := snd_if_lt (by decide +kernel : decode (mBc 213) 77 = .ok (.ifCond .lt 20, 3)) rfl rfl
theorem s213_80 : mSnd 213 80 (a_iload 82 4) := snd_iload (by decide +kernel : decode (mBc 213) 80 = .ok (.iload 4, 2)) rfl
theorem s213_82 : mSnd 213 82 (a_aload 83 0) := snd_aload_n (by decide +kernel : decode (mBc 213) 82 = .ok (.aload_n 0, 1)) rfl rfl
theorem s213_83 : mSnd 213 83 (a_getf 86 18 [10]) := snd_getf f45 q920 (Or.inl rfl) (by decide +kernel : decode (mBc 213) 83 = .ok (.getfield 67, 3)) rfl
theorem s213_86 : mSnd 213 86 (a_iload 87 2) := snd_iload_n (by decide +kernel : decode (mBc 213) 86 = .ok (.iload_n 2, 1)) rfl rfl
theorem s213_87 : mSnd 213 87 (a_iald 88) := snd_iald (by decide +kernel : decode (mBc 213) 87 = .ok (.iaload, 1)) rfl
theorem s213_88 : mSnd 213 88 (a_aload 89 0) := snd_aload_n (by decide +kernel : decode (mBc 213) 88 = .ok (.aload_n 0, 1)) rfl rfl
theorem s213_89 : mSnd 213 89 (a_iload 90 1) := snd_iload_n (by decide +kernel : decode (mBc 213) 89 = .ok (.iload_n 1, 1)) rfl rfl
theorem s213_90 : mSnd 213 90 (a_invV 93 1 0 0 [(10, 139, 0, 0)]) := snd_invV v213_80 rfl rfl (by decide +kernel : decode (mBc 213) 90 = .ok (.invokevirtual 80, 3)) rfl
theorem s213_93 : mSnd 213 93 (a_ii 94 (fun x y => x - y)) := snd_isub (by decide +kernel : decode (mBc 213) 93 = .ok (.isub, 1)) rfl
theorem s213_94 : mSnd 213 94 (a_icmp 97 100 (fun x y => decide (x ≤ y))) := snd_icmp_le (by decide +kernel : decode (mBc 213) 94 = .ok (.if_icmp .le 6, 3)) rfl rfl
theorem s213_97 : mSnd 213 97 (a_push 99 (.int (iZ (-12)))) := snd_bipush (by decide +kernel : decode (mBc 213) 97 = .ok (.bipush (-12), 2)) (by decide +kernel) rfl
theorem s213_99 : mSnd 213 99 (a_iret 0 0) := snd_iret rfl rfl rfl (by decide +kernel : decode (mBc 213) 99 = .ok (.ireturn, 1))
theorem s213_100 : mSnd 213 100 (a_push 101 (.int (iZ 0))) := snd_iconst (by decide +kernel : decode (mBc 213) 100 = .ok (.iconst 0, 1)) rfl rfl
theorem s213_101 : mSnd 213 101 (a_istore 103 5) := snd_istore (by decide +kernel : decode (mBc 213) 101 = .ok (.istore 5, 2)) (by decide) rfl
theorem s213_103 : mSnd 213 103 (a_iload 105 5) := snd_iload (by decide +kernel : decode (mBc 213) 103 = .ok (.iload 5, 2)) rfl
theorem s213_105 : mSnd 213 105 (a_aload 106 0) := snd_aload_n (by decide +kernel : decode (mBc 213) 105 = .ok (.aload_n 0, 1)) rfl rfl
theorem s213_106 : mSnd 213 106 (a_iload 107 1) := snd_iload_n (by decide +kernel : decode (mBc 213) 106 = .ok (.iload_n 1, 1)) rfl rfl
theorem s213_107 : mSnd 213 107 (a_invV 110 1 0 0 [(10, 139, 0, 0)]) := snd_invV v213_80 rfl rfl (by decide +kernel : decode (mBc 213) 107 = .ok (.invokevirtual 80, 3)) rfl
theorem s213_110 : mSnd 213 110 (a_icmp 113 148 (fun x y => decide (y ≤ x))) := snd_icmp_ge (by decide +kernel : decode (mBc 213) 110 = .ok (.if_icmp .ge 38, 3)) rfl rfl
theorem s213_113 : mSnd 213 113 (a_aload 114 0) := snd_aload_n (by decide +kernel : decode (mBc 213) 113 = .ok (.aload_n 0, 1)) rfl rfl
theorem s213_114 : mSnd 213 114 (a_aload 115 0) := snd_aload_n (by decide +kernel : decode (mBc 213) 114 = .ok (.aload_n 0, 1)) rfl rfl
theorem s213_115 : mSnd 213 115 (a_getf 118 19 [10]) := snd_getf f46 q921 (Or.inl rfl) (by decide +kernel : decode (mBc 213) 115 = .ok (.getfield 70, 3)) rfl
theorem s213_118 : mSnd 213 118 (a_push 120 (.int (iZ 40))) := snd_bipush (by decide +kernel : decode (mBc 213) 118 = .ok (.bipush 40, 2)) (by decide +kernel) rfl
theorem s213_120 : mSnd 213 120 (a_iload 121 2) := snd_iload_n (by decide +kernel : decode (mBc 213) 120 = .ok (.iload_n 2, 1)) rfl rfl
theorem s213_121 : mSnd 213 121 (a_ii 122 (fun x y => x * y)) := snd_imul (by decide +kernel : decode (mBc 213) 121 = .ok (.imul, 1)) rfl
theorem s213_122 : mSnd 213 122 (a_iload 124 4) := snd_iload (by decide +kernel : decode (mBc 213) 122 = .ok (.iload 4, 2)) rfl
theorem s213_124 : mSnd 213 124 (a_ii 125 (fun x y => x + y)) := snd_iadd (by decide +kernel : decode (mBc 213) 124 = .ok (.iadd, 1)) rfl
theorem s213_125 : mSnd 213 125 (a_iload 127 5) := snd_iload (by decide +kernel : decode (mBc 213) 125 = .ok (.iload 5, 2)) rfl
theorem s213_127 : mSnd 213 127 (a_ii 128 (fun x y => x + y)) := snd_iadd (by decide +kernel : decode (mBc 213) 127 = .ok (.iadd, 1)) rfl
theorem s213_128 : mSnd 213 128 (a_iald 129) := snd_iald (by decide +kernel : decode (mBc 213) 128 = .ok (.iaload, 1)) rfl
theorem s213_129 : mSnd 213 129 (a_push 131 (.int (iZ (-100)))) := snd_bipush (by decide +kernel : decode (mBc 213) 129 = .ok (.bipush (-100), 2)) (by decide +kernel) rfl
theorem s213_131 : mSnd 213 131 (a_push 133 (.int (iZ 100))) := snd_bipush (by decide +kernel : decode (mBc 213) 131 = .ok (.bipush 100, 2)) (by decide +kernel) rfl
theorem s213_133 : mSnd 213 133 (a_invV 136 3 0 0 [(10, 137, 0, 0)]) := snd_invV v213_76 rfl rfl (by decide +kernel : decode (mBc 213) 133 = .ok (.invokevirtual 76, 3)) rfl
theorem s213_136 : mSnd 213 136 (a_if 139 142 (fun x => decide (¬ x = 0))) := snd_if_ne (by decide +kernel : decode (mBc 213) 136 = .ok (.ifCond .ne 6, 3)) rfl rfl
theorem s213_139 : mSnd 213 139 (a_push 141 (.int (iZ (-2)))) := snd_bipush (by decide +kernel : decode (mBc 213) 139 = .ok (.bipush (-2), 2)) (by decide +kernel) rfl
theorem s213_141 : mSnd 213 141 (a_iret 0 0) := snd_iret rfl rfl rfl (by decide +kernel : decode (mBc 213) 141 = .ok (.ireturn, 1))
theorem s213_142 : mSnd 213 142 (a_iinc 145 5 (iZ 1)) := snd_iinc (by decide +kernel : decode (mBc 213) 142 = .ok (.iinc 5 1, 3)) rfl (by decide) rfl
theorem s213_145 : mSnd 213 145 (a_goto 103) := snd_goto (by decide +kernel : decode (mBc 213) 145 = .ok (.goto (-42), 3)) rfl
theorem s213_148 : mSnd 213 148 (a_push 149 (.int (iZ 0))) := snd_iconst (by decide +kernel : decode (mBc 213) 148 = .ok (.iconst 0, 1)) rfl rfl
theorem s213_149 : mSnd 213 149 (a_istore 151 5) := snd_istore (by decide +kernel : decode (mBc 213) 149 = .ok (.istore 5, 2)) (by decide) rfl
theorem s213_151 : mSnd 213 151 (a_iload 153 5) := snd_iload (by decide +kernel : decode (mBc 213) 151 = .ok (.iload 5, 2)) rfl
theorem s213_153 : mSnd 213 153 (a_aload 154 0) := snd_aload_n (by decide +kernel : decode (mBc 213) 153 = .ok (.aload_n 0, 1)) rfl rfl
theorem s213_154 : mSnd 213 154 (a_iload 155 1) := snd_iload_n (by decide +kernel : decode (mBc 213) 154 = .ok (.iload_n 1, 1)) rfl rfl
theorem s213_155 : mSnd 213 155 (a_invV 158 1 0 0 [(10, 139, 0, 0)]) := snd_invV v213_80 rfl rfl (by decide +kernel : decode (mBc 213) 155 = .ok (.invokevirtual 80, 3)) rfl
theorem s213_158 : mSnd 213 158 (a_icmp 161 197 (fun x y => decide (y ≤ x))) := snd_icmp_ge (by decide +kernel : decode (mBc 213) 158 = .ok (.if_icmp .ge 39, 3)) rfl rfl
theorem s213_161 : mSnd 213 161 (a_aload 162 0) := snd_aload_n (by decide +kernel : decode (mBc 213) 161 = .ok (.aload_n 0, 1)) rfl rfl
theorem s213_162 : mSnd 213 162 (a_getf 165 3 [10]) := snd_getf f30 q905 (Or.inl rfl) (by decide +kernel : decode (mBc 213) 162 = .ok (.getfield 20, 3)) rfl
theorem s213_165 : mSnd 213 165 (a_push 167 (.int (iZ 16))) := snd_bipush (by decide +kernel : decode (mBc 213) 165 = .ok (.bipush 16, 2)) (by decide +kernel) rfl
theorem s213_167 : mSnd 213 167 (a_iload 168 1) := snd_iload_n (by decide +kernel : decode (mBc 213) 167 = .ok (.iload_n 1, 1)) rfl rfl
theorem s213_168 : mSnd 213 168 (a_ii 169 (fun x y => x * y)) := snd_imul (by decide +kernel : decode (mBc 213) 168 = .ok (.imul, 1)) rfl
theorem s213_169 : mSnd 213 169 (a_iload 171 5) := snd_iload (by decide +kernel : decode (mBc 213) 169 = .ok (.iload 5, 2)) rfl
theorem s213_171 : mSnd 213 171 (a_ii 172 (fun x y => x + y)) := snd_iadd (by decide +kernel : decode (mBc 213) 171 = .ok (.iadd, 1)) rfl
theorem s213_172 : mSnd 213 172 (a_push 173 (.int (iZ 1))) := snd_iconst (by decide +kernel : decode (mBc 213) 172 = .ok (.iconst 1, 1)) rfl rfl
theorem s213_173 : mSnd 213 173 (a_ii 174 (fun x y => x + y)) := snd_iadd (by decide +kernel : decode (mBc 213) 173 = .ok (.iadd, 1)) rfl
theorem s213_174 : mSnd 213 174 (a_aload 175 0) := snd_aload_n (by decide +kernel : decode (mBc 213) 174 = .ok (.aload_n 0, 1)) rfl rfl
theorem s213_175 : mSnd 213 175 (a_getf 178 19 [10]) := snd_getf f46 q921 (Or.inl rfl) (by decide +kernel : decode (mBc 213) 175 = .ok (.getfield 70, 3)) rfl
theorem s213_178 : mSnd 213 178 (a_push 180 (.int (iZ 40))) := snd_bipush (by decide +kernel : decode (mBc 213) 178 = .ok (.bipush 40, 2)) (by decide +kernel) rfl
theorem s213_180 : mSnd 213 180 (a_iload 181 2) := snd_iload_n (by decide +kernel : decode (mBc 213) 180 = .ok (.iload_n 2, 1)) rfl rfl
theorem s213_181 : mSnd 213 181 (a_ii 182 (fun x y => x * y)) := snd_imul (by decide +kernel : decode (mBc 213) 181 = .ok (.imul, 1)) rfl
theorem s213_182 : mSnd 213 182 (a_iload 184 4) := snd_iload (by decide +kernel : decode (mBc 213) 182 = .ok (.iload 4, 2)) rfl
theorem s213_184 : mSnd 213 184 (a_ii 185 (fun x y => x + y)) := snd_iadd (by decide +kernel : decode (mBc 213) 184 = .ok (.iadd, 1)) rfl
theorem s213_185 : mSnd 213 185 (a_iload 187 5) := snd_iload (by decide +kernel : decode (mBc 213) 185 = .ok (.iload 5, 2)) rfl
theorem s213_187 : mSnd 213 187 (a_ii 188 (fun x y => x + y)) := snd_iadd (by decide +kernel : decode (mBc 213) 187 = .ok (.iadd, 1)) rfl
theorem s213_188 : mSnd 213 188 (a_iald 189) := snd_iald (by decide +kernel : decode (mBc 213) 188 = .ok (.iaload, 1)) rfl
theorem s213_189 : mSnd 213 189 (a_i2l 190) := snd_i2l (by decide +kernel : decode (mBc 213) 189 = .ok (.i2l, 1)) rfl
theorem s213_190 : mSnd 213 190 (a_last 191) := snd_last (by decide +kernel : decode (mBc 213) 190 = .ok (.lastore, 1)) rfl
theorem s213_191 : mSnd 213 191 (a_iinc 194 5 (iZ 1)) := snd_iinc (by decide +kernel : decode (mBc 213) 191 = .ok (.iinc 5 1, 3)) rfl (by decide) rfl
theorem s213_194 : mSnd 213 194 (a_goto 151) := snd_goto (by decide +kernel : decode (mBc 213) 194 = .ok (.goto (-43), 3)) rfl
theorem s213_197 : mSnd 213 197 (a_push 198 (.int (iZ 1))) := snd_iconst (by decide +kernel : decode (mBc 213) 197 = .ok (.iconst 1, 1)) rfl rfl
theorem s213_198 : mSnd 213 198 (a_iret 0 0) := snd_iret rfl rfl rfl (by decide +kernel : decode (mBc 213) 198 = .ok (.ireturn, 1))
theorem ok213 : mOkl2 213 ct213 := ⟨⟨s213_0, s213_1, s213_2, s213_5, s213_8, s213_9, s213_10, s213_13, s213_16, s213_17, s213_18, s213_19, trivial⟩, ⟨s213_20, s213_23, s213_26, s213_28, s213_29, s213_30, s213_33, s213_34, s213_35, s213_38, s213_40, s213_41, trivial⟩, ⟨s213_42, s213_45, s213_46, s213_47, s213_50, s213_51, s213_54, s213_55, s213_56, s213_57, s213_60, s213_62, trivial⟩, ⟨s213_63, s213_64, s213_67, s213_68, s213_69, s213_72, s213_74, s213_75, s213_77, s213_80, s213_82, s213_83, trivial⟩, ⟨s213_86, s213_87, s213_88, s213_89, s213_90, s213_93, s213_94, s213_97, s213_99, s213_100, s213_101, s213_103, trivial⟩, ⟨s213_105, s213_106, s213_107, s213_110, s213_113, s213_114, s213_115, s213_118, s213_120, s213_121, s213_122, s213_124, trivial⟩, ⟨s213_125, s213_127, s213_128, s213_129, s213_131, s213_133, s213_136, s213_139, s213_141, s213_142, s213_145, s213_148, trivial⟩, ⟨s213_149, s213_151, s213_153, s213_154, s213_155, s213_158, s213_161, s213_162, s213_165, s213_167, s213_168, s213_169, trivial⟩, ⟨s213_171, s213_172, s213_173, s213_174, s213_175, s213_178, s213_180, s213_181, s213_182, s213_184, s213_185, s213_187, trivial⟩, ⟨s213_188, s213_189, s213_190, s213_191, s213_194, s213_197, s213_198, trivial⟩, trivial⟩
theorem s214_0 : mSnd 214 0 (a_aload 1 0) := snd_aload_n (by decide +kernel : decode (mBc 214) 0 = .ok (.aload_n 0, 1)) rfl rfl
theorem s214_1 : mSnd 214 1 (a_iload 2 1) := snd_iload_n (by decide +kernel : decode (mBc 214) 1 = .ok (.iload_n 1, 1)) rfl rfl
theorem s214_2 : mSnd 214 2 (a_invV 5 1 0 0 [(10, 210, 0, 0)]) := snd_invV v214_229 rfl rfl (by decide +kernel : decode (mBc 214) 2 = .ok (.invokevirtual 229, 3)) rfl
theorem s214_5 : mSnd 214 5 (a_if 8 16 (fun x => decide (x = 0))) := snd_if_eq (by decide +kernel : decode (mBc 214) 5 = .ok (.ifCond .eq 11, 3)) rfl rfl
theorem s214_8 : mSnd 214 8 (a_aload 9 0) := snd_aload_n (by decide +kernel : decode (mBc 214) 8 = .ok (.aload_n 0, 1)) rfl rfl
theorem s214_9 : mSnd 214 9 (a_iload 10 3) := snd_iload_n (by decide +kernel : decode (mBc 214) 9 = .ok (.iload_n 3, 1)) rfl rfl
theorem s214_10 : mSnd 214 10 (a_invV 13 1 0 0 [(10, 210, 0, 0)]) := snd_invV v214_229 rfl rfl (by decide +kernel : decode (mBc 214) 10 = .ok (.invokevirtual 229, 3)) rfl
theorem s214_13 : mSnd 214 13 (a_if 16 19 (fun x => decide (¬ x = 0))) := snd_if_ne (by decide +kernel : decode (mBc 214) 13 = .ok (.ifCond .ne 6, 3)) rfl rfl
theorem s214_16 : mSnd 214 16 (a_push 18 (.int (iZ (-2)))) := snd_bipush (by decide +kernel : decode (mBc 214) 16 = .ok (.bipush (-2), 2)) (by decide +kernel) rfl
theorem s214_18 : mSnd 214 18 (a_iret 0 0) := snd_iret rfl rfl rfl (by decide +kernel : decode (mBc 214) 18 = .ok (.ireturn, 1))
theorem s214_19 : mSnd 214 19 (a_aload 20 0) := snd_aload_n (by decide +kernel : decode (mBc 214) 19 = .ok (.aload_n 0, 1)) rfl rfl
theorem s214_20 : mSnd 214 20 (a_getf 23 17 [10]) := snd_getf f44 q919 (Or.inl rfl) (by decide +kernel : decode (mBc 214) 20 = .ok (.getfield 64, 3)) rfl
theorem s214_23 : mSnd 214 23 (a_iload 24 1) := snd_iload_n (by decide +kernel : decode (mBc 214) 23 = .ok (.iload_n 1, 1)) rfl rfl
theorem s214_24 : mSnd 214 24 (a_iald 25) := snd_iald (by decide +kernel : decode (mBc 214) 24 = .ok (.iaload, 1)) rfl
theorem s214_25 : mSnd 214 25 (a_if 28 37 (fun x => decide (x < 0))) := snd_if_lt (by decide +kernel : decode (mBc 214) 25 = .ok (.ifCond .lt 12, 3)) rfl rfl
theorem s214_28 : mSnd 214 28 (a_aload 29 0) := snd_aload_n (by decide +kernel : decode (mBc 214) 28 = .ok (.aload_n 0, 1)) rfl rfl
theorem s214_29 : mSnd 214 29 (a_getf 32 17 [10]) := snd_getf f44 q919 (Or.inl rfl) (by decide +kernel : decode (mBc 214) 29 = .ok (.getfield 64, 3)) rfl
theorem s214_32 : mSnd 214 32 (a_iload 33 3) := snd_iload_n (by decide +kernel : decode (mBc 214) 32 = .ok (.iload_n 3, 1)) rfl rfl
theorem s214_33 : mSnd 214 33 (a_iald 34) := snd_iald (by decide +kernel : decode (mBc 214) 33 = .ok (.iaload, 1)) rfl
theorem s214_34 : mSnd 214 34 (a_if 37 40 (fun x => decide (0 ≤ x))) := snd_if_ge (by decide +kernel : decode (mBc 214) 34 = .ok (.ifCond .ge 6, 3)) rfl rfl
theorem s214_37 : mSnd 214 37 (a_push 39 (.int (iZ (-11)))) := snd_bipush (by decide +kernel : decode (mBc 214) 37 = .ok (.bipush (-11), 2)) (by decide +kernel) rfl
theorem s214_39 : mSnd 214 39 (a_iret 0 0) := snd_iret rfl rfl rfl (by decide +kernel : decode (mBc 214) 39 = .ok (.ireturn, 1))
theorem s214_40 : mSnd 214 40 (a_aload 41 0) := snd_aload_n (by decide +kernel : decode (mBc 214) 40 = .ok (.aload_n 0, 1)) rfl rfl
theorem s214_41 : mSnd 214 41 (a_getf 44 17 [10]) := snd_getf f44 q919 (Or.inl rfl) (by decide +kernel : decode (mBc 214) 41 = .ok (.getfield 64, 3)) rfl
theorem s214_44 : mSnd 214 44 (a_iload 45 1) := snd_iload_n (by decide +kernel : decode (mBc 214) 44 = .ok (.iload_n 1, 1)) rfl rfl
theorem s214_45 : mSnd 214 45 (a_iald 46) := snd_iald (by decide +kernel : decode (mBc 214) 45 = .ok (.iaload, 1)) rfl
theorem s214_46 : mSnd 214 46 (a_aload 47 0) := snd_aload_n (by decide +kernel : decode (mBc 214) 46 = .ok (.aload_n 0, 1)) rfl rfl
theorem s214_47 : mSnd 214 47 (a_getf 50 17 [10]) := snd_getf f44 q919 (Or.inl rfl) (by decide +kernel : decode (mBc 214) 47 = .ok (.getfield 64, 3)) rfl
theorem s214_50 : mSnd 214 50 (a_iload 51 3) := snd_iload_n (by decide +kernel : decode (mBc 214) 50 = .ok (.iload_n 3, 1)) rfl rfl
theorem s214_51 : mSnd 214 51 (a_iald 52) := snd_iald (by decide +kernel : decode (mBc 214) 51 = .ok (.iaload, 1)) rfl
theorem s214_52 : mSnd 214 52 (a_icmp 55 58 (fun x y => decide (x = y))) := snd_icmp_eq (by decide +kernel : decode (mBc 214) 52 = .ok (.if_icmp .eq 6, 3)) rfl rfl
theorem s214_55 : mSnd 214 55 (a_push 57 (.int (iZ (-13)))) := snd_bipush (by decide +kernel : decode (mBc 214) 55 = .ok (.bipush (-13), 2)) (by decide +kernel) rfl
theorem s214_57 : mSnd 214 57 (a_iret 0 0) := snd_iret rfl rfl rfl (by decide +kernel : decode (mBc 214) 57 = .ok (.ireturn, 1))
theorem s214_58 : mSnd 214 58 (a_iload 60 5) := snd_iload (by decide +kernel : decode (mBc 214) 58 = .ok (.iload 5, 2)) rfl
theorem s214_60 : mSnd 214 60 (a_if 63 99 (fun x => decide (x < 0))) := snd_if_lt (by decide +kernel : decode (mBc 214) 60 = .ok (.ifCond .lt 39, 3)) rfl rfl
theorem s214_63 : mSnd 214 63 (a_iload 64 2) := snd_iload_n (by decide +kernel : decode (mBc 214) 63 = .ok (.iload_n 2, 1)) rfl rfl
theorem s214_64 : mSnd 214 64 (a_if 67 99 (fun x => decide (x < 0))) := snd_if_lt (by decide +kernel : decode (mBc 214) 64 = .ok (.ifCond .lt 35, 3)) rfl rfl
theorem s214_67 : mSnd 214 67 (a_iload 69 4) := snd_iload (by decide +kernel : decode (mBc 214) 67 = .ok (.iload 4, 2)) rfl
theorem s214_69 : mSnd 214 69 (a_if 72 99 (fun x => decide (x < 0))) := snd_if_lt (by decide +kernel : decode (mBc 214) 69 = .ok (.ifCond .lt 30, 3)) rfl rfl
theorem s214_72 : mSnd 214 72 (a_iload 73 2) := snd_iload_n (by decide +kernel : decode (mBc 214) 72 = .ok (.iload_n 2, 1)) rfl rfl
theorem s214_73 : mSnd 214 73 (a_aload 74 0) := snd_aload_n (by decide +kernel : decode (mBc 214) 73 = .ok (.aload_n 0, 1)) rfl rfl
theorem s214_74 : mSnd 214 74 (a_getf 77 18 [10]) := snd_getf f45 q920 (Or.inl rfl) (by decide +kernel : decode (mBc 214) 74 = .ok (.getfield 67, 3)) rfl
theorem s214_77 : mSnd 214 77 (a_iload 78 1) := snd_iload_n (by decide +kernel : decode (mBc 214) 77 = .ok (.iload_n 1, 1)) rfl rfl
theorem s214_78 : mSnd 214 78 (a_iald 79) := snd_iald (by decide +kernel : decode (mBc 214) 78 = .ok (.iaload, 1)) rfl
theorem s214_79 : mSnd 214 79 (a_iload 81 5) := snd_iload (by decide +kernel : decode (mBc 214) 79 = .ok (.iload 5, 2)) rfl
theorem s214_81 : mSnd 214 81 (a_ii 82 (fun x y => x - y)) := snd_isub (by decide +kernel : decode (mBc 214) 81 = .ok (.isub, 1)) rfl
theorem s214_82 : mSnd 214 82 (a_icmp 85 99 (fun x y => decide (y < x))) := snd_icmp_gt (by decide +kernel : decode (mBc 214) 82 = .ok (.if_icmp .gt 17, 3)) rfl rfl
theorem s214_85 : mSnd 214 85 (a_iload 87 4) := snd_iload (by decide +kernel : decode (mBc 214) 85 = .ok (.iload 4, 2)) rfl
theorem s214_87 : mSnd 214 87 (a_aload 88 0) := snd_aload_n (by decide +kernel : decode (mBc 214) 87 = .ok (.aload_n 0, 1)) rfl rfl
theorem s214_88 : mSnd 214 88 (a_getf 91 18 [10]) := snd_getf f45 q920 (Or.inl rfl) (by decide +kernel : decode (mBc 214) 88 = .ok (.getfield 67, 3)) rfl
theorem s214_91 : mSnd 214 91 (a_iload 92 3) := snd_iload_n (by decide +kernel : decode (mBc 214) 91 = .ok (.iload_n 3, 1)) rfl rfl
theorem s214_92 : mSnd 214 92 (a_iald 93) := snd_iald (by decide +kernel : decode (mBc 214) 92 = .ok (.iaload, 1)) rfl
theorem s214_93 : mSnd 214 93 (a_iload 95 5) := snd_iload (by decide +kernel : decode (mBc 214) 93 = .ok (.iload 5, 2)) rfl
theorem s214_95 : mSnd 214 95 (a_ii 96 (fun x y => x - y)) := snd_isub (by decide +kernel : decode (mBc 214) 95 = .ok (.isub, 1)) rfl
theorem s214_96 : mSnd 214 96 (a_icmp 99 102 (fun x y => decide (x ≤ y))) := snd_icmp_le (by decide +kernel : decode (mBc 214) 96 = .ok (.if_icmp .le 6, 3)) rfl rfl
theorem s214_99 : mSnd 214 99 (a_push 101 (.int (iZ (-12)))) := snd_bipush (by decide +kernel : decode (mBc 214) 99 = .ok (.bipush (-12), 2)) (by decide +kernel) rfl
theorem s214_101 : mSnd 214 101 (a_iret 0 0) := snd_iret rfl rfl rfl (by decide +kernel : decode (mBc 214) 101 = .ok (.ireturn, 1))
theorem s214_102 : mSnd 214 102 (a_push 103 (.int (iZ 0))) := snd_iconst (by decide +kernel : decode (mBc 214) 102 = .ok (.iconst 0, 1)) rfl rfl
theorem s214_103 : mSnd 214 103 (a_istore 105 6) := snd_istore (by decide +kernel : decode (mBc 214) 103 = .ok (.istore 6, 2)) (by decide) rfl
theorem s214_105 : mSnd 214 105 (a_iload 107 6) := snd_iload (by decide +kernel : decode (mBc 214) 105 = .ok (.iload 6, 2)) rfl
theorem s214_107 : mSnd 214 107 (a_iload 109 5) := snd_iload (by decide +kernel : decode (mBc 214) 107 = .ok (.iload 5, 2)) rfl
theorem s214_109 : mSnd 214 109 (a_icmp 112 139 (fun x y => decide (y ≤ x))) := snd_icmp_ge (by decide +kernel : decode (mBc 214) 109 = .ok (.if_icmp .ge 30, 3)) rfl rfl
theorem s214_112 : mSnd 214 112 (a_aload 113 0) := snd_aload_n (by decide +kernel : decode (mBc 214) 112 = .ok (.aload_n 0, 1)) rfl rfl
theorem s214_113 : mSnd 214 113 (a_getf 116 20 [10]) := snd_getf f47 q922 (Or.inl rfl) (by decide +kernel : decode (mBc 214) 113 = .ok (.getfield 73, 3)) rfl
theorem s214_116 : mSnd 214 116 (a_iload 118 6) := snd_iload (by decide +kernel : decode (mBc 214) 116 = .ok (.iload 6, 2)) rfl
theorem s214_118 : mSnd 214 118 (a_aload 119 0) := snd_aload_n (by decide +kernel : decode (mBc 214) 118 = .ok (.aload_n 0, 1)) rfl rfl
theorem s214_119 : mSnd 214 119 (a_getf 122 19 [10]) := snd_getf f46 q921 (Or.inl rfl) (by decide +kernel : decode (mBc 214) 119 = .ok (.getfield 70, 3)) rfl
theorem s214_122 : mSnd 214 122 (a_push 124 (.int (iZ 40))) := snd_bipush (by decide +kernel : decode (mBc 214) 122 = .ok (.bipush 40, 2)) (by decide +kernel) rfl
theorem s214_124 : mSnd 214 124 (a_iload 125 1) := snd_iload_n (by decide +kernel : decode (mBc 214) 124 = .ok (.iload_n 1, 1)) rfl rfl
theorem s214_125 : mSnd 214 125 (a_ii 126 (fun x y => x * y)) := snd_imul (by decide +kernel : decode (mBc 214) 125 = .ok (.imul, 1)) rfl
theorem s214_126 : mSnd 214 126 (a_iload 127 2) := snd_iload_n (by decide +kernel : decode (mBc 214) 126 = .ok (.iload_n 2, 1)) rfl rfl
theorem s214_127 : mSnd 214 127 (a_ii 128 (fun x y => x + y)) := snd_iadd (by decide +kernel : decode (mBc 214) 127 = .ok (.iadd, 1)) rfl
theorem s214_128 : mSnd 214 128 (a_iload 130 6) := snd_iload (by decide +kernel : decode (mBc 214) 128 = .ok (.iload 6, 2)) rfl
theorem s214_130 : mSnd 214 130 (a_ii 131 (fun x y => x + y)) := snd_iadd (by decide +kernel : decode (mBc 214) 130 = .ok (.iadd, 1)) rfl
theorem s214_131 : mSnd 214 131 (a_iald 132) := snd_iald (by decide +kernel : decode (mBc 214) 131 = .ok (.iaload, 1)) rfl
theorem s214_132 : mSnd 214 132 (a_iast 133) := snd_iast (by decide +kernel : decode (mBc 214) 132 = .ok (.iastore, 1)) rfl
theorem s214_133 : mSnd 214 133 (a_iinc 136 6 (iZ 1)) := snd_iinc (by decide +kernel : decode (mBc 214) 133 = .ok (.iinc 6 1, 3)) rfl (by decide) rfl
theorem s214_136 : mSnd 214 136 (a_goto 105) := snd_goto (by decide +kernel : decode (mBc 214) 136 = .ok (.goto (-31), 3)) rfl
theorem s214_139 : mSnd 214 139 (a_push 140 (.int (iZ 0))) := snd_iconst (by decide +kernel : decode (mBc 214) 139 = .ok (.iconst 0, 1)) rfl rfl
theorem s214_140 : mSnd 214 140 (a_istore 142 6) := snd_istore (by decide +kernel : decode (mBc 214) 140 = .ok (.istore 6, 2)) (by decide) rfl
theorem s214_142 : mSnd 214 142 (a_iload 144 6) := snd_iload (by decide +kernel : decode (mBc 214) 142 = .ok (.iload 6, 2)) rfl
theorem s214_144 : mSnd 214 144 (a_iload 146 5) := snd_iload (by decide +kernel : decode (mBc 214) 144 = .ok (.iload 5, 2)) rfl
theorem s214_146 : mSnd 214 146 (a_icmp 149 177 (fun x y => decide (y ≤ x))) := snd_icmp_ge (by decide +kernel : decode (mBc 214) 146 = .ok (.if_icmp .ge 31, 3)) rfl rfl
theorem s214_149 : mSnd 214 149 (a_aload 150 0) := snd_aload_n (by decide +kernel : decode (mBc 214) 149 = .ok (.aload_n 0, 1)) rfl rfl
theorem s214_150 : mSnd 214 150 (a_getf 153 19 [10]) := snd_getf f46 q921 (Or.inl rfl) (by decide +kernel : decode (mBc 214) 150 = .ok (.getfield 70, 3)) rfl
theorem s214_153 : mSnd 214 153 (a_push 155 (.int (iZ 40))) := snd_bipush (by decide +kernel : decode (mBc 214) 153 = .ok (.bipush 40, 2)) (by decide +kernel) rfl
theorem s214_155 : mSnd 214 155 (a_iload 156 3) := snd_iload_n (by decide +kernel : decode (mBc 214) 155 = .ok (.iload_n 3, 1)) rfl rfl
theorem s214_156 : mSnd 214 156 (a_ii 157 (fun x y => x * y)) := snd_imul (by decide +kernel : decode (mBc 214) 156 = .ok (.imul, 1)) rfl
theorem s214_157 : mSnd 214 157 (a_iload 159 4) := snd_iload (by decide +kernel : decode (mBc 214) 157 = .ok (.iload 4, 2)) rfl
theorem s214_159 : mSnd 214 159 (a_ii 160 (fun x y => x + y)) := snd_iadd (by decide +kernel : decode (mBc 214) 159 = .ok (.iadd, 1)) rfl
theorem s214_160 : mSnd 214 160 (a_iload 162 6) := snd_iload (by decide +kernel : decode (mBc 214) 160 = .ok (.iload 6, 2)) rfl
theorem s214_162 : mSnd 214 162 (a_ii 163 (fun x y => x + y)) := snd_iadd (by decide +kernel : decode (mBc 214) 162 = .ok (.iadd, 1)) rfl
theorem s214_163 : mSnd 214 163 (a_aload 164 0) := snd_aload_n (by decide +kernel : decode (mBc 214) 163 = .ok (.aload_n 0, 1)) rfl rfl
theorem s214_164 : mSnd 214 164 (a_getf 167 20 [10]) := snd_getf f47 q922 (Or.inl rfl) (by decide +kernel : decode (mBc 214) 164 = .ok (.getfield 73, 3)) rfl
theorem s214_167 : mSnd 214 167 (a_iload 169 6) := snd_iload (by decide +kernel : decode (mBc 214) 167 = .ok (.iload 6, 2)) rfl
theorem s214_169 : mSnd 214 169 (a_iald 170) := snd_iald (by decide +kernel : decode (mBc 214) 169 = .ok (.iaload, 1)) rfl
theorem s214_170 : mSnd 214 170 (a_iast 171) := snd_iast (by decide +kernel : decode (mBc 214) 170 = .ok (.iastore, 1)) rfl
theorem s214_171 : mSnd 214 171 (a_iinc 174 6 (iZ 1)) := snd_iinc (by decide +kernel : decode (mBc 214) 171 = .ok (.iinc 6 1, 3)) rfl (by decide) rfl
theorem s214_174 : mSnd 214 174 (a_goto 142) := snd_goto (by decide +kernel : decode (mBc 214) 174 = .ok (.goto (-32), 3)) rfl
theorem s214_177 : mSnd 214 177 (a_iload 179 5) := snd_iload (by decide +kernel : decode (mBc 214) 177 = .ok (.iload 5, 2)) rfl
theorem s214_179 : mSnd 214 179 (a_iret 0 0) := snd_iret rfl rfl rfl (by decide +kernel : decode (mBc 214) 179 = .ok (.ireturn, 1))
theorem ok214 : mOkl2 214 ct214 := ⟨⟨s214_0, s214_1, s214_2, s214_5, s214_8, s214_9, s214_10, s214_13, s214_16, s214_18, s214_19, s214_20, trivial⟩, ⟨s214_23, s214_24, s214_25, s214_28, s214_29, s214_32, s214_33, s214_34, s214_37, s214_39, s214_40, s214_41, trivial⟩, ⟨s214_44, s214_45, s214_46, s214_47, s214_50, s214_51, s214_52, s214_55, s214_57, s214_58, s214_60, s214_63, trivial⟩, ⟨s214_64, s214_67, s214_69, s214_72, s214_73, s214_74, s214_77, s214_78, s214_79, s214_81, s214_82, s214_85, trivial⟩, ⟨s214_87, s214_88, s214_91, s214_92, s214_93, s214_95, s214_96, s214_99, s214_101, s214_102, s214_103, s214_105, trivial⟩, ⟨s214_107, s214_109, s214_112, s214_113, s214_116, s214_118, s214_119, s214_122, s214_124, s214_125, s214_126, s214_127, trivial⟩, ⟨s214_128, s214_130, s214_131, s214_132, s214_133, s214_136, s214_139, s214_140, s214_142, s214_144, s214_146, s214_149, trivial⟩, ⟨s214_150, s214_153, s214_155, s214_156, s214_157, s214_159, s214_160, s214_162, s214_163, s214_164, s214_167, s214_169, trivial⟩, ⟨s214_170, s214_171, s214_174, s214_177, s214_179, trivial⟩, trivial⟩
