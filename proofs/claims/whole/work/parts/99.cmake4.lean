/-! ===== the class: sums, drops, joins, others ===== -/

theorem gap_opn : ∀ s, s < 16 → ∀ p, p < 4 → gapN s p = opn s p := by decide +kernel
theorem opn_l8 : ∀ s, s < 8 → ∀ p, p < 4 → opn s p < 16 := by decide +kernel
theorem join_z : ∀ s, s < 8 → ∀ b, b < 4 → ∀ t, t < 2 → iZ (gapN s b : Nat) ||| (iZ (t : Nat) <<< (iZ (b : Nat) &&& 31)) = iZ (opn s b + t * 2 ^ b : Nat) ∧ opn s b + t * 2 ^ b < 16 := by decide +kernel
theorem al_8 : ∀ n, n ≤ 4 → 1 ≤ n → al (n - 1) < 8 := by decide +kernel
section CM
variable {h h' g : mH} {Q : Option Value → mH → Prop} {i n c a ci num : Nat} {w f : Nat → Int} {kd sz : Nat → Nat} {W : Nat → Nat → Int} {A : Nat → Nat}
theorem k17 (hl : 30 ≤ h.length) (hn : 1 ≤ n ∧ n ≤ 4) (hq : ∀ g, Bld h g h.length 2 num n (fun _ => 0) → Q none g) : mCt mCd 17 [.ref h.length, .int (iZ num), .int (iZ n)] (h ++ [.inr (2, [.int 0, .int 0, .null, .null, .null, .int 0])]) Q :=
  en17 (b17_0 (kNew hl rfl hn (fun g hb => b17_6 (hq g hb))))
theorem fill_b {f : Nat → Int} {n s : Nat} (hw : wtB n f) (h1 : 1 ≤ s) (hs : s < 2 ^ n) : bd 16000 (f s) := by
  have := hw s
  unfold fillW at this
  rwa [if_pos ⟨h1, hs⟩] at this
theorem j85 {x p : Int} (hd : CD h c kd sz W A) (hl : 30 ≤ h.length) (hx : i32 x) (hp : i32 p) (hq : mkC h c kd sz W A Q (eDrop c sz W x p)) : mCt mCd 85 [.ref 5, .int (iZ x), .int (iZ p)] h Q := by
  have hc := hd.1
  obtain ⟨gg, g1, g2⟩ := hd.tb
  unfold eDrop at hq
  by_cases hA : 0 ≤ x ∧ x < c
  · rw [if_pos hA] at hq
    obtain ⟨i, rfl⟩ : ∃ m : Nat, x = m := ⟨x.toNat, by omega⟩
    have hi : i < c := by omega
    have hv := hd.cv hi
    obtain ⟨ha30, hci, ⟨hn1, hn4⟩, hw, fd, f, e1, e2, hf⟩ := id hv
    simp only [Int.toNat_natCast] at hq
    refine en85 (b85_0 g1 (k114y hd hi (b85_5_1 e1 hci (k43 hv hp (b85_15 (fun z => b85_21 e1 rfl hci (fun z2 => b85_32 g1 (k115 g1 g2 hc (b85_36 (fun z3 => b85_42 (b85_45 (mAl _ g1) (mAl _ e1) rfl hci ?_)) (fun z3 => b85_39 ?_)))) (fun z2 => b85_29 ?_)) (fun z => b85_18 ?_))))))
    · rw [tf_n0] at z
      have z2 : ¬ iZ (sz i) = iZ 1 := z2
      simp (disch := (first | assumption | omega | (unfold i32; omega) | (unfold i64; omega))) only [iZ_add, iZ_sub, iZ_mul, iZ_neg, lZ_add, lZ_sub, lZ_mul, lZ_neg, lZ_i, iZ_l, iZ_nat, Int.toNat_natCast, iZ_bit, iZ_shl, iZ_or, iZ_lt, iZ_le, iZ_eq, iZ_lt0, iZ_le0, iZ_gt0, iZ_ge0, iZ_eq0, cmp_eq0, cmp_lt0, cmp_le0, cmp_ge0, cmp_gt0, tf_0, tf_n0, Decidable.not_not, not_true_eq_false, not_false_eq_true, Int.toNat_natCast, onat] at z2
      rw [tf_0] at z3
      rw [if_pos z, if_neg (by omega), if_neg z3] at hq
      obtain ⟨p, rfl⟩ : ∃ m : Nat, p = m := ⟨p.toNat, by omega⟩
      simp only [Int.toNat_natCast] at hq
      have h8 := al_8 (sz i) hn4 hn1
      have h2 : al (sz i - 1) + 1 = 2 ^ (sz i - 1) := by have := two_pow_pos (sz i - 1); unfold al; omega
      have t : iZ (sz i) - iZ 1 = iZ ((sz i - 1 : Nat) : Int) := by rw [iZ_sub]; congr 1; omega
      rw [t]
      refine k17 hl (by omega) (fun g0 hb0 => b85_59 ?_)
      have lp : ∀ s, s ≤ 2 ^ (sz i - 1) → 1 ≤ s → ∀ g, Bld h g h.length 2 c (sz i - 1) (fillW (drF (W i) p) s) → mWp mCd 85 (64, [some (.ref 5), none, some (.int (iZ p)), some (.ref (A i)), some (.ref h.length), some (.int (iZ s))], [], g, 9, 158) Q := by
        refine lp_up _ ?_ ?_
        · intro _ g hb
          obtain ⟨_, _, _, _, fd9, e9, _⟩ := id hb.2.2
          refine b85_64 e9 rfl (k42 hb.2.2.1 (b85_71 (fun _ => b85_97 (hb.cd g1) (kEnt (kn := 4) hd (by omega) (by decide) hb (fun q => absurd q (by decide)) (fun h' gr cd => b85_103 (hq h' gr cd)))) (fun z => ?_)))
          simp (disch := (first | assumption | omega | (unfold i32; omega) | (unfold i64; omega))) only [iZ_add, iZ_sub, iZ_mul, iZ_neg, lZ_add, lZ_sub, lZ_mul, lZ_neg, lZ_i, iZ_l, iZ_nat, Int.toNat_natCast, iZ_bit, iZ_shl, iZ_or, iZ_lt, iZ_le, iZ_eq, iZ_lt0, iZ_le0, iZ_gt0, iZ_ge0, iZ_eq0, cmp_eq0, cmp_lt0, cmp_le0, cmp_ge0, cmp_gt0, tf_0, tf_n0, Decidable.not_not, not_true_eq_false, not_false_eq_true, Int.toNat_natCast, onat] at z
          omega
        · intro s hs ih hs1 g hb
          obtain ⟨_, _, _, _, fd9, e9, _⟩ := id hb.2.2
          refine b85_64 e9 rfl (k42 hb.2.2.1 (b85_71 (fun z => ?_) (fun _ => b85_74 (k127 (by omega) (by omega) (b85_85 (hb.cd e1) hci ?_)))))
          · simp (disch := (first | assumption | omega | (unfold i32; omega) | (unfold i64; omega))) only [iZ_add, iZ_sub, iZ_mul, iZ_neg, lZ_add, lZ_sub, lZ_mul, lZ_neg, lZ_i, iZ_l, iZ_nat, Int.toNat_natCast, iZ_bit, iZ_shl, iZ_or, iZ_lt, iZ_le, iZ_eq, iZ_lt0, iZ_le0, iZ_gt0, iZ_ge0, iZ_eq0, cmp_eq0, cmp_lt0, cmp_le0, cmp_ge0, cmp_gt0, tf_0, tf_n0, Decidable.not_not, not_true_eq_false, not_false_eq_true, Int.toNat_natCast, onat] at z
            omega
          · rw [gap_opn s (by omega) p (by omega)]
            refine k46 (hb.cv hv) (opn_l8 s (by omega) p (by omega)) (b85_88 e9 rfl (hb.put hs1 (by omega) (hw _) (fun g' hb' => b85_91 ?_)))
            rw [iZ_add]
            exact ih (by omega) g' (hb'.ww (by rw [← fillW_s hs1]; rfl))
      exact lp 1 (by have := two_pow_pos (sz i - 1); omega) (Nat.le_refl 1) g0 (hb0.ww (fillW_1 _).symm)
    · rw [tf_n0] at z z3
      have z2 : ¬ iZ (sz i) = iZ 1 := z2
      simp (disch := (first | assumption | omega | (unfold i32; omega) | (unfold i64; omega))) only [iZ_add, iZ_sub, iZ_mul, iZ_neg, lZ_add, lZ_sub, lZ_mul, lZ_neg, lZ_i, iZ_l, iZ_nat, Int.toNat_natCast, iZ_bit, iZ_shl, iZ_or, iZ_lt, iZ_le, iZ_eq, iZ_lt0, iZ_le0, iZ_gt0, iZ_ge0, iZ_eq0, cmp_eq0, cmp_lt0, cmp_le0, cmp_ge0, cmp_gt0, tf_0, tf_n0, Decidable.not_not, not_true_eq_false, not_false_eq_true, Int.toNat_natCast, onat] at z2
      rw [if_pos z, if_neg (by omega), if_pos z3] at hq
      exact hq
    · rw [tf_n0] at z
      have z2 : ¬ ¬ iZ (sz i) = iZ 1 := z2
      simp (disch := (first | assumption | omega | (unfold i32; omega) | (unfold i64; omega))) only [iZ_add, iZ_sub, iZ_mul, iZ_neg, lZ_add, lZ_sub, lZ_mul, lZ_neg, lZ_i, iZ_l, iZ_nat, Int.toNat_natCast, iZ_bit, iZ_shl, iZ_or, iZ_lt, iZ_le, iZ_eq, iZ_lt0, iZ_le0, iZ_gt0, iZ_ge0, iZ_eq0, cmp_eq0, cmp_lt0, cmp_le0, cmp_ge0, cmp_gt0, tf_0, tf_n0, Decidable.not_not, not_true_eq_false, not_false_eq_true, Int.toNat_natCast, onat] at z2
      rw [if_pos z, if_pos (by omega)] at hq
      exact hq
    · rw [tf_n0] at z
      rw [if_neg z] at hq
      exact hq
  · rw [if_neg hA] at hq
    exact en85 (b85_0 g1 (k114n hd hx hA (b85_5 hq)))
theorem j86 {x p b : Int} (hd : CD h c kd sz W A) (hl : 30 ≤ h.length) (hx : i32 x) (hp : i32 p) (hb' : i32 b) (hq : mkC h c kd sz W A Q (eJoin c sz W x p b)) : mCt mCd 86 [.ref 5, .int (iZ x), .int (iZ p), .int (iZ b)] h Q := by
  have hc := hd.1
  obtain ⟨gg, g1, g2⟩ := hd.tb
  unfold eJoin at hq
  by_cases hA : 0 ≤ x ∧ x < c
  · rw [if_pos hA] at hq
    obtain ⟨i, rfl⟩ : ∃ m : Nat, x = m := ⟨x.toNat, by omega⟩
    have hi : i < c := by omega
    have hv := hd.cv hi
    obtain ⟨ha30, hci, ⟨hn1, hn4⟩, hw, fd, f, e1, e2, hf⟩ := id hv
    simp only [Int.toNat_natCast] at hq
    refine en86 (b86_0 g1 (k114y hd hi (b86_5_1 e1 hci (k43 hv hp (b86_18 (fun z => b86_35 ?_) (fun z => b86_21 e1 hci (k43 hv hb' (b86_27 (fun z2 => b86_35 ?_) (fun z2 => b86_30 (fun z3 => b86_38 g1 (k115 g1 g2 hc (b86_42 (fun z4 => b86_48 (b86_51 (mAl _ g1) (mAl _ e1) rfl hci ?_)) (fun z4 => b86_45 ?_)))) (fun z3 => b86_35 ?_))))))))))
    · rw [tf_0] at z
      rw [if_neg (by omega)] at hq
      exact hq
    · rw [tf_0] at z2
      rw [if_neg (by omega)] at hq
      exact hq
    · rw [tf_n0] at z z2
      rw [tf_0] at z4
      rw [iZ_lt hp hb'] at z3
      rw [if_pos (by omega), if_neg z4] at hq
      obtain ⟨p, rfl⟩ : ∃ m : Nat, p = m := ⟨p.toNat, by omega⟩
      obtain ⟨b, rfl⟩ : ∃ m : Nat, b = m := ⟨b.toNat, by omega⟩
      simp only [Int.toNat_natCast] at hq
      have h8 := al_8 (sz i) hn4 hn1
      have h2 : al (sz i - 1) + 1 = 2 ^ (sz i - 1) := by have := two_pow_pos (sz i - 1); unfold al; omega
      have t : iZ (sz i) - iZ 1 = iZ ((sz i - 1 : Nat) : Int) := by rw [iZ_sub]; congr 1; omega
      rw [t]
      refine k17 hl (by omega) (fun g0 hb0 => b86_66 ?_)
      have lp : ∀ s, s ≤ 2 ^ (sz i - 1) → 1 ≤ s → ∀ g, Bld h g h.length 2 c (sz i - 1) (fillW (joF (W i) p b) s) → mWp mCd 86 (71, [some (.ref 5), none, some (.int (iZ p)), some (.int (iZ b)), some (.ref (A i)), some (.ref h.length), some (.int (iZ s))], [], g, 9, 158) Q := by
        refine lp_up _ ?_ ?_
        · intro _ g hb
          obtain ⟨_, _, _, _, fd9, e9, _⟩ := id hb.2.2
          refine b86_71 e9 rfl (k42 hb.2.2.1 (b86_78 (fun _ => b86_114 (hb.cd g1) (kEnt (kn := 4) hd (by omega) (by decide) hb (fun q => absurd q (by decide)) (fun h' gr cd => b86_120 (hq h' gr cd)))) (fun z => ?_)))
          simp (disch := (first | assumption | omega | (unfold i32; omega) | (unfold i64; omega))) only [iZ_add, iZ_sub, iZ_mul, iZ_neg, lZ_add, lZ_sub, lZ_mul, lZ_neg, lZ_i, iZ_l, iZ_nat, Int.toNat_natCast, iZ_bit, iZ_shl, iZ_or, iZ_lt, iZ_le, iZ_eq, iZ_lt0, iZ_le0, iZ_gt0, iZ_ge0, iZ_eq0, cmp_eq0, cmp_lt0, cmp_le0, cmp_ge0, cmp_gt0, tf_0, tf_n0, Decidable.not_not, not_true_eq_false, not_false_eq_true, Int.toNat_natCast, onat] at z
          omega
        · intro s hs ih hs1 g hb
          obtain ⟨_, _, _, _, fd9, e9, _⟩ := id hb.2.2
          have jz := join_z s (by omega) b (by omega) (bt s p) (bt_lt s p)
          refine b86_71 e9 rfl (k42 hb.2.2.1 (b86_78 (fun z => ?_) (fun _ => b86_81 (k127 (by omega) (by omega) (b86_93 (k126 (by omega) (by omega) (b86_99 (hb.cd e1) hci ?_)))))))
          · simp (disch := (first | assumption | omega | (unfold i32; omega) | (unfold i64; omega))) only [iZ_add, iZ_sub, iZ_mul, iZ_neg, lZ_add, lZ_sub, lZ_mul, lZ_neg, lZ_i, iZ_l, iZ_nat, Int.toNat_natCast, iZ_bit, iZ_shl, iZ_or, iZ_lt, iZ_le, iZ_eq, iZ_lt0, iZ_le0, iZ_gt0, iZ_ge0, iZ_eq0, cmp_eq0, cmp_lt0, cmp_le0, cmp_ge0, cmp_gt0, tf_0, tf_n0, Decidable.not_not, not_true_eq_false, not_false_eq_true, Int.toNat_natCast, onat] at z
            omega
          · rw [jz.1]
            refine k46 (hb.cv hv) jz.2 (b86_105 e9 rfl (hb.put hs1 (by omega) (hw _) (fun g' hb' => b86_108 ?_)))
            rw [iZ_add]
            exact ih (by omega) g' (hb'.ww (by rw [← fillW_s hs1]; rfl))
      exact lp 1 (by have := two_pow_pos (sz i - 1); omega) (Nat.le_refl 1) g0 (hb0.ww (fillW_1 _).symm)
    · rw [tf_n0] at z z2 z4
      rw [iZ_lt hp hb'] at z3
      rw [if_pos (by omega), if_pos z4] at hq
      exact hq
    · rw [iZ_lt hp hb'] at z3
      rw [if_neg (by omega)] at hq
      exact hq
  · rw [if_neg hA] at hq
    exact en86 (b86_0 g1 (k114n hd hx hA (b86_5 hq)))
theorem j87 {x : Int} (hd : CD h c kd sz W A) (hl : 30 ≤ h.length) (hx : i32 x) (hwt : ∀ i, i < c → wtB (sz i) (otF (W i) (sz i))) (hq : mkC h c kd sz W A Q (eOther c sz W x)) : mCt mCd 87 [.ref 5, .int (iZ x)] h Q := by
  have hc := hd.1
  obtain ⟨gg, g1, g2⟩ := hd.tb
  unfold eOther at hq
  by_cases hA : 0 ≤ x ∧ x < c
  · rw [if_pos hA] at hq
    obtain ⟨i, rfl⟩ : ∃ m : Nat, x = m := ⟨x.toNat, by omega⟩
    have hi : i < c := by omega
    have hv := hd.cv hi
    obtain ⟨ha30, hci, ⟨hn1, hn4⟩, hw, fd, f, e1, e2, hf⟩ := id hv
    simp only [Int.toNat_natCast] at hq
    have hal := al_lt hn4
    refine en87 (b87_0 g1 (k114y hd hi (b87_5_1 g1 (k115 g1 g2 hc (b87_17 (fun z => b87_23 (b87_26 (mAl _ g1) (mAl _ e1) rfl hci ?_)) (fun z => b87_20 ?_))))))
    · rw [tf_0] at z
      rw [if_neg z] at hq
      have h2 : al (sz i) + 1 = 2 ^ (sz i) := by have := two_pow_pos (sz i); unfold al; omega
      refine k17 hl (by omega) (fun g0 hb0 => b87_38 ?_)
      have lp : ∀ s, s ≤ 2 ^ (sz i) → 1 ≤ s → ∀ g, Bld h g h.length 2 c (sz i) (fillW (otF (W i) (sz i)) s) → mWp mCd 87 (42, [some (.ref 5), none, some (.ref (A i)), some (.ref h.length), some (.int (iZ s))], [], g, 9, 158) Q := by
        refine lp_up _ ?_ ?_
        · intro _ g hb
          obtain ⟨_, _, _, _, fd9, e9, _⟩ := id hb.2.2
          refine b87_42 e9 rfl (k42 hb.2.2.1 (b87_48 (fun _ => b87_81 (hb.cd g1) (kEnt (kn := 4) hd (by omega) (by decide) hb (fun q => absurd q (by decide)) (fun h' gr cd => b87_86 (hq h' gr cd)))) (fun z => ?_)))
          simp (disch := (first | assumption | omega | (unfold i32; omega) | (unfold i64; omega))) only [iZ_add, iZ_sub, iZ_mul, iZ_neg, lZ_add, lZ_sub, lZ_mul, lZ_neg, lZ_i, iZ_l, iZ_nat, Int.toNat_natCast, iZ_bit, iZ_shl, iZ_or, iZ_lt, iZ_le, iZ_eq, iZ_lt0, iZ_le0, iZ_gt0, iZ_ge0, iZ_eq0, cmp_eq0, cmp_lt0, cmp_le0, cmp_ge0, cmp_gt0, tf_0, tf_n0, Decidable.not_not, not_true_eq_false, not_false_eq_true, Int.toNat_natCast, onat] at z
          omega
        · intro s hs ih hs1 g hb
          obtain ⟨_, _, _, _, fd9, e9, _⟩ := id hb.2.2
          refine b87_42 e9 rfl (k42 hb.2.2.1 (b87_48 (fun z => ?_) (fun _ => b87_51 (hb.cd e1) hci (k47 (hb.cv hv) (b87_58 (hb.cd e1) hci (k42 (hb.cv hv) (b87_63 (hb.cd e1) hci ?_)))))))
          · simp (disch := (first | assumption | omega | (unfold i32; omega) | (unfold i64; omega))) only [iZ_add, iZ_sub, iZ_mul, iZ_neg, lZ_add, lZ_sub, lZ_mul, lZ_neg, lZ_i, iZ_l, iZ_nat, Int.toNat_natCast, iZ_bit, iZ_shl, iZ_or, iZ_lt, iZ_le, iZ_eq, iZ_lt0, iZ_le0, iZ_gt0, iZ_ge0, iZ_eq0, cmp_eq0, cmp_lt0, cmp_le0, cmp_ge0, cmp_gt0, tf_0, tf_n0, Decidable.not_not, not_true_eq_false, not_false_eq_true, Int.toNat_natCast, onat] at z
            omega
          · rw [iZ_andn _ hal s (by omega)]
            refine k46 (hb.cv hv) (by unfold andn; omega) (b87_71 e9 rfl ?_)
            rw [iZ_sub]
            refine hb.put hs1 (by omega) (fill_b (hwt i hi) hs1 (by omega)) (fun g' hb' => b87_75 ?_)
            rw [iZ_add]
            exact ih (by omega) g' (hb'.ww (by rw [← fillW_s hs1]; rfl))
      exact lp 1 (by have := two_pow_pos (sz i); omega) (Nat.le_refl 1) g0 (hb0.ww (fillW_1 _).symm)
    · rw [tf_n0] at z
      rw [if_pos z] at hq
      exact hq
  · rw [if_neg hA] at hq
    exact en87 (b87_0 g1 (k114n hd hx hA (b87_5 hq)))
theorem suF_i {w1 w2 : Nat → Int} {p q : Int} (h1 : ∀ s, bd 16000 (w1 s)) (h2 : ∀ s, bd 16000 (w2 s)) (hp : -3 ≤ p ∧ p ≤ 3) (hq : -3 ≤ q ∧ q ≤ 3) (s : Nat) : i32 (suF w1 w2 p q s) := by
  have m1 := bd_mul (show bd 3 p from hp) (h1 s)
  have m2 := bd_mul (show bd 3 q from hq) (h2 s)
  unfold suF
  unfold bd at m1 m2
  unfold i32
  omega
theorem k117 {b ci2 num2 : Nat} {w2 : Nat → Int} {p q : Int} (hv : CV h a ci num n w) (hv2 : CV h b ci2 num2 n w2) (hp : -3 ≤ p ∧ p ≤ 3) (hq3 : -3 ≤ q ∧ q ≤ 3) (hq : Q (some (.int (iZ (bZ (allB (fitB (suF w w2 p q)) (2 ^ n)))))) h) : mCt mCd 117 [.ref a, .ref b, .int (iZ p), .int (iZ q)] h Q := by
  have hal := al_lt hv.2.2.1.2
  obtain ⟨ha, hc, ⟨hn1, hn4⟩, hw, fd, f, e1, e2, hf⟩ := id hv
  obtain ⟨hb, hc2, _, hw2, fd2, f2, d1, d2, hf2⟩ := id hv2
  have h16 := two_pow_le4 hn4
  have h0 := two_pow_pos n
  have hal2 : al n + 1 = 2 ^ n := by unfold al; omega
  have lp : ∀ s, s ≤ 2 ^ n → 1 ≤ s → allB (fitB (suF w w2 p q)) s = true → mWp mCd 117 (3, [some (.ref a), some (.ref b), some (.int (iZ p)), some (.int (iZ q)), some (.int (iZ s)), none], [], h, 0, 0) Q := by
    refine lp_up _ ?_ ?_
    · intro _ hb
      rw [hb] at hq
      refine b117_3 hc e1 (k42 hv (b117_9 (fun _ => b117_55 hq) (fun z => ?_)))
      simp (disch := (first | assumption | omega | (unfold i32; omega) | (unfold i64; omega))) only [iZ_add, iZ_sub, iZ_mul, iZ_neg, lZ_add, lZ_sub, lZ_mul, lZ_neg, lZ_i, iZ_l, iZ_nat, Int.toNat_natCast, iZ_bit, iZ_shl, iZ_or, iZ_lt, iZ_le, iZ_eq, iZ_lt0, iZ_le0, iZ_gt0, iZ_ge0, iZ_eq0, cmp_eq0, cmp_lt0, cmp_le0, cmp_ge0, cmp_gt0, tf_0, tf_n0, Decidable.not_not, not_true_eq_false, not_false_eq_true, Int.toNat_natCast, onat] at z
      omega
    · intro s hs ih hs1 hb
      have sb := suF_i hw hw2 hp hq3 s
      have se : p * w s + q * w2 s = suF w w2 p q s := rfl
      have no : ¬ (-1000 ≤ suF w w2 p q s ∧ suF w w2 p q s ≤ 1000) → mWp mCd 117 (47, [none, none, none, none, none, none], [], h, 0, 0) Q := by
        intro hh
        have hd : fitB (suF w w2 p q) s = false := decide_eq_false (by omega)
        rw [allB_f hd hs] at hq
        exact b117_47 hq
      refine b117_3 hc e1 (k42 hv (b117_9 (fun z => ?_) (fun _ => b117_12 hc e1 (k46 hv (by omega) (b117_19 hc2 d1 (k46 hv2 (by omega) ?_))))))
      · simp (disch := (first | assumption | omega | (unfold i32; omega) | (unfold i64; omega))) only [iZ_add, iZ_sub, iZ_mul, iZ_neg, lZ_add, lZ_sub, lZ_mul, lZ_neg, lZ_i, iZ_l, iZ_nat, Int.toNat_natCast, iZ_bit, iZ_shl, iZ_or, iZ_lt, iZ_le, iZ_eq, iZ_lt0, iZ_le0, iZ_gt0, iZ_ge0, iZ_eq0, cmp_eq0, cmp_lt0, cmp_le0, cmp_ge0, cmp_gt0, tf_0, tf_n0, Decidable.not_not, not_true_eq_false, not_false_eq_true, Int.toNat_natCast, onat] at z
        omega
      · rw [iZ_mul]
        refine b117_27 (fun z => no ?_) (fun z => ?_)
        · rw [iZ_mul, iZ_add, se, iZ_lt sb (by unfold i32; omega)] at z
          omega
        · rw [iZ_mul, iZ_add, se] at z ⊢
          rw [iZ_lt sb (by unfold i32; omega)] at z
          refine b117_39 (fun z2 => b117_49 ?_) (fun z2 => no ?_)
          · rw [iZ_le sb (by unfold i32; omega)] at z2
            rw [iZ_add]
            exact ih (by omega) (allB_s hb (decide_eq_true (Or.inr (by omega))))
          · rw [iZ_le sb (by unfold i32; omega)] at z2
            omega
  refine en117 (b117_0 (lp 1 (by omega) (Nat.le_refl 1) ?_))
  have h00 : fitB (suF w w2 p q) 0 = true := decide_eq_true (Or.inl rfl)
  show (allB (fitB (suF w w2 p q)) 0 && fitB (suF w w2 p q) 0) = true
  rw [h00]
  rfl
theorem j84 {x y p q : Int} (hd : CD h c kd sz W A) (hl : 30 ≤ h.length) (hx : i32 x) (hy : i32 y) (hp : i32 p) (hqq : i32 q) (hq : mkC h c kd sz W A Q (eSum c sz W x y p q)) : mCt mCd 84 [.ref 5, .int (iZ x), .int (iZ y), .int (iZ p), .int (iZ q)] h Q := by
  have hc := hd.1
  obtain ⟨gg, g1, g2⟩ := hd.tb
  unfold eSum at hq
  refine en84 (b84_0 g1 ?_)
  by_cases hA : 0 ≤ x ∧ x < c
  · obtain ⟨i, rfl⟩ : ∃ m : Nat, x = m := ⟨x.toNat, by omega⟩
    have hi : i < c := by omega
    refine k114y hd hi (b84_5_1 g1 ?_)
    by_cases hB : 0 ≤ y ∧ y < c
    · obtain ⟨j, rfl⟩ : ∃ m : Nat, y = m := ⟨y.toNat, by omega⟩
      have hj : j < c := by omega
      have hv := hd.cv hi
      have hv2 := hd.cv hj
      obtain ⟨ha30, hci, ⟨hn1, hn4⟩, hw, fd, f, e1, e2, hf⟩ := id hv
      obtain ⟨hb30, hcj, ⟨hm1, hm4⟩, hw2, fd2, f2, d1, d2, hf2⟩ := id hv2
      simp only [Int.toNat_natCast] at hq
      refine k114y hd hj (b84_12_3 (k121 hp (b84_28 (fun z => b84_39 ?_) (fun z => b84_31 (k121 hqq (b84_36 (fun z2 => b84_42 e1 rfl hci d1 rfl hcj (fun z3 => b84_58 g1 (k115 g1 g2 hc (b84_62 (fun z4 => b84_78 ?_) (fun z4 => b84_65 ?_)))) (fun z3 => b84_55 ?_)) (fun z2 => b84_39 ?_)))))))
      · rw [tf_0] at z
        rw [if_neg (by omega)] at hq
        exact hq
      · rw [tf_n0] at z z2 z4
        rw [iZ_eq (by unfold i32; omega) (by unfold i32; omega)] at z3
        have hdc : decide (c < 10) = false := decide_eq_false (by omega)
        rw [if_pos (by omega), if_pos (by omega), hdc, Bool.false_and, if_neg (by decide)] at hq
        exact hq
      · rw [tf_n0] at z z2
        rw [tf_n0] at z4
        rw [iZ_eq (by unfold i32; omega) (by unfold i32; omega)] at z3
        have hsz : sz i = sz j := by omega
        have hdc : decide (c < 10) = true := decide_eq_true (by omega)
        rw [if_pos (by omega), if_pos hsz, hdc, Bool.true_and] at hq
        rw [← hsz] at hv2
        refine k117 hv hv2 z z2 ?_
        have hal := al_lt hn4
        have h2 : al (sz i) + 1 = 2 ^ (sz i) := by have := two_pow_pos (sz i); unfold al; omega
        cases hall : allB (fitB (suF (W i) (W j) p q)) (2 ^ sz i) with
        | false =>
          rw [hall, if_neg (by decide)] at hq
          exact b84_75 (fun z5 => absurd rfl z5) (fun _ => b84_78 hq)
        | true =>
          rw [hall, if_pos rfl] at hq
          have hfit := (allB_iff _ _).mp hall
          refine b84_75 (fun _ => b84_81 (b84_84 (mAl _ g1) (mAl _ e1) rfl hci (k17 hl (by omega) (fun g0 hb0 => b84_97 ?_)))) (fun z5 => absurd (by decide) z5)
          have lp : ∀ s, s ≤ 2 ^ (sz i) → 1 ≤ s → ∀ g, Bld h g h.length 2 c (sz i) (fillW (suF (W i) (W j) p q) s) → mWp mCd 84 (102, [some (.ref 5), none, none, some (.int (iZ p)), some (.int (iZ q)), some (.ref (A i)), some (.ref (A j)), some (.ref h.length), some (.int (iZ s))], [], g, 9, 158) Q := by
            refine lp_up _ ?_ ?_
            · intro _ g hb
              obtain ⟨_, _, _, _, fd9, e9, _⟩ := id hb.2.2
              refine b84_102 e9 rfl (k42 hb.2.2.1 (b84_109 (fun _ => b84_145 (hb.cd g1) (kEnt (kn := 4) hd (by omega) (by decide) hb (fun q => absurd q (by decide)) (fun h' gr cd => b84_151 (hq h' gr cd)))) (fun z => ?_)))
              simp (disch := (first | assumption | omega | (unfold i32; omega) | (unfold i64; omega))) only [iZ_add, iZ_sub, iZ_mul, iZ_neg, lZ_add, lZ_sub, lZ_mul, lZ_neg, lZ_i, iZ_l, iZ_nat, Int.toNat_natCast, iZ_bit, iZ_shl, iZ_or, iZ_lt, iZ_le, iZ_eq, iZ_lt0, iZ_le0, iZ_gt0, iZ_ge0, iZ_eq0, cmp_eq0, cmp_lt0, cmp_le0, cmp_ge0, cmp_gt0, tf_0, tf_n0, Decidable.not_not, not_true_eq_false, not_false_eq_true, Int.toNat_natCast, onat] at z
              omega
            · intro s hs ih hs1 g hb
              obtain ⟨_, _, _, _, fd9, e9, _⟩ := id hb.2.2
              have hfs := of_decide_eq_true (hfit s hs)
              refine b84_102 e9 rfl (k42 hb.2.2.1 (b84_109 (fun z => ?_) (fun _ => b84_112 (hb.cd e1) hci (k46 (hb.cv hv) (by omega) (b84_124 (hb.cd d1) hcj (k46 (hb.cv hv2) (by omega) (b84_134 e9 rfl ?_)))))))
              · simp (disch := (first | assumption | omega | (unfold i32; omega) | (unfold i64; omega))) only [iZ_add, iZ_sub, iZ_mul, iZ_neg, lZ_add, lZ_sub, lZ_mul, lZ_neg, lZ_i, iZ_l, iZ_nat, Int.toNat_natCast, iZ_bit, iZ_shl, iZ_or, iZ_lt, iZ_le, iZ_eq, iZ_lt0, iZ_le0, iZ_gt0, iZ_ge0, iZ_eq0, cmp_eq0, cmp_lt0, cmp_le0, cmp_ge0, cmp_gt0, tf_0, tf_n0, Decidable.not_not, not_true_eq_false, not_false_eq_true, Int.toNat_natCast, onat] at z
                omega
              · rw [iZ_mul, iZ_mul, iZ_add]
                refine hb.put hs1 (by omega) (show bd 16000 (suF (W i) (W j) p q s) by unfold bd; omega) (fun g' hb' => b84_139 ?_)
                rw [iZ_add]
                exact ih (by omega) g' (hb'.ww (by rw [← fillW_s hs1]; rfl))
          exact lp 1 (by have := two_pow_pos (sz i); omega) (Nat.le_refl 1) g0 (hb0.ww (fillW_1 _).symm)
      · rw [tf_n0] at z z2
        rw [iZ_eq (by unfold i32; omega) (by unfold i32; omega)] at z3
        rw [if_pos (by omega), if_neg (by omega)] at hq
        exact hq
      · rw [tf_n0] at z2
        rw [if_neg (by omega)] at hq
        exact hq
    · rw [if_neg (by omega)] at hq
      exact k114n hd hy hB (b84_12_2 hq)
  · rw [if_neg (by omega)] at hq
    refine k114n hd hx hA (b84_5 g1 ?_)
    by_cases hB : 0 ≤ y ∧ y < c
    · obtain ⟨j, rfl⟩ : ∃ m : Nat, y = m := ⟨y.toNat, by omega⟩
      exact k114y hd (by omega) (b84_12_1 hq)
    · exact k114n hd hy hB (b84_12 hq)
end CM
