/-! ===== the class: a venture: swings, parts taken, THE BAR, a worth put ===== -/

theorem or_lt2 : ∀ n, n ≤ 4 → ∀ s, s < 2 ^ n → ∀ p, p < n → s ||| 2 ^ p < 2 ^ n := by decide +kernel
section CT
variable {h h' : mH} {Q : Option Value → mH → Prop} {a ci num n : Nat} {w : Nat → Int}
theorem CV.eq {K : List Nat} (hv : CV h a ci num n w) (hx : Eqx K h h') (h1 : a ∉ K) (h2 : a + 1 ∉ K) : CV h' a ci num n w := by
  obtain ⟨ha, hc, hn, hw, fd, f, e1, e2, hf⟩ := hv
  exact ⟨ha, hc, hn, hw, fd, f, (hx.2 _ h1).trans e1, (hx.2 _ h2).trans e2, hf⟩
theorem k58 (hv : CV h a ci num n w) (h01 : ∀ s, s < 2 ^ n → w s = 0 ∨ w s = 1) {p y : Nat} (hp : p < n) (hy : y ≤ 1) (hq : Q (some (.int (iZ (powZ w n p y)))) h) : mCt mCd 58 [.ref a, .int (iZ p), .int (iZ y)] h Q := by
  have hal := al_lt hv.2.2.1.2
  obtain ⟨ha, hc, ⟨hn1, hn4⟩, hw, fd, f, e1, e2, hf⟩ := id hv
  have h16 := two_pow_le4 hn4
  have h0 := two_pow_pos n
  have hal2 : al n + 1 = 2 ^ n := by unfold al; omega
  have lp : ∀ s, s ≤ 2 ^ n → mWp mCd 58 (5, [some (.ref a), some (.int (iZ p)), some (.int (iZ y)), some (.int (iZ (sumTo (powF w n p y) s))), some (.int (iZ s))], [], h, 0, 0) Q := by
    refine lp_up _ ?_ ?_
    · refine b58_5 hc e1 (k42 hv (b58_11 (fun _ => b58_66 hq) (fun q => ?_)))
      simp (disch := (first | assumption | omega | (unfold i32; omega) | (unfold i64; omega))) only [iZ_add, iZ_sub, iZ_mul, iZ_neg, lZ_add, lZ_sub, lZ_mul, lZ_neg, lZ_i, iZ_l, iZ_nat, Int.toNat_natCast, iZ_bit, iZ_shl, iZ_or, iZ_lt, iZ_le, iZ_eq, iZ_lt0, iZ_le0, iZ_gt0, iZ_ge0, iZ_eq0, cmp_eq0, cmp_lt0, cmp_le0, cmp_ge0, cmp_gt0, tf_0, tf_n0, Decidable.not_not, not_true_eq_false, not_false_eq_true, Int.toNat_natCast, onat] at q
      omega
    · intro s hs ih
      have hb1 := bt_lt s p
      have hor := or_lt2 n hn4 s hs p hp
      have w1 := h01 s hs
      have w2 := h01 _ hor
      have es : sumTo (powF w n p y) (s + 1) = sumTo (powF w n p y) s + powF w n p y s := rfl
      rw [es] at ih
      have st0 : powF w n p y s = 0 → mWp mCd 58 (60, [some (.ref a), some (.int (iZ p)), some (.int (iZ y)), some (.int (iZ (sumTo (powF w n p y) s))), some (.int (iZ s))], [], h, 0, 0) Q := by
        intro e
        rw [e, Int.add_zero] at ih
        refine b58_60 ?_
        rw [iZ_add]
        exact ih
      have adz : ad w p s = w (s ||| 2 ^ p) - w s := rfl
      refine b58_5 hc e1 (k42 hv (b58_11 (fun q => ?_) (fun _ => b58_14 (k126 (by omega) (by omega) (b58_20 (fun q => st0 ?_) (fun q => b58_23 hc e1 (k46 hv (by omega) (b58_29 (fun q2 => st0 ?_) (fun q2 => b58_32 hc e1 (k50 hv (by omega) (by omega) (b58_39 (fun q3 => st0 ?_) (fun q3 => b58_43 (fun q4 => b58_57 (b58_58 (b58_60 ?_))) (fun q4 => b58_48 hc e1 ?_)))))))))))))
      · simp (disch := (first | assumption | omega | (unfold i32; omega) | (unfold i64; omega))) only [iZ_add, iZ_sub, iZ_mul, iZ_neg, lZ_add, lZ_sub, lZ_mul, lZ_neg, lZ_i, iZ_l, iZ_nat, Int.toNat_natCast, iZ_bit, iZ_shl, iZ_or, iZ_lt, iZ_le, iZ_eq, iZ_lt0, iZ_le0, iZ_gt0, iZ_ge0, iZ_eq0, cmp_eq0, cmp_lt0, cmp_le0, cmp_ge0, cmp_gt0, tf_0, tf_n0, Decidable.not_not, not_true_eq_false, not_false_eq_true, Int.toNat_natCast, onat] at q
        omega
      · simp (disch := (first | assumption | omega | (unfold i32; omega) | (unfold i64; omega))) only [iZ_add, iZ_sub, iZ_mul, iZ_neg, lZ_add, lZ_sub, lZ_mul, lZ_neg, lZ_i, iZ_l, iZ_nat, Int.toNat_natCast, iZ_bit, iZ_shl, iZ_or, iZ_lt, iZ_le, iZ_eq, iZ_lt0, iZ_le0, iZ_gt0, iZ_ge0, iZ_eq0, cmp_eq0, cmp_lt0, cmp_le0, cmp_ge0, cmp_gt0, tf_0, tf_n0, Decidable.not_not, not_true_eq_false, not_false_eq_true, Int.toNat_natCast, onat] at q
        exact if_neg (fun z => by omega)
      · rw [iZ_eq0 (w_i hw _)] at q2
        exact if_neg (fun z => by omega)
      · have q3 : ¬ iZ (ad w p s) = iZ 1 := q3
        rw [iZ_eq (ad_i hw _ _) (by unfold i32; omega)] at q3
        exact if_neg (fun z => q3 z.2)
      · simp (disch := (first | assumption | omega | (unfold i32; omega) | (unfold i64; omega))) only [iZ_add, iZ_sub, iZ_mul, iZ_neg, lZ_add, lZ_sub, lZ_mul, lZ_neg, lZ_i, iZ_l, iZ_nat, Int.toNat_natCast, iZ_bit, iZ_shl, iZ_or, iZ_lt, iZ_le, iZ_eq, iZ_lt0, iZ_le0, iZ_gt0, iZ_ge0, iZ_eq0, cmp_eq0, cmp_lt0, cmp_le0, cmp_ge0, cmp_gt0, tf_0, tf_n0, Decidable.not_not, not_true_eq_false, not_false_eq_true, Int.toNat_natCast, onat] at q
        simp (disch := (first | assumption | omega | (unfold i32; omega) | (unfold i64; omega))) only [iZ_add, iZ_sub, iZ_mul, iZ_neg, lZ_add, lZ_sub, lZ_mul, lZ_neg, lZ_i, iZ_l, iZ_nat, Int.toNat_natCast, iZ_bit, iZ_shl, iZ_or, iZ_lt, iZ_le, iZ_eq, iZ_lt0, iZ_le0, iZ_gt0, iZ_ge0, iZ_eq0, cmp_eq0, cmp_lt0, cmp_le0, cmp_ge0, cmp_gt0, tf_0, tf_n0, Decidable.not_not, not_true_eq_false, not_false_eq_true, Int.toNat_natCast, onat] at q4
        have q3 : ¬ ¬ iZ (ad w p s) = iZ 1 := q3
        rw [iZ_eq (ad_i hw _ _) (by unfold i32; omega), Decidable.not_not] at q3
        rw [iZ_add, iZ_add]
        rw [show powF w n p y s = 1 from by unfold powF; rw [if_pos ⟨by omega, q3⟩, if_pos (by omega)]] at ih
        exact ih
      · simp (disch := (first | assumption | omega | (unfold i32; omega) | (unfold i64; omega))) only [iZ_add, iZ_sub, iZ_mul, iZ_neg, lZ_add, lZ_sub, lZ_mul, lZ_neg, lZ_i, iZ_l, iZ_nat, Int.toNat_natCast, iZ_bit, iZ_shl, iZ_or, iZ_lt, iZ_le, iZ_eq, iZ_lt0, iZ_le0, iZ_gt0, iZ_ge0, iZ_eq0, cmp_eq0, cmp_lt0, cmp_le0, cmp_ge0, cmp_gt0, tf_0, tf_n0, Decidable.not_not, not_true_eq_false, not_false_eq_true, Int.toNat_natCast, onat] at q
        simp (disch := (first | assumption | omega | (unfold i32; omega) | (unfold i64; omega))) only [iZ_add, iZ_sub, iZ_mul, iZ_neg, lZ_add, lZ_sub, lZ_mul, lZ_neg, lZ_i, iZ_l, iZ_nat, Int.toNat_natCast, iZ_bit, iZ_shl, iZ_or, iZ_lt, iZ_le, iZ_eq, iZ_lt0, iZ_le0, iZ_gt0, iZ_ge0, iZ_eq0, cmp_eq0, cmp_lt0, cmp_le0, cmp_ge0, cmp_gt0, tf_0, tf_n0, Decidable.not_not, not_true_eq_false, not_false_eq_true, Int.toNat_natCast, onat] at q4
        have q3 : ¬ ¬ iZ (ad w p s) = iZ 1 := q3
        rw [iZ_eq (ad_i hw _ _) (by unfold i32; omega), Decidable.not_not] at q3
        refine k57 hv (by omega) (ones_bt n hn4 s hs p hp (by omega)) (b58_54 (b58_58 (b58_60 ?_)))
        rw [iZ_add, iZ_add]
        rw [show powF w n p y s = fac (ones s) * fac (n - ones s - 1) from by unfold powF; rw [if_pos ⟨by omega, q3⟩, if_neg (by omega)]] at ih
        exact ih
  exact en58 (b58_0 (lp 0 (Nat.zero_le _)))
theorem updI_e (f : Nat → Int32) (k : Nat) (x : Int32) : upd f k x k = x := if_pos rfl
theorem updI_n (f : Nat → Int32) {k j : Nat} (x : Int32) (hj : j ≠ k) : upd f k x j = f j := if_neg hj
theorem k64 (hv : CV h a ci num n w) {g0 : Nat → Int32} (e3 : h[a + 2]? = some (aI 4 g0)) {y : Nat} (hy : y ≤ 1) (hq : ∀ h' g, Eqx [a + 2] h h' → h'[a + 2]? = some (aI 4 g) → (∀ p, p < n → g p = iZ (getsZ w n y p)) → Q none h') : mCt mCd 64 [.ref a, .int (iZ y)] h Q := by
  have hv0 := hv
  obtain ⟨ha, hc, ⟨hn1, hn4⟩, hw, fd, f, e1, e2, hf⟩ := hv
  have lp : ∀ p, p ≤ n → ∀ h1 g, Eqx [a + 2] h h1 → h1[a + 2]? = some (aI 4 g) → (∀ j, j < p → g j = iZ (getsZ w n y j)) → mWp mCd 64 (2, [some (.ref a), some (.int (iZ y)), some (.int (iZ p))], [], h1, 0, 0) Q := by
    refine lp_up _ ?_ ?_
    · intro h1 g hx g1 hg
      exact b64_2 hc ((hx.2 a (by simp)).trans e1) (fun _ => b64_37 (hq h1 g hx g1 hg)) (fun q => absurd (Int32.le_refl _) q)
    · intro p hp ih h1 g hx g1 hg
      have d1 := (hx.2 a (by simp)).trans e1
      have hv1 := hv0.eq hx (by simp) (by simp)
      refine b64_2 hc d1 (fun q => ?_) (fun _ => b64_10 hc d1 g1 (fun q => ?_) (fun _ => b64_19 hc d1 (k60 hv1 hp hy (b64_30 g1 (iZ_in (by omega) (by omega) (by decide)) (by omega) ?_))))
      · simp (disch := (first | assumption | omega | (unfold i32; omega) | (unfold i64; omega))) only [iZ_add, iZ_sub, iZ_mul, iZ_neg, lZ_add, lZ_sub, lZ_mul, lZ_neg, lZ_i, iZ_l, iZ_nat, Int.toNat_natCast, iZ_bit, iZ_shl, iZ_or, iZ_lt, iZ_le, iZ_eq, iZ_lt0, iZ_le0, iZ_gt0, iZ_ge0, iZ_eq0, cmp_eq0, cmp_lt0, cmp_le0, cmp_ge0, cmp_gt0, tf_0, tf_n0, Decidable.not_not, not_true_eq_false, not_false_eq_true, Int.toNat_natCast, onat] at q
        omega
      · simp (disch := (first | assumption | omega | (unfold i32; omega) | (unfold i64; omega))) only [iZ_add, iZ_sub, iZ_mul, iZ_neg, lZ_add, lZ_sub, lZ_mul, lZ_neg, lZ_i, iZ_l, iZ_nat, Int.toNat_natCast, iZ_bit, iZ_shl, iZ_or, iZ_lt, iZ_le, iZ_eq, iZ_lt0, iZ_le0, iZ_gt0, iZ_ge0, iZ_eq0, cmp_eq0, cmp_lt0, cmp_le0, cmp_ge0, cmp_gt0, tf_0, tf_n0, Decidable.not_not, not_true_eq_false, not_false_eq_true, Int.toNat_natCast, onat] at q
        omega
      · rw [iZ_add, iZ_nat (by omega) (by omega), Int.toNat_natCast]
        refine ih _ _ (hx.st _ (by simp)) (mGs g1) (fun j hj => ?_)
        by_cases q : j = p
        · subst q; rw [updI_e]
        · rw [updI_n _ _ q]; exact hg j (by omega)
  exact en64 (b64_0 (lp 0 (Nat.zero_le _) h g0 (Eqx.rf _ _) e3 (fun j hj => absurd hj (Nat.not_lt_zero _))))
theorem k65 (hv : CV h a ci num n w) {g : Nat → Int32} {y s : Nat} (e3 : h[a + 2]? = some (aI 4 g)) (hg : ∀ p, p < n → g p = iZ (getsZ w n y p)) (hy : y ≤ 1) (hs : s < 16) (hq : Q (some (.int (iZ (lacksZ w n y s)))) h) : mCt mCd 65 [.ref a, .int (iZ y), .int (iZ s)] h Q := by
  have hv0 := hv
  obtain ⟨ha, hc, ⟨hn1, hn4⟩, hw, fd, f, e1, e2, hf⟩ := hv
  have lp : ∀ p, p ≤ n → mWp mCd 65 (15, [some (.ref a), none, some (.int (iZ s)), some (.int (iZ (belowZ n y * w s - sumTo (lacksF w n y s) p))), some (.int (iZ p))], [], h, 0, 0) Q := by
    refine lp_up _ ?_ ?_
    · exact b65_15 hc e1 (fun _ => b65_57 hq) (fun q => absurd (Int32.le_refl _) q)
    · intro p hp ih
      have hb := bt_01 s p
      refine b65_15 hc e1 (fun q => ?_) (fun _ => b65_24 hc e1 e3 (fun q => ?_) (fun _ => b65_34 (k126 (by omega) (by omega) (b65_41 hc e1 e3 (iZ_in (by omega) (by omega) (by decide)) ?_))))
      · simp (disch := (first | assumption | omega | (unfold i32; omega) | (unfold i64; omega))) only [iZ_add, iZ_sub, iZ_mul, iZ_neg, lZ_add, lZ_sub, lZ_mul, lZ_neg, lZ_i, iZ_l, iZ_nat, Int.toNat_natCast, iZ_bit, iZ_shl, iZ_or, iZ_lt, iZ_le, iZ_eq, iZ_lt0, iZ_le0, iZ_gt0, iZ_ge0, iZ_eq0, cmp_eq0, cmp_lt0, cmp_le0, cmp_ge0, cmp_gt0, tf_0, tf_n0, Decidable.not_not, not_true_eq_false, not_false_eq_true, Int.toNat_natCast, onat] at q
        omega
      · simp (disch := (first | assumption | omega | (unfold i32; omega) | (unfold i64; omega))) only [iZ_add, iZ_sub, iZ_mul, iZ_neg, lZ_add, lZ_sub, lZ_mul, lZ_neg, lZ_i, iZ_l, iZ_nat, Int.toNat_natCast, iZ_bit, iZ_shl, iZ_or, iZ_lt, iZ_le, iZ_eq, iZ_lt0, iZ_le0, iZ_gt0, iZ_ge0, iZ_eq0, cmp_eq0, cmp_lt0, cmp_le0, cmp_ge0, cmp_gt0, tf_0, tf_n0, Decidable.not_not, not_true_eq_false, not_false_eq_true, Int.toNat_natCast, onat] at q
        omega
      · rw [iZ_nat (by omega) (by omega), Int.toNat_natCast, hg p hp, iZ_mul, iZ_sub, iZ_add]
        have es : belowZ n y * w s - sumTo (lacksF w n y s) (p + 1) = belowZ n y * w s - sumTo (lacksF w n y s) p - (bt s p : Nat) * getsZ w n y p := by
          show belowZ n y * w s - (sumTo (lacksF w n y s) p + lacksF w n y s p) = _
          unfold lacksF
          rcases hb with q | q
          · rw [if_neg (by omega), q]; simp
          · rw [if_pos q, q]; simp; omega
        rw [es] at ih
        exact ih
  refine en65 (b65_0 hc e1 (k46 hv0 hs (b65_5 hc e1 (k59 hv0 hy (b65_10 ?_)))))
  rw [iZ_mul]
  have := lp 0 (Nat.zero_le _)
  rw [show belowZ n y * w s - sumTo (lacksF w n y s) 0 = w s * belowZ n y from by show belowZ n y * w s - 0 = _; rw [Int.mul_comm]; omega] at this
  exact this
theorem k63 (hv : CV h a ci num n w) {g0 : Nat → Int32} (e3 : h[a + 2]? = some (aI 4 g0)) {y s : Nat} (hy : y ≤ 1) (hs : s < 16) (hq : ∀ h' g, Eqx [a + 2] h h' → h'[a + 2]? = some (aI 4 g) → Q (some (.int (iZ (lacksZ w n y s)))) h') : mCt mCd 63 [.ref a, .int (iZ y), .int (iZ s)] h Q := by
  have hv0 := hv
  obtain ⟨ha, hc, ⟨hn1, hn4⟩, hw, fd, f, e1, e2, hf⟩ := hv
  refine en63 (b63_0 hc e1 (k64 hv0 e3 hy (fun h1 g hx g1 hg => b63_5 hc ((hx.2 a (by simp)).trans e1) (k65 (hv0.eq hx (by simp) (by simp)) g1 hg hy hs (b63_11 (hq h1 g hx g1))))))
theorem k66 (hv : CV h a ci num n w) {g0 : Nat → Int32} (e3 : h[a + 2]? = some (aI 4 g0)) {y : Nat} (hy : y ≤ 1) (hq : ∀ h' g, Eqx [a + 2] h h' → h'[a + 2]? = some (aI 4 g) → Q (some (.int (iZ (worN w n y (al n))))) h') : mCt mCd 66 [.ref a, .int (iZ y)] h Q := by
  have hv0 := hv
  have hal := al_lt hv.2.2.1.2
  obtain ⟨ha, hc, ⟨hn1, hn4⟩, hw, fd, f, e1, e2, hf⟩ := hv
  have hal1 : 1 ≤ al n := by
    have := p2_lt (show 0 < n by omega)
    unfold al; omega
  refine en66 (b66_0 hc e1 (k64 hv0 e3 hy (fun h1 g hx g1 hg => b66_5 ?_)))
  have d1 := (hx.2 a (by simp)).trans e1
  have hv1 := hv0.eq hx (by simp) (by simp)
  have hq1 := hq h1 g hx g1
  have hlb : ∀ s, i32 (lacksZ w n y s) := fun s => by
    have := lacksZ_b hw (way := y) (s := s) hn1 hn4
    unfold bd at this; unfold i32; omega
  have lp : ∀ k, k ≤ al n → 1 ≤ k → mWp mCd 66 (12, [some (.ref a), some (.int (iZ y)), some (.int (iZ (worN w n y k))), some (.int (iZ (if worN w n y k < 0 then 0 else lacksZ w n y (worN w n y k).toNat))), some (.int (iZ k)), none], [], h1, 0, 0) Q := by
    refine lp_up _ ?_ ?_
    · intro _
      refine b66_12 hc d1 (k42 hv1 (b66_18 (fun _ => b66_53 hq1) (fun q => absurd (Int32.le_refl _) q)))
    · intro k hk ih hk1
      have ih := ih (by omega)
      have er : worN w n y (k + 1) = if k = 0 then -1 else if worN w n y k < 0 ∨ lacksZ w n y k > lacksZ w n y (worN w n y k).toNat then (k : Int) else worN w n y k := rfl
      rw [er, if_neg (by omega)] at ih
      have hr := worN_r w n y k
      have hl1 := hlb k
      have hl2 := hlb (worN w n y k).toNat
      generalize worN w n y k = u at *
      have take : (u < 0 ∨ lacksZ w n y k > lacksZ w n y u.toNat) → mWp mCd 66 (41, [some (.ref a), some (.int (iZ y)), none, none, some (.int (iZ k)), some (.int (iZ (lacksZ w n y k)))], [], h1, 0, 0) Q := by
        intro hc2
        rw [if_pos hc2, if_neg (by omega), Int.toNat_natCast] at ih
        refine b66_41 (b66_47 ?_)
        rw [iZ_add]
        exact ih
      refine b66_12 hc d1 (k42 hv1 (b66_18 (fun q => ?_) (fun _ => b66_21 hc d1 (k65 hv1 g1 hg hy (by omega) (b66_28 (fun q => take ?_) (fun q => b66_35 (fun q2 => b66_47 ?_) (fun q2 => take ?_)))))))
      · simp (disch := (first | assumption | omega | (unfold i32; omega) | (unfold i64; omega))) only [iZ_add, iZ_sub, iZ_mul, iZ_neg, lZ_add, lZ_sub, lZ_mul, lZ_neg, lZ_i, iZ_l, iZ_nat, Int.toNat_natCast, iZ_bit, iZ_shl, iZ_or, iZ_lt, iZ_le, iZ_eq, iZ_lt0, iZ_le0, iZ_gt0, iZ_ge0, iZ_eq0, cmp_eq0, cmp_lt0, cmp_le0, cmp_ge0, cmp_gt0, tf_0, tf_n0, Decidable.not_not, not_true_eq_false, not_false_eq_true, Int.toNat_natCast, onat] at q
        omega
      · rw [iZ_eq (by unfold i32; omega) (by unfold i32; omega)] at q
        omega
      · rw [iZ_eq (by unfold i32; omega) (by unfold i32; omega)] at q
        rw [if_neg (show ¬ u < 0 by omega)] at q2 ⊢
        rw [iZ_le hl1 hl2] at q2
        rw [if_neg (show ¬ (u < 0 ∨ lacksZ w n y k > lacksZ w n y u.toNat) by omega), if_neg (by omega)] at ih
        rw [iZ_add]
        exact ih
      · rw [iZ_eq (by unfold i32; omega) (by unfold i32; omega)] at q
        rw [if_neg (show ¬ u < 0 by omega), iZ_le hl1 hl2] at q2
        omega
  exact lp 1 hal1 (Nat.le_refl 1)
theorem k68 (hv : CV h a ci num n w) {c : Nat} (hcm : c ∈ leanC n) (hq : Q (some (.int (iZ (lExc w n c)))) h) : mCt mCd 68 [.ref a, .long (lZ c)] h Q := by
  have hv0 := hv
  obtain ⟨ha, hc, ⟨hn1, hn4⟩, hw, fd, f, e1, e2, hf⟩ := hv
  have st : ∀ (k : Nat) (x : Int), k < 4 → mWp mCd 68 (11, [some (.ref a), some (.long (lZ c)), none, some (.int (iZ (x + (lW c k : Nat) * w (lS c k)))), some (.int (iZ ((k + 1 : Nat) : Int)))], [], h, 0, 0) Q → mWp mCd 68 (11, [some (.ref a), some (.long (lZ c)), none, some (.int (iZ x)), some (.int (iZ k))], [], h, 0, 0) Q := by
    intro k x hk h1
    refine b68_11 (fun q => ?_) (fun _ => b68_17 (k131 hn4 hcm hk (b68_24 (k130 hn4 hcm hk (b68_31 hc e1 (k46 hv0 (Nat.mod_lt _ (by decide)) (b68_34 ?_)))))))
    · simp (disch := (first | assumption | omega | (unfold i32; omega) | (unfold i64; omega))) only [iZ_add, iZ_sub, iZ_mul, iZ_neg, lZ_add, lZ_sub, lZ_mul, lZ_neg, lZ_i, iZ_l, iZ_nat, Int.toNat_natCast, iZ_bit, iZ_shl, iZ_or, iZ_lt, iZ_le, iZ_eq, iZ_lt0, iZ_le0, iZ_gt0, iZ_ge0, iZ_eq0, cmp_eq0, cmp_lt0, cmp_le0, cmp_ge0, cmp_gt0, tf_0, tf_n0, Decidable.not_not, not_true_eq_false, not_false_eq_true, Int.toNat_natCast, onat] at q
      omega
    · rw [iZ_mul, iZ_add, iZ_add]
      exact h1
  refine en68 (b68_0 hc e1 (k47 hv0 (b68_6 ?_)))
  rw [iZ_mul]
  refine st 0 _ (by decide) (st 1 _ (by decide) (st 2 _ (by decide) (st 3 _ (by decide) (b68_11 (fun _ => b68_43 ?_) (fun q => absurd (Int32.le_refl _) q)))))
  exact hq
/-- rows of LEAN weights -/
def LN (h : mH) : Prop := ∀ n, n ≤ 4 → ∃ g : Nat → Int64, h[leanR n]? = some (aL (leanC n).length g) ∧ ∀ k, k < (leanC n).length → g k = lZ ((leanC n).getD k 0)
theorem lean_l41 : ∀ n, n ≤ 4 → (leanC n).length ≤ 41 := by decide +kernel
theorem k67 (hv : CV h a ci num n w) (hl : LN h) (hq : Q (some (.long (lZ (barC n w : Nat)))) h) : mCt mCd 67 [.ref a] h Q := by
  have hv0 := hv
  obtain ⟨ha, hc, ⟨hn1, hn4⟩, hw, fd, f, e1, e2, hf⟩ := hv
  obtain ⟨g, eg, hg⟩ := hl n hn4
  have h41 := lean_l41 n hn4
  have lp : ∀ j, j ≤ (leanC n).length → mWp mCd 67 (19, [some (.ref a), some (.ref (leanR n)), some (.long (lZ (bc n w j : Nat))), none, some (.long (lZ (if j = 0 then 0 else lExc w n (bc n w j)))), none, some (.long (lZ (if j = 0 then 0 else lTot (bc n w j)))), none, some (.int (iZ j)), none, none, none, none], [], h, 0, 0) Q := by
    refine lp_up _ ?_ ?_
    · exact b67_19 eg (fun _ => b67_85 hq) (fun q => absurd (Int32.le_refl _) q)
    · intro j hj ih
      have hin : ¬ (iZ j < 0 ∨ (leanC n).length ≤ (iZ j).toNatClampNeg) := iZ_in (by omega) (by omega) (by omega)
      have tn : (iZ j).toNatClampNeg = j := by rw [iZ_nat (by omega) (by omega)]; omega
      have hcm := lc_mem hj
      have eb : bc n w (j + 1) = if j = 0 then (leanC n).getD 0 0 else if lExc w n (bc n w j) * lTot ((leanC n).getD j 0) < lExc w n ((leanC n).getD j 0) * lTot (bc n w j) then (leanC n).getD j 0 else bc n w j := rfl
      have bx := lExc_b (n := n) (c := (leanC n).getD j 0) hw
      have tx := lean_tot n hn4 _ hcm
      have hgj := hg j hj
      rw [eb, if_neg (show ¬ j + 1 = 0 by omega), if_neg (show ¬ j + 1 = 0 by omega)] at ih
      have take : bc n w (j + 1) = (leanC n).getD j 0 → mWp mCd 67 (66, [some (.ref a), some (.ref (leanR n)), none, none, none, none, none, none, some (.int (iZ j)), some (.long (lZ (lExc w n ((leanC n).getD j 0)))), none, some (.long (lZ (lTot ((leanC n).getD j 0)))), none], [], h, 0, 0) Q := by
        intro e
        refine b67_66 eg hin (b67_79 ?_)
        rw [tn, hgj, iZ_add]
        rw [← eb, e] at ih
        exact ih
      refine b67_19 eg (fun q => ?_) (fun _ => b67_26 eg hin hc e1 ?_)
      · simp (disch := (first | assumption | omega | (unfold i32; omega) | (unfold i64; omega))) only [iZ_add, iZ_sub, iZ_mul, iZ_neg, lZ_add, lZ_sub, lZ_mul, lZ_neg, lZ_i, iZ_l, iZ_nat, Int.toNat_natCast, iZ_bit, iZ_shl, iZ_or, iZ_lt, iZ_le, iZ_eq, iZ_lt0, iZ_le0, iZ_gt0, iZ_ge0, iZ_eq0, cmp_eq0, cmp_lt0, cmp_le0, cmp_ge0, cmp_gt0, tf_0, tf_n0, Decidable.not_not, not_true_eq_false, not_false_eq_true, Int.toNat_natCast, onat] at q
        omega
      · rw [tn, hgj]
        refine k68 hv0 hcm (b67_34 eg hin ?_)
        rw [tn, hgj]
        refine k133 hn4 hcm ?_
        rw [iZ_l (by unfold bd at bx; unfold i32; omega)]
        refine b67_44 (fun q => ?_) (fun q => ?_)
        · rw [iZ_l (by unfold i32; omega)]
          simp (disch := (first | assumption | omega | (unfold i32; omega) | (unfold i64; omega))) only [iZ_add, iZ_sub, iZ_mul, iZ_neg, lZ_add, lZ_sub, lZ_mul, lZ_neg, lZ_i, iZ_l, iZ_nat, Int.toNat_natCast, iZ_bit, iZ_shl, iZ_or, iZ_lt, iZ_le, iZ_eq, iZ_lt0, iZ_le0, iZ_gt0, iZ_ge0, iZ_eq0, cmp_eq0, cmp_lt0, cmp_le0, cmp_ge0, cmp_gt0, tf_0, tf_n0, Decidable.not_not, not_true_eq_false, not_false_eq_true, Int.toNat_natCast, onat] at q
          have q : j = 0 := by omega
          subst q
          exact take rfl
        · rw [iZ_l (by unfold i32; omega)]
          simp (disch := (first | assumption | omega | (unfold i32; omega) | (unfold i64; omega))) only [iZ_add, iZ_sub, iZ_mul, iZ_neg, lZ_add, lZ_sub, lZ_mul, lZ_neg, lZ_i, iZ_l, iZ_nat, Int.toNat_natCast, iZ_bit, iZ_shl, iZ_or, iZ_lt, iZ_le, iZ_eq, iZ_lt0, iZ_le0, iZ_gt0, iZ_ge0, iZ_eq0, cmp_eq0, cmp_lt0, cmp_le0, cmp_ge0, cmp_gt0, tf_0, tf_n0, Decidable.not_not, not_true_eq_false, not_false_eq_true, Int.toNat_natCast, onat] at q
          have q : ¬ j = 0 := by omega
          rw [if_neg q, if_neg q]
          have m := bc_mem n w (j - 1) (by omega)
          rw [show j - 1 + 1 = j by omega] at m
          have ty := lean_tot n hn4 _ m
          have by_ := lExc_b (n := n) (c := bc n w j) hw
          have m1 := bd_mul bx (show bd 24 (lTot (bc n w j)) from ⟨by omega, by omega⟩)
          have m2 := bd_mul by_ (show bd 24 (lTot ((leanC n).getD j 0)) from ⟨by omega, by omega⟩)
          have i1 : i64 (lExc w n ((leanC n).getD j 0) * lTot (bc n w j)) := by unfold bd at m1; unfold i64; omega
          have i2 : i64 (lExc w n (bc n w j) * lTot ((leanC n).getD j 0)) := by unfold bd at m2; unfold i64; omega
          refine b67_52 (fun q2 => b67_79 ?_) (fun q2 => take ?_)
          · rw [lZ_mul, lZ_mul, cmp_le0 i1 i2] at q2
            rw [iZ_add]
            rw [if_neg q, if_neg (by omega)] at ih
            exact ih
          · rw [lZ_mul, lZ_mul, cmp_le0 i1 i2] at q2
            rw [eb, if_neg q, if_pos (by omega)]
  exact en67 (b67_0 hc e1 (k129 hn4 (b67_7 (lp 0 (Nat.zero_le _)))))
/-- a worth put -/
theorem k48 (hv : CV h a ci num n w) {s : Nat} (h1 : 1 ≤ s) (hs : s ≤ al n) {x : Int} (hx : bd 16000 x) (hq : ∀ h', Eqx [a, a + 1] h h' → CV h' a ci num n (set1 w s x) → h'[a]? = some (oV ci a (iZ num) (iZ n) (iZ 0)) → Q none h') : mCt mCd 48 [.ref a, .int (iZ s), .int (iZ x)] h Q := by
  have hv0 := hv
  have hal := al_lt hv.2.2.1.2
  obtain ⟨ha, hc, ⟨hn1, hn4⟩, hw, fd, f, e1, e2, hf⟩ := hv
  refine en48 (b48_0 hc e1 (k44 hv0 (by unfold i32; omega) (b48_5 (fun q => ?_) (fun _ => b48_8 hc e1 e2 (fun q => ?_) (fun _ => b48_17 hc e1 e2 (iZ_in (by omega) (by omega) (by decide)) (by omega) ?_)))))
  · rw [tf_0] at q
    omega
  · simp (disch := (first | assumption | omega | (unfold i32; omega) | (unfold i64; omega))) only [iZ_add, iZ_sub, iZ_mul, iZ_neg, lZ_add, lZ_sub, lZ_mul, lZ_neg, lZ_i, iZ_l, iZ_nat, Int.toNat_natCast, iZ_bit, iZ_shl, iZ_or, iZ_lt, iZ_le, iZ_eq, iZ_lt0, iZ_le0, iZ_gt0, iZ_ge0, iZ_eq0, cmp_eq0, cmp_lt0, cmp_le0, cmp_ge0, cmp_gt0, tf_0, tf_n0, Decidable.not_not, not_true_eq_false, not_false_eq_true, Int.toNat_natCast, onat] at q
    omega
  · rw [iZ_nat (by omega) (by omega), Int.toNat_natCast]
    refine hq _ (((Eqx.rf _ _).st _ (by simp)).st _ (by simp)) ⟨ha, hc, ⟨hn1, hn4⟩, fun t => ?_, iZ 0, _, mGs (mGn (by omega) e1), mGn (by omega) (mGs e2), fun t ht => ?_⟩ (mGs (mGn (by omega) e1))
    · unfold set1
      split
      · exact hx
      · exact hw t
    · unfold set1
      by_cases q : t = s
      · subst q; rw [updI_e, if_pos rfl]
      · rw [updI_n _ _ q, if_neg q]; exact hf t ht
end CT
