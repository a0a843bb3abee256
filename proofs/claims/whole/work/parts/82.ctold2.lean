/-! ===== the class: a venture, read, on ===== -/

section CT
variable {h : mH} {Q : Option Value → mH → Prop} {a ci num n : Nat} {w : Nat → Int}
/-- the first greater set -/
theorem k56 (hv : CV h a ci num n w) {p s : Nat} (hp : p < n) (hs : s < 2 ^ n) (hq : Q (some (.int (iZ ((fst1 (fun b => if s < b ∧ s &&& b = s ∧ bt b p = 0 ∧ ad w p b < ad w p s then some (b : Int) else none) (2 ^ n)).getD (-1))))) h) : mCt mCd 56 [.ref a, .int (iZ p), .int (iZ s)] h Q := by
  have hal := al_lt hv.2.2.1.2
  obtain ⟨ha, hc, ⟨hn1, hn4⟩, hw, fd, f, e1, e2, hf⟩ := id hv
  have h16 := two_pow_le4 hn4
  have h0 := two_pow_pos n
  have hal2 : al n + 1 = 2 ^ n := by unfold al; omega
  generalize hP : (fun b : Nat => if s < b ∧ s &&& b = s ∧ bt b p = 0 ∧ ad w p b < ad w p s then some (b : Int) else none) = P at hq
  have lp : ∀ b, b ≤ 2 ^ n → s < b → fst1 P b = none → mWp mCd 56 (12, [some (.ref a), some (.int (iZ p)), some (.int (iZ s)), some (.int (iZ (ad w p s))), some (.int (iZ b))], [], h, 0, 0) Q := by
    refine lp_up _ ?_ ?_
    · intro _ hno
      rw [hno] at hq
      refine b56_12 hc e1 (k42 hv (b56_18 (fun _ => b56_58 hq) (fun q => ?_)))
      simp (disch := (first | assumption | omega | (unfold i32; omega) | (unfold i64; omega))) only [iZ_add, iZ_sub, iZ_mul, iZ_neg, lZ_add, lZ_sub, lZ_mul, lZ_neg, lZ_i, iZ_l, iZ_nat, Int.toNat_natCast, iZ_bit, iZ_shl, iZ_or, iZ_lt, iZ_le, iZ_eq, iZ_lt0, iZ_le0, iZ_gt0, iZ_ge0, iZ_eq0, cmp_eq0, cmp_lt0, cmp_le0, cmp_ge0, cmp_gt0, tf_0, tf_n0, Decidable.not_not, not_true_eq_false, not_false_eq_true, Int.toNat_natCast, onat] at q
      omega
    · intro b hb ih hsb hno
      have hb1 := bt_lt b p
      have st : P b = none → mWp mCd 56 (52, [some (.ref a), some (.int (iZ p)), some (.int (iZ s)), some (.int (iZ (ad w p s))), some (.int (iZ b))], [], h, 0, 0) Q := by
        intro hd
        refine b56_52 ?_
        rw [iZ_add]
        exact ih (by omega) (fst1_go hno hd)
      have hPb : P b = if s < b ∧ s &&& b = s ∧ bt b p = 0 ∧ ad w p b < ad w p s then some (b : Int) else none := by rw [← hP]
      have handle := iZ_iand b (by omega) s (by omega)
      have hcm : b &&& s = s &&& b := Nat.and_comm b s
      have hal16 : b &&& s < 16 := Nat.lt_of_le_of_lt Nat.and_le_right (by omega)
      refine b56_12 hc e1 (k42 hv (b56_18 (fun q => ?_) (fun _ => b56_21 (fun q => st ?_) (fun q => b56_29 (k126 (by omega) (by omega) (b56_35 (fun q2 => st ?_) (fun q2 => b56_38 hc e1 (k50 hv (by omega) (by omega) (b56_45 (fun q3 => st ?_) (fun q3 => b56_49 ?_))))))))))
      · simp (disch := (first | assumption | omega | (unfold i32; omega) | (unfold i64; omega))) only [iZ_add, iZ_sub, iZ_mul, iZ_neg, lZ_add, lZ_sub, lZ_mul, lZ_neg, lZ_i, iZ_l, iZ_nat, Int.toNat_natCast, iZ_bit, iZ_shl, iZ_or, iZ_lt, iZ_le, iZ_eq, iZ_lt0, iZ_le0, iZ_gt0, iZ_ge0, iZ_eq0, cmp_eq0, cmp_lt0, cmp_le0, cmp_ge0, cmp_gt0, tf_0, tf_n0, Decidable.not_not, not_true_eq_false, not_false_eq_true, Int.toNat_natCast, onat] at q
        omega
      · rw [handle, iZ_eq (by unfold i32; omega) (by unfold i32; omega)] at q
        rw [hPb, if_neg (fun z => q (by rw [hcm, z.2.1]))]
      · simp (disch := (first | assumption | omega | (unfold i32; omega) | (unfold i64; omega))) only [iZ_add, iZ_sub, iZ_mul, iZ_neg, lZ_add, lZ_sub, lZ_mul, lZ_neg, lZ_i, iZ_l, iZ_nat, Int.toNat_natCast, iZ_bit, iZ_shl, iZ_or, iZ_lt, iZ_le, iZ_eq, iZ_lt0, iZ_le0, iZ_gt0, iZ_ge0, iZ_eq0, cmp_eq0, cmp_lt0, cmp_le0, cmp_ge0, cmp_gt0, tf_0, tf_n0, Decidable.not_not, not_true_eq_false, not_false_eq_true, Int.toNat_natCast, onat] at q2
        rw [hPb, if_neg (fun z => by omega)]
      · rw [iZ_le (ad_i hw _ _) (ad_i hw _ _)] at q3
        rw [hPb, if_neg (fun z => by omega)]
      · rw [handle, iZ_eq (by unfold i32; omega) (by unfold i32; omega), Decidable.not_not] at q
        simp (disch := (first | assumption | omega | (unfold i32; omega) | (unfold i64; omega))) only [iZ_add, iZ_sub, iZ_mul, iZ_neg, lZ_add, lZ_sub, lZ_mul, lZ_neg, lZ_i, iZ_l, iZ_nat, Int.toNat_natCast, iZ_bit, iZ_shl, iZ_or, iZ_lt, iZ_le, iZ_eq, iZ_lt0, iZ_le0, iZ_gt0, iZ_ge0, iZ_eq0, cmp_eq0, cmp_lt0, cmp_le0, cmp_ge0, cmp_gt0, tf_0, tf_n0, Decidable.not_not, not_true_eq_false, not_false_eq_true, Int.toNat_natCast, onat] at q2
        rw [iZ_le (ad_i hw _ _) (ad_i hw _ _)] at q3
        have : P b = some (b : Int) := by
          rw [hPb, if_pos]
          exact ⟨hsb, by rw [← hcm]; omega, by omega, by omega⟩
        rw [fst1_at hno this hb] at hq
        exact hq
  refine en56 (b56_0 hc e1 (k50 hv (by omega) (by omega) (b56_6 ?_)))
  rw [iZ_add]
  refine lp (s + 1) (by omega) (by omega) (fst1_0 fun j hj => ?_)
  rw [← hP]
  exact if_neg (fun z => by omega)
theorem bt_and_p : ∀ s, s < 16 → ∀ b, b < 16 → ∀ p, p < 4 → s &&& b = s → bt s p = 1 → bt b p = 1 := by decide +kernel
theorem fst1_map (P : Nat → Option Int) (g : Int → Int) : ∀ e, fst1 (fun b => (P b).map g) e = (fst1 P e).map g
  | 0 => rfl
  | e + 1 => by
    show (fst1 (fun b => (P b).map g) e).or ((P e).map g) = ((fst1 P e).or (P e)).map g
    rw [fst1_map P g e]
    cases fst1 P e <;> rfl
theorem k55 (hv : CV h a ci num n w) (hq : Q (some (.int (iZ (whereZ w n)))) h) : mCt mCd 55 [.ref a] h Q := by
  have hal := al_lt hv.2.2.1.2
  obtain ⟨ha, hc, ⟨hn1, hn4⟩, hw, fd, f, e1, e2, hf⟩ := id hv
  have h16 := two_pow_le4 hn4
  have h0 := two_pow_pos n
  have hal2 : al n + 1 = 2 ^ n := by unfold al; omega
  unfold whereZ at hq
  generalize hP : (fun p => fst1 (fun a => fst1 (whereP w p a) (2 ^ n)) (2 ^ n)) = P at hq
  have lp : ∀ p, p ≤ n → fst1 P p = none → mWp mCd 55 (2, [some (.ref a), some (.int (iZ p)), none, none], [], h, 0, 0) Q := by
    refine lp_up _ ?_ ?_
    · intro hno
      rw [hno] at hq
      exact b55_2 hc e1 (fun _ => b55_70 hq) (fun q => absurd (Int32.le_refl _) q)
    · intro p hp ih hno
      have hPp : P p = fst1 (fun a => fst1 (whereP w p a) (2 ^ n)) (2 ^ n) := by rw [← hP]
      have l2 : ∀ s, s ≤ 2 ^ n → fst1 (fun a => fst1 (whereP w p a) (2 ^ n)) s = none → mWp mCd 55 (12, [some (.ref a), some (.int (iZ p)), some (.int (iZ s)), none], [], h, 0, 0) Q := by
        refine lp_up _ ?_ ?_
        · intro hn2
          refine b55_12 hc e1 (k42 hv (b55_17 (fun _ => b55_64 ?_) (fun q => ?_)))
          · rw [iZ_add]
            exact ih (fst1_go hno (hPp.trans hn2))
          · simp (disch := (first | assumption | omega | (unfold i32; omega) | (unfold i64; omega))) only [iZ_add, iZ_sub, iZ_mul, iZ_neg, lZ_add, lZ_sub, lZ_mul, lZ_neg, lZ_i, iZ_l, iZ_nat, Int.toNat_natCast, iZ_bit, iZ_shl, iZ_or, iZ_lt, iZ_le, iZ_eq, iZ_lt0, iZ_le0, iZ_gt0, iZ_ge0, iZ_eq0, cmp_eq0, cmp_lt0, cmp_le0, cmp_ge0, cmp_gt0, tf_0, tf_n0, Decidable.not_not, not_true_eq_false, not_false_eq_true, Int.toNat_natCast, onat] at q
            omega
        · intro s hs ih2 hn2
          have hb1 := bt_lt s p
          have st : fst1 (whereP w p s) (2 ^ n) = none → mWp mCd 55 (58, [some (.ref a), some (.int (iZ p)), some (.int (iZ s)), none], [], h, 0, 0) Q := by
            intro hd
            refine b55_58 ?_
            rw [iZ_add]
            exact ih2 (fst1_go hn2 hd)
          have hmap : bt s p = 0 → fst1 (whereP w p s) (2 ^ n) = (fst1 (fun b => if s < b ∧ s &&& b = s ∧ bt b p = 0 ∧ ad w p b < ad w p s then some (b : Int) else none) (2 ^ n)).map (fun x => 256 * (p : Int) + 16 * (s : Int) + x) := by
            intro _
            rw [← fst1_map]
            refine fst1_c fun b _ => ?_
            show (if s < b ∧ s &&& b = s ∧ bt b p = 0 ∧ ad w p b < ad w p s then some (256 * (p : Int) + 16 * s + b) else none) = _
            split <;> rfl
          have hsub : bt s p = 1 → fst1 (whereP w p s) (2 ^ n) = none := by
            intro hb
            refine fst1_0 fun b hb2 => if_neg fun z => ?_
            have := bt_and_p s (by omega) b (by omega) p (by omega) z.2.1 hb
            omega
          refine b55_12 hc e1 (k42 hv (b55_17 (fun q => ?_) (fun _ => b55_20 (k126 (by omega) (by omega) (b55_25 (fun q => b55_33 hc e1 ?_) (fun q => b55_29 (b55_39 (fun _ => st ?_) (fun q2 => absurd rfl q2))))))))
          · simp (disch := (first | assumption | omega | (unfold i32; omega) | (unfold i64; omega))) only [iZ_add, iZ_sub, iZ_mul, iZ_neg, lZ_add, lZ_sub, lZ_mul, lZ_neg, lZ_i, iZ_l, iZ_nat, Int.toNat_natCast, iZ_bit, iZ_shl, iZ_or, iZ_lt, iZ_le, iZ_eq, iZ_lt0, iZ_le0, iZ_gt0, iZ_ge0, iZ_eq0, cmp_eq0, cmp_lt0, cmp_le0, cmp_ge0, cmp_gt0, tf_0, tf_n0, Decidable.not_not, not_true_eq_false, not_false_eq_true, Int.toNat_natCast, onat] at q
            omega
          · simp (disch := (first | assumption | omega | (unfold i32; omega) | (unfold i64; omega))) only [iZ_add, iZ_sub, iZ_mul, iZ_neg, lZ_add, lZ_sub, lZ_mul, lZ_neg, lZ_i, iZ_l, iZ_nat, Int.toNat_natCast, iZ_bit, iZ_shl, iZ_or, iZ_lt, iZ_le, iZ_eq, iZ_lt0, iZ_le0, iZ_gt0, iZ_ge0, iZ_eq0, cmp_eq0, cmp_lt0, cmp_le0, cmp_ge0, cmp_gt0, tf_0, tf_n0, Decidable.not_not, not_true_eq_false, not_false_eq_true, Int.toNat_natCast, onat] at q
            have hm := hmap (by omega)
            refine k56 hv hp (by omega) ?_
            cases hr : fst1 (fun b => if s < b ∧ s &&& b = s ∧ bt b p = 0 ∧ ad w p b < ad w p s then some (b : Int) else none) (2 ^ n) with
            | none =>
              rw [hr] at hm
              exact b55_39 (fun _ => st hm) (fun q2 => absurd rfl q2)
            | some x =>
              rw [hr] at hm
              obtain ⟨b, hb, hx⟩ := fst1_in hr
              have hxb : x = b := by
                split at hx
                · simpa using hx.symm
                · cases hx
              subst hxb
              refine b55_39 (fun q2 => ?_) (fun q2 => b55_45 ?_)
              · have q2 : iZ (b : Int) = iZ (-1) := q2
                simp (disch := (first | assumption | omega | (unfold i32; omega) | (unfold i64; omega))) only [iZ_add, iZ_sub, iZ_mul, iZ_neg, lZ_add, lZ_sub, lZ_mul, lZ_neg, lZ_i, iZ_l, iZ_nat, Int.toNat_natCast, iZ_bit, iZ_shl, iZ_or, iZ_lt, iZ_le, iZ_eq, iZ_lt0, iZ_le0, iZ_gt0, iZ_ge0, iZ_eq0, cmp_eq0, cmp_lt0, cmp_le0, cmp_ge0, cmp_gt0, tf_0, tf_n0, Decidable.not_not, not_true_eq_false, not_false_eq_true, Int.toNat_natCast, onat] at q2
                omega
              · rw [fst1_at hno (hPp.trans (fst1_at hn2 hm hs)) hp] at hq
                show Q (some (.int (iZ 256 * iZ p + iZ 16 * iZ s + iZ b))) h
                rw [iZ_mul, iZ_mul, iZ_add, iZ_add]
                exact hq
          · simp (disch := (first | assumption | omega | (unfold i32; omega) | (unfold i64; omega))) only [iZ_add, iZ_sub, iZ_mul, iZ_neg, lZ_add, lZ_sub, lZ_mul, lZ_neg, lZ_i, iZ_l, iZ_nat, Int.toNat_natCast, iZ_bit, iZ_shl, iZ_or, iZ_lt, iZ_le, iZ_eq, iZ_lt0, iZ_le0, iZ_gt0, iZ_ge0, iZ_eq0, cmp_eq0, cmp_lt0, cmp_le0, cmp_ge0, cmp_gt0, tf_0, tf_n0, Decidable.not_not, not_true_eq_false, not_false_eq_true, Int.toNat_natCast, onat] at q
            exact hsub (by omega)
      refine b55_2 hc e1 (fun q => ?_) (fun _ => b55_10 (l2 0 (Nat.zero_le _) rfl))
      simp (disch := (first | assumption | omega | (unfold i32; omega) | (unfold i64; omega))) only [iZ_add, iZ_sub, iZ_mul, iZ_neg, lZ_add, lZ_sub, lZ_mul, lZ_neg, lZ_i, iZ_l, iZ_nat, Int.toNat_natCast, iZ_bit, iZ_shl, iZ_or, iZ_lt, iZ_le, iZ_eq, iZ_lt0, iZ_le0, iZ_gt0, iZ_ge0, iZ_eq0, cmp_eq0, cmp_lt0, cmp_le0, cmp_ge0, cmp_gt0, tf_0, tf_n0, Decidable.not_not, not_true_eq_false, not_false_eq_true, Int.toNat_natCast, onat] at q
      omega
  exact en55 (b55_0 (lp 0 (Nat.zero_le _) rfl))
theorem k57 (hv : CV h a ci num n w) {s : Nat} (hs : s < 16) (ho : ones s + 1 ≤ n) (hq : Q (some (.int (iZ (fac (ones s) * fac (n - ones s - 1))))) h) : mCt mCd 57 [.ref a, .int (iZ s)] h Q := by
  obtain ⟨ha, hc, ⟨hn1, hn4⟩, hw, fd, f, e1, e2, hf⟩ := id hv
  refine en57 (b57_0 (k217 hs (b57_4 (k128 (by omega) (b57_9 hc e1 ?_)))))
  rw [iZ_sub, iZ_sub, show (n : Int) - 1 - (ones s : Nat) = ((n - ones s - 1 : Nat) : Int) by omega]
  refine k128 (by omega) (b57_20 ?_)
  rw [iZ_mul]
  exact hq
theorem k61 (hv : CV h a ci num n w) {p : Nat} (hp : p < n) (hq : Q (some (.int (iZ (turnsZ w n p)))) h) : mCt mCd 61 [.ref a, .int (iZ p)] h Q := by
  have hal := al_lt hv.2.2.1.2
  obtain ⟨ha, hc, ⟨hn1, hn4⟩, hw, fd, f, e1, e2, hf⟩ := id hv
  have h16 := two_pow_le4 hn4
  have h0 := two_pow_pos n
  have hal2 : al n + 1 = 2 ^ n := by unfold al; omega
  have lp : ∀ s, s ≤ 2 ^ n → mWp mCd 61 (4, [some (.ref a), some (.int (iZ p)), some (.int (iZ (sumTo (turnsF w n p) s))), some (.int (iZ s))], [], h, 0, 0) Q := by
    refine lp_up _ ?_ ?_
    · refine b61_4 hc e1 (k42 hv (b61_9 (fun _ => b61_41 hq) (fun q => ?_)))
      simp (disch := (first | assumption | omega | (unfold i32; omega) | (unfold i64; omega))) only [iZ_add, iZ_sub, iZ_mul, iZ_neg, lZ_add, lZ_sub, lZ_mul, lZ_neg, lZ_i, iZ_l, iZ_nat, Int.toNat_natCast, iZ_bit, iZ_shl, iZ_or, iZ_lt, iZ_le, iZ_eq, iZ_lt0, iZ_le0, iZ_gt0, iZ_ge0, iZ_eq0, cmp_eq0, cmp_lt0, cmp_le0, cmp_ge0, cmp_gt0, tf_0, tf_n0, Decidable.not_not, not_true_eq_false, not_false_eq_true, Int.toNat_natCast, onat] at q
      omega
    · intro s hs ih
      have hb1 := bt_lt s p
      have es : sumTo (turnsF w n p) (s + 1) = sumTo (turnsF w n p) s + turnsF w n p s := rfl
      rw [es] at ih
      refine b61_4 hc e1 (k42 hv (b61_9 (fun q => ?_) (fun _ => b61_12 (k126 (by omega) (by omega) (b61_17 (fun q => b61_35 ?_) (fun q => b61_20 hc e1 ?_))))))
      · simp (disch := (first | assumption | omega | (unfold i32; omega) | (unfold i64; omega))) only [iZ_add, iZ_sub, iZ_mul, iZ_neg, lZ_add, lZ_sub, lZ_mul, lZ_neg, lZ_i, iZ_l, iZ_nat, Int.toNat_natCast, iZ_bit, iZ_shl, iZ_or, iZ_lt, iZ_le, iZ_eq, iZ_lt0, iZ_le0, iZ_gt0, iZ_ge0, iZ_eq0, cmp_eq0, cmp_lt0, cmp_le0, cmp_ge0, cmp_gt0, tf_0, tf_n0, Decidable.not_not, not_true_eq_false, not_false_eq_true, Int.toNat_natCast, onat] at q
        omega
      · simp (disch := (first | assumption | omega | (unfold i32; omega) | (unfold i64; omega))) only [iZ_add, iZ_sub, iZ_mul, iZ_neg, lZ_add, lZ_sub, lZ_mul, lZ_neg, lZ_i, iZ_l, iZ_nat, Int.toNat_natCast, iZ_bit, iZ_shl, iZ_or, iZ_lt, iZ_le, iZ_eq, iZ_lt0, iZ_le0, iZ_gt0, iZ_ge0, iZ_eq0, cmp_eq0, cmp_lt0, cmp_le0, cmp_ge0, cmp_gt0, tf_0, tf_n0, Decidable.not_not, not_true_eq_false, not_false_eq_true, Int.toNat_natCast, onat] at q
        rw [iZ_add]
        rw [show turnsF w n p s = 0 from if_neg (by omega), Int.add_zero] at ih
        exact ih
      · simp (disch := (first | assumption | omega | (unfold i32; omega) | (unfold i64; omega))) only [iZ_add, iZ_sub, iZ_mul, iZ_neg, lZ_add, lZ_sub, lZ_mul, lZ_neg, lZ_i, iZ_l, iZ_nat, Int.toNat_natCast, iZ_bit, iZ_shl, iZ_or, iZ_lt, iZ_le, iZ_eq, iZ_lt0, iZ_le0, iZ_gt0, iZ_ge0, iZ_eq0, cmp_eq0, cmp_lt0, cmp_le0, cmp_ge0, cmp_gt0, tf_0, tf_n0, Decidable.not_not, not_true_eq_false, not_false_eq_true, Int.toNat_natCast, onat] at q
        refine k57 hv (by omega) (ones_bt n hn4 s hs p hp (by omega)) (b61_26 hc e1 (k50 hv (by omega) (by omega) (b61_32 (b61_35 ?_))))
        rw [iZ_mul, iZ_add, iZ_add]
        rw [show turnsF w n p s = fac (ones s) * fac (n - ones s - 1) * ad w p s from if_pos (by omega)] at ih
        exact ih
  exact en61 (b61_0 (lp 0 (Nat.zero_le _)))
theorem k62 (hv : CV h a ci num n w) {p : Nat} (hp : p < n) (hq : Q (some (.int (iZ (n * w (2 ^ p) + w (al n) - ownsZ w n)))) h) : mCt mCd 62 [.ref a, .int (iZ p)] h Q := by
  obtain ⟨ha, hc, ⟨hn1, hn4⟩, hw, fd, f, e1, e2, hf⟩ := id hv
  have lp : ∀ i, i ≤ n → mWp mCd 62 (7, [some (.ref a), some (.int (iZ p)), some (.int (iZ (w (al n) - sumTo (fun i => w (2 ^ i)) i))), some (.int (iZ i))], [], h, 0, 0) Q := by
    refine lp_up _ ?_ ?_
    · refine b62_7 hc e1 (fun _ => b62_31 hc e1 ?_) (fun q => absurd (Int32.le_refl _) q)
      rw [iZ_shl _ (by omega)]
      refine k46 hv (p2_lt16 (by omega)) (b62_42 ?_)
      rw [iZ_mul, iZ_add]
      refine Qi ?_ hq
      congr 1
      unfold ownsZ
      omega
    · intro i hi ih
      refine b62_7 hc e1 (fun q => ?_) (fun _ => b62_15 hc e1 ?_)
      · simp (disch := (first | assumption | omega | (unfold i32; omega) | (unfold i64; omega))) only [iZ_add, iZ_sub, iZ_mul, iZ_neg, lZ_add, lZ_sub, lZ_mul, lZ_neg, lZ_i, iZ_l, iZ_nat, Int.toNat_natCast, iZ_bit, iZ_shl, iZ_or, iZ_lt, iZ_le, iZ_eq, iZ_lt0, iZ_le0, iZ_gt0, iZ_ge0, iZ_eq0, cmp_eq0, cmp_lt0, cmp_le0, cmp_ge0, cmp_gt0, tf_0, tf_n0, Decidable.not_not, not_true_eq_false, not_false_eq_true, Int.toNat_natCast, onat] at q
        omega
      · rw [iZ_shl _ (by omega)]
        refine k46 hv (p2_lt16 (by omega)) (b62_23 ?_)
        rw [iZ_sub, iZ_add]
        have es : w (al n) - sumTo (fun i => w (2 ^ i)) (i + 1) = w (al n) - sumTo (fun i => w (2 ^ i)) i - w (2 ^ i) := by
          show w (al n) - (sumTo (fun i => w (2 ^ i)) i + w (2 ^ i)) = _
          omega
        rw [es] at ih
        exact ih
  refine en62 (b62_0 hc e1 (k47 hv (b62_4 ?_)))
  have := lp 0 (Nat.zero_le _)
  rw [show w (al n) - sumTo (fun i => w (2 ^ i)) 0 = w (al n) from by show w (al n) - 0 = _; omega] at this
  exact this
theorem k60 (hv : CV h a ci num n w) {p y : Nat} (hp : p < n) (hy : y ≤ 1) (hq : Q (some (.int (iZ (getsZ w n y p)))) h) : mCt mCd 60 [.ref a, .int (iZ y), .int (iZ p)] h Q := by
  obtain ⟨ha, hc, ⟨hn1, hn4⟩, hw, fd, f, e1, e2, hf⟩ := id hv
  unfold getsZ at hq
  refine en60 (b60_0 (fun q => b60_12 hc e1 (k62 hv hp (b60_17 ?_))) (fun q => b60_4 hc e1 (k61 hv hp (b60_9 ?_))))
  · simp (disch := (first | assumption | omega | (unfold i32; omega) | (unfold i64; omega))) only [iZ_add, iZ_sub, iZ_mul, iZ_neg, lZ_add, lZ_sub, lZ_mul, lZ_neg, lZ_i, iZ_l, iZ_nat, Int.toNat_natCast, iZ_bit, iZ_shl, iZ_or, iZ_lt, iZ_le, iZ_eq, iZ_lt0, iZ_le0, iZ_gt0, iZ_ge0, iZ_eq0, cmp_eq0, cmp_lt0, cmp_le0, cmp_ge0, cmp_gt0, tf_0, tf_n0, Decidable.not_not, not_true_eq_false, not_false_eq_true, Int.toNat_natCast, onat] at q
    rw [if_neg (by omega)] at hq
    exact hq
  · simp (disch := (first | assumption | omega | (unfold i32; omega) | (unfold i64; omega))) only [iZ_add, iZ_sub, iZ_mul, iZ_neg, lZ_add, lZ_sub, lZ_mul, lZ_neg, lZ_i, iZ_l, iZ_nat, Int.toNat_natCast, iZ_bit, iZ_shl, iZ_or, iZ_lt, iZ_le, iZ_eq, iZ_lt0, iZ_le0, iZ_gt0, iZ_ge0, iZ_eq0, cmp_eq0, cmp_lt0, cmp_le0, cmp_ge0, cmp_gt0, tf_0, tf_n0, Decidable.not_not, not_true_eq_false, not_false_eq_true, Int.toNat_natCast, onat] at q
    rw [if_pos (by omega)] at hq
    exact hq
theorem k59 (hv : CV h a ci num n w) {y : Nat} (hy : y ≤ 1) (hq : Q (some (.int (iZ (belowZ n y)))) h) : mCt mCd 59 [.ref a, .int (iZ y)] h Q := by
  obtain ⟨ha, hc, ⟨hn1, hn4⟩, hw, fd, f, e1, e2, hf⟩ := id hv
  unfold belowZ at hq
  refine en59 (b59_0 (fun q => b59_14 hc e1 ?_) (fun q => b59_4 hc e1 (k128 hn4 (b59_11 ?_))))
  · simp (disch := (first | assumption | omega | (unfold i32; omega) | (unfold i64; omega))) only [iZ_add, iZ_sub, iZ_mul, iZ_neg, lZ_add, lZ_sub, lZ_mul, lZ_neg, lZ_i, iZ_l, iZ_nat, Int.toNat_natCast, iZ_bit, iZ_shl, iZ_or, iZ_lt, iZ_le, iZ_eq, iZ_lt0, iZ_le0, iZ_gt0, iZ_ge0, iZ_eq0, cmp_eq0, cmp_lt0, cmp_le0, cmp_ge0, cmp_gt0, tf_0, tf_n0, Decidable.not_not, not_true_eq_false, not_false_eq_true, Int.toNat_natCast, onat] at q
    rw [if_neg (by omega)] at hq
    exact hq
  · simp (disch := (first | assumption | omega | (unfold i32; omega) | (unfold i64; omega))) only [iZ_add, iZ_sub, iZ_mul, iZ_neg, lZ_add, lZ_sub, lZ_mul, lZ_neg, lZ_i, iZ_l, iZ_nat, Int.toNat_natCast, iZ_bit, iZ_shl, iZ_or, iZ_lt, iZ_le, iZ_eq, iZ_lt0, iZ_le0, iZ_gt0, iZ_ge0, iZ_eq0, cmp_eq0, cmp_lt0, cmp_le0, cmp_ge0, cmp_gt0, tf_0, tf_n0, Decidable.not_not, not_true_eq_false, not_false_eq_true, Int.toNat_natCast, onat] at q
    rw [if_pos (by omega)] at hq
    exact hq
end CT
