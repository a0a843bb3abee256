/-! ===== the class: a venture, read ===== -/

/-- venture at a: its class, its number, its size, its worths -/
def CV (h : mH) (a ci num n : Nat) (w : Nat → Int) : Prop := 30 ≤ a ∧ [1, 2, 4, 6, 8].contains ci = true ∧ (1 ≤ n ∧ n ≤ 4) ∧ (∀ s, bd 16000 (w s)) ∧ ∃ (fd : Int32) (f : Nat → Int32), h[a]? = some (oV ci a (iZ num) (iZ n) fd) ∧ h[a + 1]? = some (aI 16 f) ∧ ∀ s, s < 16 → f s = iZ (w s)
section CT
variable {h : mH} {Q : Option Value → mH → Prop} {a ci num n : Nat} {w : Nat → Int}
theorem k42 (hv : CV h a ci num n w) (hq : Q (some (.int (iZ (al n)))) h) : mCt mCd 42 [.ref a] h Q := by
  obtain ⟨ha, hc, hn, hw, fd, f, e1, e2, hf⟩ := hv
  refine en42 (b42_0 hc e1 (Qi ?_ hq))
  rw [iZ_shl _ (by omega), iZ_sub]
  congr 1
  have := two_pow_pos n
  unfold al
  omega
theorem k43 (hv : CV h a ci num n w) {p : Int} (hp : i32 p) (hq : Q (some (.int (tf (0 ≤ p ∧ p < n)))) h) : mCt mCd 43 [.ref a, .int (iZ p)] h Q := by
  obtain ⟨ha, hc, hn, hw, fd, f, e1, e2, hf⟩ := hv
  repeat' (first
    | refine en43 ?_
    | exact Qi (tf0 (by omega)) hq
    | exact Qi (tf1 (by omega)) hq
    | exact iZ_in (by omega) (by omega) (by decide)
    | simp (disch := (first | assumption | omega | (unfold i32; omega) | (unfold i64; omega))) only [iZ_add, iZ_sub, iZ_mul, iZ_neg, lZ_add, lZ_sub, lZ_mul, lZ_neg, lZ_i, iZ_l, iZ_nat, Int.toNat_natCast, iZ_bit, iZ_shl, iZ_or, iZ_lt, iZ_le, iZ_eq, iZ_lt0, iZ_le0, iZ_gt0, iZ_ge0, iZ_eq0, cmp_eq0, cmp_lt0, cmp_le0, cmp_ge0, cmp_gt0, tf_0, tf_n0, Decidable.not_not, not_true_eq_false, not_false_eq_true, Int.toNat_natCast, onat]
    | (refine b43_0 (fun q => ?_) (fun q => ?_) <;> (try simp (disch := (first | assumption | omega | (unfold i32; omega) | (unfold i64; omega))) only [iZ_add, iZ_sub, iZ_mul, iZ_neg, lZ_add, lZ_sub, lZ_mul, lZ_neg, lZ_i, iZ_l, iZ_nat, Int.toNat_natCast, iZ_bit, iZ_shl, iZ_or, iZ_lt, iZ_le, iZ_eq, iZ_lt0, iZ_le0, iZ_gt0, iZ_ge0, iZ_eq0, cmp_eq0, cmp_lt0, cmp_le0, cmp_ge0, cmp_gt0, tf_0, tf_n0, Decidable.not_not, not_true_eq_false, not_false_eq_true, Int.toNat_natCast, onat] at q) <;> (try (exfalso; omega)))
    | refine b43_16 ?_
    | (refine b43_4 (by assumption) (by first | assumption | (repeat' (first | assumption | refine mGs ?_ | refine mGn (by omega) ?_))) (fun q => ?_) (fun q => ?_) <;> (try simp (disch := (first | assumption | omega | (unfold i32; omega) | (unfold i64; omega))) only [iZ_add, iZ_sub, iZ_mul, iZ_neg, lZ_add, lZ_sub, lZ_mul, lZ_neg, lZ_i, iZ_l, iZ_nat, Int.toNat_natCast, iZ_bit, iZ_shl, iZ_or, iZ_lt, iZ_le, iZ_eq, iZ_lt0, iZ_le0, iZ_gt0, iZ_ge0, iZ_eq0, cmp_eq0, cmp_lt0, cmp_le0, cmp_ge0, cmp_gt0, tf_0, tf_n0, Decidable.not_not, not_true_eq_false, not_false_eq_true, Int.toNat_natCast, onat] at q) <;> (try (exfalso; omega)))
    | refine b43_12 ?_)
theorem k44 (hv : CV h a ci num n w) {s : Int} (hs : i32 s) (hq : Q (some (.int (tf (1 ≤ s ∧ s ≤ al n)))) h) : mCt mCd 44 [.ref a, .int (iZ s)] h Q := by
  have hal := al_lt hv.2.2.1.2
  obtain ⟨ha, hc, hn, hw, fd, f, e1, e2, hf⟩ := id hv
  repeat' (first
    | refine en44 ?_
    | exact Qi (tf0 (by omega)) hq
    | exact Qi (tf1 (by omega)) hq
    | refine k42 hv ?_
    | exact iZ_in (by omega) (by omega) (by decide)
    | simp (disch := (first | assumption | omega | (unfold i32; omega) | (unfold i64; omega))) only [iZ_add, iZ_sub, iZ_mul, iZ_neg, lZ_add, lZ_sub, lZ_mul, lZ_neg, lZ_i, iZ_l, iZ_nat, Int.toNat_natCast, iZ_bit, iZ_shl, iZ_or, iZ_lt, iZ_le, iZ_eq, iZ_lt0, iZ_le0, iZ_gt0, iZ_ge0, iZ_eq0, cmp_eq0, cmp_lt0, cmp_le0, cmp_ge0, cmp_gt0, tf_0, tf_n0, Decidable.not_not, not_true_eq_false, not_false_eq_true, Int.toNat_natCast, onat]
    | (refine b44_0 (fun q => ?_) (fun q => ?_) <;> (try simp (disch := (first | assumption | omega | (unfold i32; omega) | (unfold i64; omega))) only [iZ_add, iZ_sub, iZ_mul, iZ_neg, lZ_add, lZ_sub, lZ_mul, lZ_neg, lZ_i, iZ_l, iZ_nat, Int.toNat_natCast, iZ_bit, iZ_shl, iZ_or, iZ_lt, iZ_le, iZ_eq, iZ_lt0, iZ_le0, iZ_gt0, iZ_ge0, iZ_eq0, cmp_eq0, cmp_lt0, cmp_le0, cmp_ge0, cmp_gt0, tf_0, tf_n0, Decidable.not_not, not_true_eq_false, not_false_eq_true, Int.toNat_natCast, onat] at q) <;> (try (exfalso; omega)))
    | refine b44_17 ?_
    | refine b44_5 (by assumption) (by first | assumption | (repeat' (first | assumption | refine mGs ?_ | refine mGn (by omega) ?_))) ?_
    | (refine b44_10 (fun q => ?_) (fun q => ?_) <;> (try simp (disch := (first | assumption | omega | (unfold i32; omega) | (unfold i64; omega))) only [iZ_add, iZ_sub, iZ_mul, iZ_neg, lZ_add, lZ_sub, lZ_mul, lZ_neg, lZ_i, iZ_l, iZ_nat, Int.toNat_natCast, iZ_bit, iZ_shl, iZ_or, iZ_lt, iZ_le, iZ_eq, iZ_lt0, iZ_le0, iZ_gt0, iZ_ge0, iZ_eq0, cmp_eq0, cmp_lt0, cmp_le0, cmp_ge0, cmp_gt0, tf_0, tf_n0, Decidable.not_not, not_true_eq_false, not_false_eq_true, Int.toNat_natCast, onat] at q) <;> (try (exfalso; omega)))
    | refine b44_13 ?_)
theorem k45 (hv : CV h a ci num n w) {s : Int} (hs : i32 s) (hq : Q (some (.int (tf (1 ≤ s ∧ s < al n)))) h) : mCt mCd 45 [.ref a, .int (iZ s)] h Q := by
  have hal := al_lt hv.2.2.1.2
  obtain ⟨ha, hc, hn, hw, fd, f, e1, e2, hf⟩ := id hv
  repeat' (first
    | refine en45 ?_
    | exact Qi (tf0 (by omega)) hq
    | exact Qi (tf1 (by omega)) hq
    | refine k42 hv ?_
    | exact iZ_in (by omega) (by omega) (by decide)
    | simp (disch := (first | assumption | omega | (unfold i32; omega) | (unfold i64; omega))) only [iZ_add, iZ_sub, iZ_mul, iZ_neg, lZ_add, lZ_sub, lZ_mul, lZ_neg, lZ_i, iZ_l, iZ_nat, Int.toNat_natCast, iZ_bit, iZ_shl, iZ_or, iZ_lt, iZ_le, iZ_eq, iZ_lt0, iZ_le0, iZ_gt0, iZ_ge0, iZ_eq0, cmp_eq0, cmp_lt0, cmp_le0, cmp_ge0, cmp_gt0, tf_0, tf_n0, Decidable.not_not, not_true_eq_false, not_false_eq_true, Int.toNat_natCast, onat]
    | (refine b45_0 (fun q => ?_) (fun q => ?_) <;> (try simp (disch := (first | assumption | omega | (unfold i32; omega) | (unfold i64; omega))) only [iZ_add, iZ_sub, iZ_mul, iZ_neg, lZ_add, lZ_sub, lZ_mul, lZ_neg, lZ_i, iZ_l, iZ_nat, Int.toNat_natCast, iZ_bit, iZ_shl, iZ_or, iZ_lt, iZ_le, iZ_eq, iZ_lt0, iZ_le0, iZ_gt0, iZ_ge0, iZ_eq0, cmp_eq0, cmp_lt0, cmp_le0, cmp_ge0, cmp_gt0, tf_0, tf_n0, Decidable.not_not, not_true_eq_false, not_false_eq_true, Int.toNat_natCast, onat] at q) <;> (try (exfalso; omega)))
    | refine b45_17 ?_
    | refine b45_5 (by assumption) (by first | assumption | (repeat' (first | assumption | refine mGs ?_ | refine mGn (by omega) ?_))) ?_
    | (refine b45_10 (fun q => ?_) (fun q => ?_) <;> (try simp (disch := (first | assumption | omega | (unfold i32; omega) | (unfold i64; omega))) only [iZ_add, iZ_sub, iZ_mul, iZ_neg, lZ_add, lZ_sub, lZ_mul, lZ_neg, lZ_i, iZ_l, iZ_nat, Int.toNat_natCast, iZ_bit, iZ_shl, iZ_or, iZ_lt, iZ_le, iZ_eq, iZ_lt0, iZ_le0, iZ_gt0, iZ_ge0, iZ_eq0, cmp_eq0, cmp_lt0, cmp_le0, cmp_ge0, cmp_gt0, tf_0, tf_n0, Decidable.not_not, not_true_eq_false, not_false_eq_true, Int.toNat_natCast, onat] at q) <;> (try (exfalso; omega)))
    | refine b45_13 ?_)
theorem k46 (hv : CV h a ci num n w) {s : Nat} (hs : s < 16) (hq : Q (some (.int (iZ (w s)))) h) : mCt mCd 46 [.ref a, .int (iZ s)] h Q := by
  obtain ⟨ha, hc, hn, hw, fd, f, e1, e2, hf⟩ := hv
  refine en46 (b46_0 (fun q => ?_) (fun _ => b46_4 hc e1 e2 (fun _ => b46_17 hc e1 e2 (iZ_in (by omega) (by omega) (by decide)) ?_) (fun q => ?_)))
  · simp (disch := (first | assumption | omega | (unfold i32; omega) | (unfold i64; omega))) only [iZ_add, iZ_sub, iZ_mul, iZ_neg, lZ_add, lZ_sub, lZ_mul, lZ_neg, lZ_i, iZ_l, iZ_nat, Int.toNat_natCast, iZ_bit, iZ_shl, iZ_or, iZ_lt, iZ_le, iZ_eq, iZ_lt0, iZ_le0, iZ_gt0, iZ_ge0, iZ_eq0, cmp_eq0, cmp_lt0, cmp_le0, cmp_ge0, cmp_gt0, tf_0, tf_n0, Decidable.not_not, not_true_eq_false, not_false_eq_true, Int.toNat_natCast, onat] at q
    omega
  · rw [iZ_nat (by omega) (by omega), Int.toNat_natCast, hf s hs]
    exact hq
  · simp (disch := (first | assumption | omega | (unfold i32; omega) | (unfold i64; omega))) only [iZ_add, iZ_sub, iZ_mul, iZ_neg, lZ_add, lZ_sub, lZ_mul, lZ_neg, lZ_i, iZ_l, iZ_nat, Int.toNat_natCast, iZ_bit, iZ_shl, iZ_or, iZ_lt, iZ_le, iZ_eq, iZ_lt0, iZ_le0, iZ_gt0, iZ_ge0, iZ_eq0, cmp_eq0, cmp_lt0, cmp_le0, cmp_ge0, cmp_gt0, tf_0, tf_n0, Decidable.not_not, not_true_eq_false, not_false_eq_true, Int.toNat_natCast, onat] at q
    omega
theorem k47 (hv : CV h a ci num n w) (hq : Q (some (.int (iZ (w (al n))))) h) : mCt mCd 47 [.ref a] h Q := by
  have hal := al_lt hv.2.2.1.2
  obtain ⟨ha, hc, hn, hw, fd, f, e1, e2, hf⟩ := id hv
  exact en47 (b47_0 hc e1 (k42 hv (b47_5 hc e1 (k46 hv hal (b47_8 hq)))))
theorem k50 (hv : CV h a ci num n w) {p s : Nat} (hp : p < 4) (hs : s < 16) (hq : Q (some (.int (iZ (ad w p s)))) h) : mCt mCd 50 [.ref a, .int (iZ p), .int (iZ s)] h Q := by
  obtain ⟨ha, hc, hn, hw, fd, f, e1, e2, hf⟩ := id hv
  refine en50 (b50_0 hc e1 ?_)
  rw [iZ_or s hs p hp]
  refine k46 hv (or_lt16 s hs p hp) (b50_9 hc e1 (k46 hv hs (b50_14 ?_)))
  rw [iZ_sub]
  exact hq
theorem ad_bz {w : Nat → Int} (hw : ∀ s, bd 16000 (w s)) (p s : Nat) : bd 32000 (ad w p s) := by
  have h1 := hw (s ||| 2 ^ p)
  have h2 := hw s
  unfold ad
  unfold bd at *
  omega
theorem ad_i {w : Nat → Int} (hw : ∀ s, bd 16000 (w s)) (p s : Nat) : i32 (ad w p s) := by
  have := ad_bz hw p s
  unfold bd at this; unfold i32; omega
theorem w_i {w : Nat → Int} (hw : ∀ s, bd 16000 (w s)) (s : Nat) : i32 (w s) := by
  have := hw s
  unfold bd at this; unfold i32; omega
theorem p2al {n : Nat} (s : Nat) : s < 2 ^ n ↔ s ≤ al n := by
  have := two_pow_pos n
  unfold al; omega
theorem k52 (hv : CV h a ci num n w) {p : Nat} (hp : p < n) (hq : Q (some (.int (iZ (bZ (allB (dumB w p) (2 ^ n)))))) h) : mCt mCd 52 [.ref a, .int (iZ p)] h Q := by
  have hal := al_lt hv.2.2.1.2
  obtain ⟨ha, hc, ⟨hn1, hn4⟩, hw, fd, f, e1, e2, hf⟩ := id hv
  have h16 := two_pow_le4 hn4
  have h0 := two_pow_pos n
  have hp16 := p2_lt16 (show p < 4 by omega)
  have hal2 : al n + 1 = 2 ^ n := by unfold al; omega
  have lp : ∀ s, s ≤ 2 ^ n → allB (dumB w p) s = true → mWp mCd 52 (10, [some (.ref a), some (.int (iZ p)), some (.int (iZ (w (2 ^ p)))), some (.int (iZ s))], [], h, 0, 0) Q := by
    refine lp_up _ ?_ ?_
    · intro hb
      rw [hb] at hq
      refine b52_10 hc e1 (k42 hv (b52_15 (fun _ => b52_44 hq) (fun q => ?_)))
      simp (disch := (first | assumption | omega | (unfold i32; omega) | (unfold i64; omega))) only [iZ_add, iZ_sub, iZ_mul, iZ_neg, lZ_add, lZ_sub, lZ_mul, lZ_neg, lZ_i, iZ_l, iZ_nat, Int.toNat_natCast, iZ_bit, iZ_shl, iZ_or, iZ_lt, iZ_le, iZ_eq, iZ_lt0, iZ_le0, iZ_gt0, iZ_ge0, iZ_eq0, cmp_eq0, cmp_lt0, cmp_le0, cmp_ge0, cmp_gt0, tf_0, tf_n0, Decidable.not_not, not_true_eq_false, not_false_eq_true, Int.toNat_natCast, onat] at q
      omega
    · intro s hs ih hb
      have st : dumB w p s = true → mWp mCd 52 (38, [some (.ref a), some (.int (iZ p)), some (.int (iZ (w (2 ^ p)))), some (.int (iZ s))], [], h, 0, 0) Q := by
        intro hd
        refine b52_38 ?_
        rw [iZ_add]
        exact ih (allB_s hb hd)
      refine b52_10 hc e1 (k42 hv (b52_15 (fun q => ?_) (fun _ => b52_18 (k126 (by omega) (by omega) (b52_23 (fun q => st ?_) (fun q => b52_26 hc e1 (k50 hv (by omega) (by omega) (b52_32 (fun q2 => st ?_) (fun q2 => b52_36 ?_)))))))))
      · simp (disch := (first | assumption | omega | (unfold i32; omega) | (unfold i64; omega))) only [iZ_add, iZ_sub, iZ_mul, iZ_neg, lZ_add, lZ_sub, lZ_mul, lZ_neg, lZ_i, iZ_l, iZ_nat, Int.toNat_natCast, iZ_bit, iZ_shl, iZ_or, iZ_lt, iZ_le, iZ_eq, iZ_lt0, iZ_le0, iZ_gt0, iZ_ge0, iZ_eq0, cmp_eq0, cmp_lt0, cmp_le0, cmp_ge0, cmp_gt0, tf_0, tf_n0, Decidable.not_not, not_true_eq_false, not_false_eq_true, Int.toNat_natCast, onat] at q
        omega
      · have hbt := bt_lt s p
        simp (disch := (first | assumption | omega | (unfold i32; omega) | (unfold i64; omega))) only [iZ_add, iZ_sub, iZ_mul, iZ_neg, lZ_add, lZ_sub, lZ_mul, lZ_neg, lZ_i, iZ_l, iZ_nat, Int.toNat_natCast, iZ_bit, iZ_shl, iZ_or, iZ_lt, iZ_le, iZ_eq, iZ_lt0, iZ_le0, iZ_gt0, iZ_ge0, iZ_eq0, cmp_eq0, cmp_lt0, cmp_le0, cmp_ge0, cmp_gt0, tf_0, tf_n0, Decidable.not_not, not_true_eq_false, not_false_eq_true, Int.toNat_natCast, onat] at q
        exact decide_eq_true (Or.inl (by omega))
      · rw [iZ_eq (ad_i hw _ _) (w_i hw _)] at q2
        exact decide_eq_true (Or.inr q2)
      · have hbt := bt_lt s p
        simp (disch := (first | assumption | omega | (unfold i32; omega) | (unfold i64; omega))) only [iZ_add, iZ_sub, iZ_mul, iZ_neg, lZ_add, lZ_sub, lZ_mul, lZ_neg, lZ_i, iZ_l, iZ_nat, Int.toNat_natCast, iZ_bit, iZ_shl, iZ_or, iZ_lt, iZ_le, iZ_eq, iZ_lt0, iZ_le0, iZ_gt0, iZ_ge0, iZ_eq0, cmp_eq0, cmp_lt0, cmp_le0, cmp_ge0, cmp_gt0, tf_0, tf_n0, Decidable.not_not, not_true_eq_false, not_false_eq_true, Int.toNat_natCast, onat] at q
        rw [iZ_eq (ad_i hw _ _) (w_i hw _)] at q2
        have hd : dumB w p s = false := decide_eq_false (by omega)
        rw [allB_f hd hs] at hq
        exact hq
  refine en52 (b52_0 hc e1 ?_)
  rw [iZ_shl _ (by omega)]
  exact k46 hv hp16 (b52_7 (lp 0 (Nat.zero_le _) rfl))
theorem k51 (hv : CV h a ci num n w) (hq : Q (some (.int (iZ (dumZ w n : Nat)))) h) : mCt mCd 51 [.ref a] h Q := by
  obtain ⟨ha, hc, ⟨hn1, hn4⟩, hw, fd, f, e1, e2, hf⟩ := id hv
  have hob : ∀ k, k ≤ 4 → orTo (dumN w n) k < 16 := by
    intro k hk
    have : ∀ k, k ≤ 4 → orTo (dumN w n) k < 2 ^ k := by
      intro k
      induction k with
      | zero => intro _; exact Nat.one_pos
      | succ k ih =>
        intro hk
        have h1 := ih (by omega)
        show orTo (dumN w n) k ||| dumN w n k < 2 ^ (k + 1)
        refine Nat.or_lt_two_pow (Nat.lt_of_lt_of_le h1 (Nat.pow_le_pow_right (by decide) (by omega))) ?_
        unfold dumN
        split
        · exact Nat.pow_lt_pow_right (by decide) (by omega)
        · exact Nat.two_pow_pos _
    exact Nat.lt_of_lt_of_le (this k hk) (Nat.pow_le_pow_right (n := 2) (by decide) hk)
  have lp : ∀ p, p ≤ n → mWp mCd 51 (4, [some (.ref a), some (.int (iZ (orTo (dumN w n) p : Nat))), some (.int (iZ p))], [], h, 0, 0) Q := by
    refine lp_up _ ?_ ?_
    · exact b51_4 hc e1 (fun _ => b51_32 hq) (fun q => absurd (Int32.le_refl _) q)
    · intro p hp ih
      refine b51_4 hc e1 (fun q => ?_) (fun _ => b51_12 hc e1 (k52 hv hp ?_))
      · simp (disch := (first | assumption | omega | (unfold i32; omega) | (unfold i64; omega))) only [iZ_add, iZ_sub, iZ_mul, iZ_neg, lZ_add, lZ_sub, lZ_mul, lZ_neg, lZ_i, iZ_l, iZ_nat, Int.toNat_natCast, iZ_bit, iZ_shl, iZ_or, iZ_lt, iZ_le, iZ_eq, iZ_lt0, iZ_le0, iZ_gt0, iZ_ge0, iZ_eq0, cmp_eq0, cmp_lt0, cmp_le0, cmp_ge0, cmp_gt0, tf_0, tf_n0, Decidable.not_not, not_true_eq_false, not_false_eq_true, Int.toNat_natCast, onat] at q
        omega
      · have eo : orTo (dumN w n) (p + 1) = orTo (dumN w n) p ||| dumN w n p := rfl
        cases hb : allB (dumB w p) (2 ^ n) with
        | true =>
          refine b51_17 (fun q => absurd q (by decide)) (fun _ => b51_20 (b51_26 ?_))
          rw [iZ_add, iZ_or _ (hob p (by omega)) p (by omega)]
          rw [eo, show dumN w n p = 2 ^ p from by unfold dumN; rw [hb]; rfl] at ih
          exact ih
        | false =>
          refine b51_17 (fun _ => b51_26 ?_) (fun q => absurd rfl q)
          rw [iZ_add]
          rw [eo, show dumN w n p = 0 from by unfold dumN; rw [hb]; rfl, Nat.or_zero] at ih
          exact ih
  exact en51 (b51_0 (lp 0 (Nat.zero_le _)))
theorem k53 (hv : CV h a ci num n w) {p r : Nat} (hp : p < n) (hr : r < n) (hq : Q (some (.int (iZ (likZ w n p r)))) h) : mCt mCd 53 [.ref a, .int (iZ p), .int (iZ r)] h Q := by
  have hal := al_lt hv.2.2.1.2
  obtain ⟨ha, hc, ⟨hn1, hn4⟩, hw, fd, f, e1, e2, hf⟩ := id hv
  have h16 := two_pow_le4 hn4
  have h0 := two_pow_pos n
  have hal2 : al n + 1 = 2 ^ n := by unfold al; omega
  unfold likZ at hq
  have lp : ∀ s, s ≤ 2 ^ n → allB (likB w p r) s = true → mWp mCd 53 (2, [some (.ref a), some (.int (iZ p)), some (.int (iZ r)), some (.int (iZ s))], [], h, 0, 0) Q := by
    refine lp_up _ ?_ ?_
    · intro hb
      rw [hb] at hq
      refine b53_2 hc e1 (k42 hv (b53_7 (fun _ => b53_49 hq) (fun q => ?_)))
      simp (disch := (first | assumption | omega | (unfold i32; omega) | (unfold i64; omega))) only [iZ_add, iZ_sub, iZ_mul, iZ_neg, lZ_add, lZ_sub, lZ_mul, lZ_neg, lZ_i, iZ_l, iZ_nat, Int.toNat_natCast, iZ_bit, iZ_shl, iZ_or, iZ_lt, iZ_le, iZ_eq, iZ_lt0, iZ_le0, iZ_gt0, iZ_ge0, iZ_eq0, cmp_eq0, cmp_lt0, cmp_le0, cmp_ge0, cmp_gt0, tf_0, tf_n0, Decidable.not_not, not_true_eq_false, not_false_eq_true, Int.toNat_natCast, onat] at q
      omega
    · intro s hs ih hb
      have hb1 := bt_lt s p
      have hb2 := bt_lt s r
      have st : likB w p r s = true → mWp mCd 53 (43, [some (.ref a), some (.int (iZ p)), some (.int (iZ r)), some (.int (iZ s))], [], h, 0, 0) Q := by
        intro hd
        refine b53_43 ?_
        rw [iZ_add]
        exact ih (allB_s hb hd)
      refine b53_2 hc e1 (k42 hv (b53_7 (fun q => ?_) (fun _ => b53_10 (k126 (by omega) (by omega) (b53_15 (fun q => st ?_) (fun q => b53_18 (k126 (by omega) (by omega) (b53_23 (fun q2 => st ?_) (fun q2 => b53_26 hc e1 (k50 hv (by omega) (by omega) (b53_32 hc e1 (k50 hv (by omega) (by omega) (b53_38 (fun q3 => st ?_) (fun q3 => b53_41 ?_))))))))))))))
      · simp (disch := (first | assumption | omega | (unfold i32; omega) | (unfold i64; omega))) only [iZ_add, iZ_sub, iZ_mul, iZ_neg, lZ_add, lZ_sub, lZ_mul, lZ_neg, lZ_i, iZ_l, iZ_nat, Int.toNat_natCast, iZ_bit, iZ_shl, iZ_or, iZ_lt, iZ_le, iZ_eq, iZ_lt0, iZ_le0, iZ_gt0, iZ_ge0, iZ_eq0, cmp_eq0, cmp_lt0, cmp_le0, cmp_ge0, cmp_gt0, tf_0, tf_n0, Decidable.not_not, not_true_eq_false, not_false_eq_true, Int.toNat_natCast, onat] at q
        omega
      · simp (disch := (first | assumption | omega | (unfold i32; omega) | (unfold i64; omega))) only [iZ_add, iZ_sub, iZ_mul, iZ_neg, lZ_add, lZ_sub, lZ_mul, lZ_neg, lZ_i, iZ_l, iZ_nat, Int.toNat_natCast, iZ_bit, iZ_shl, iZ_or, iZ_lt, iZ_le, iZ_eq, iZ_lt0, iZ_le0, iZ_gt0, iZ_ge0, iZ_eq0, cmp_eq0, cmp_lt0, cmp_le0, cmp_ge0, cmp_gt0, tf_0, tf_n0, Decidable.not_not, not_true_eq_false, not_false_eq_true, Int.toNat_natCast, onat] at q
        exact decide_eq_true (Or.inl (by omega))
      · simp (disch := (first | assumption | omega | (unfold i32; omega) | (unfold i64; omega))) only [iZ_add, iZ_sub, iZ_mul, iZ_neg, lZ_add, lZ_sub, lZ_mul, lZ_neg, lZ_i, iZ_l, iZ_nat, Int.toNat_natCast, iZ_bit, iZ_shl, iZ_or, iZ_lt, iZ_le, iZ_eq, iZ_lt0, iZ_le0, iZ_gt0, iZ_ge0, iZ_eq0, cmp_eq0, cmp_lt0, cmp_le0, cmp_ge0, cmp_gt0, tf_0, tf_n0, Decidable.not_not, not_true_eq_false, not_false_eq_true, Int.toNat_natCast, onat] at q2
        exact decide_eq_true (Or.inr (Or.inl (by omega)))
      · rw [iZ_eq (ad_i hw _ _) (ad_i hw _ _)] at q3
        exact decide_eq_true (Or.inr (Or.inr q3))
      · simp (disch := (first | assumption | omega | (unfold i32; omega) | (unfold i64; omega))) only [iZ_add, iZ_sub, iZ_mul, iZ_neg, lZ_add, lZ_sub, lZ_mul, lZ_neg, lZ_i, iZ_l, iZ_nat, Int.toNat_natCast, iZ_bit, iZ_shl, iZ_or, iZ_lt, iZ_le, iZ_eq, iZ_lt0, iZ_le0, iZ_gt0, iZ_ge0, iZ_eq0, cmp_eq0, cmp_lt0, cmp_le0, cmp_ge0, cmp_gt0, tf_0, tf_n0, Decidable.not_not, not_true_eq_false, not_false_eq_true, Int.toNat_natCast, onat] at q
        simp (disch := (first | assumption | omega | (unfold i32; omega) | (unfold i64; omega))) only [iZ_add, iZ_sub, iZ_mul, iZ_neg, lZ_add, lZ_sub, lZ_mul, lZ_neg, lZ_i, iZ_l, iZ_nat, Int.toNat_natCast, iZ_bit, iZ_shl, iZ_or, iZ_lt, iZ_le, iZ_eq, iZ_lt0, iZ_le0, iZ_gt0, iZ_ge0, iZ_eq0, cmp_eq0, cmp_lt0, cmp_le0, cmp_ge0, cmp_gt0, tf_0, tf_n0, Decidable.not_not, not_true_eq_false, not_false_eq_true, Int.toNat_natCast, onat] at q2
        rw [iZ_eq (ad_i hw _ _) (ad_i hw _ _)] at q3
        have hd : likB w p r s = false := decide_eq_false (by omega)
        rw [allB_f hd hs] at hq
        exact hq
  exact en53 (b53_0 (lp 0 (Nat.zero_le _) rfl))
theorem k54 (hv : CV h a ci num n w) (hq : Q (some (.int (iZ (losZ w n)))) h) : mCt mCd 54 [.ref a] h Q := by
  have hal := al_lt hv.2.2.1.2
  obtain ⟨ha, hc, ⟨hn1, hn4⟩, hw, fd, f, e1, e2, hf⟩ := id hv
  have lp : ∀ p, p ≤ n → mWp mCd 54 (4, [some (.ref a), some (.int (iZ (sumTo (losF w n) p))), some (.int (iZ p))], [], h, 0, 0) Q := by
    refine lp_up _ ?_ ?_
    · exact b54_4 hc e1 (fun _ => b54_39 hq) (fun q => absurd (Int32.le_refl _) q)
    · intro p hp ih
      have hp16 := p2_lt16 (show p < 4 by omega)
      have han : andn (al n) (2 ^ p) < 16 := by unfold andn; omega
      have es : sumTo (losF w n) (p + 1) = sumTo (losF w n) p + losF w n p := rfl
      rw [es] at ih
      refine b54_4 hc e1 (fun q => ?_) (fun _ => b54_12 hc e1 (k42 hv (b54_18 hc e1 ?_)))
      · simp (disch := (first | assumption | omega | (unfold i32; omega) | (unfold i64; omega))) only [iZ_add, iZ_sub, iZ_mul, iZ_neg, lZ_add, lZ_sub, lZ_mul, lZ_neg, lZ_i, iZ_l, iZ_nat, Int.toNat_natCast, iZ_bit, iZ_shl, iZ_or, iZ_lt, iZ_le, iZ_eq, iZ_lt0, iZ_le0, iZ_gt0, iZ_ge0, iZ_eq0, cmp_eq0, cmp_lt0, cmp_le0, cmp_ge0, cmp_gt0, tf_0, tf_n0, Decidable.not_not, not_true_eq_false, not_false_eq_true, Int.toNat_natCast, onat] at q
        omega
      · rw [iZ_shl _ (by omega), iZ_andn _ hal _ hp16]
        refine k50 hv (by omega) han (b54_27 (fun q => b54_33 ?_) (fun q => b54_30 (b54_33 ?_)))
        · rw [iZ_ge0 (ad_i hw _ _)] at q
          rw [iZ_add]
          rw [show losF w n p = 0 from if_neg (by omega), Int.add_zero] at ih
          exact ih
        · rw [iZ_ge0 (ad_i hw _ _)] at q
          rw [iZ_add, iZ_add]
          rw [show losF w n p = 1 from if_pos (by omega)] at ih
          exact ih
  exact en54 (b54_0 (lp 0 (Nat.zero_le _)))
end CT
