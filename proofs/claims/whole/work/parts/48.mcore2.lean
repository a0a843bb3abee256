/-! ===== the reference: isCore, on ===== -/

theorem cb3 {z : Nat → Nat → Int} {n : Nat} (h : smR z n) (hn : n ≤ 4) (s : Nat) : 1 ≤ cbZ z s n ∧ cbZ z s n ≤ 81 := by
  have h1 := cbZ_b h s n (Nat.le_refl n)
  have h2 : ∀ n, n ≤ 4 → (3 : Int) ^ n ≤ 81 := by decide +kernel
  have := h2 n hn
  unfold cbZ
  omega
theorem csF_b {z : Nat → Nat → Int} {n : Nat} (h : smR z n) (hn : n ≤ 4) (s : Nat) {i : Nat} (hi : i < n) : bd (524288000 * 81) (csF z s n i) := by
  unfold csF
  have h1 := cb3 h hn s
  split
  · exact bd_mul (h i hi).2 (bd_tdiv _ ⟨by omega, by omega⟩)
  · exact ⟨by decide, by decide⟩
theorem csZ_b {z : Nat → Nat → Int} {n : Nat} {w : Nat → Int} (h : smR z n) (hn : n ≤ 4) (hw : ∀ s, bd 16000 (w s)) (s : Nat) : i64 (csZ z w s n) := by
  have h1 := sumTo_b (f := csF z s n) (B := 524288000 * 81) (n := n) (fun i hi => csF_b h hn s hi)
  have h2 : bd (16000 * 81) (w s * cbZ z s n) := bd_mul (hw s) ⟨by have := cb3 h hn s; omega, by have := cb3 h hn s; omega⟩
  unfold csZ
  rw [Int.neg_mul]
  unfold bd at h2
  unfold i64
  omega
def corB (z : Nat → Nat → Int) (w : Nat → Int) (n s : Nat) : Bool := decide (s = 0 ∨ 0 ≤ csZ z w s n)
section MC
variable {h : mH} {Q : Option Value → mH → Prop} {z : Nat → Nat → Int} {i n : Nat} {w : Nat → Int} {x18 : mE}
theorem l179s {s : Nat} (hz : smR z n) (hv : MV h i n w) (hs16 : s < 16) (e2 : h[18]? = some x18) (hk : mWp mCd 179 (134, [some (.ref 14), some (.int (iZ i)), some (.int (iZ s)), none, none, some (.long (lZ (csZ z w s n))), none, none], [], mm h z, 0, 0) Q) : ∀ k : Nat, k ≤ n → mWp mCd 179 (76, [some (.ref 14), some (.int (iZ i)), some (.int (iZ s)), some (.long (lZ (cbZ z s n))), none, some (.long (lZ (- w s * cbZ z s n + sumTo (csF z s n) k))), none, some (.int (iZ k))], [], mm h z, 0, 0) Q := by
  obtain ⟨hi, ⟨hn1, hn4⟩, hw, v, cor, bA, bB, rw_, bo, sz, g, e1, e16, e3, hs, hg⟩ := id hv
  have e1' := mm_n (h := h) (by omega) e1 z
  have e16' := mm_n (h := h) (by omega) e16 z
  have e2' := mm_18 (h := h) e2 z
  refine lp_up n ?_ ?_
  · refine b179_76 e1' e16' (iZ_in (by omega) (by omega) (by decide)) (fun _ => hk) (fun q => ?_)
    simp (disch := (first | assumption | omega | (unfold i32; omega) | (unfold i64; omega))) only [iZ_add, iZ_sub, iZ_mul, iZ_neg, lZ_add, lZ_sub, lZ_mul, lZ_neg, lZ_i, iZ_l, iZ_nat, Int.toNat_natCast, iZ_bit, iZ_shl, iZ_or, iZ_lt, iZ_le, iZ_eq, iZ_lt0, iZ_le0, iZ_gt0, iZ_ge0, iZ_eq0, cmp_eq0, cmp_lt0, cmp_le0, cmp_ge0, cmp_gt0, tf_0, tf_n0, Decidable.not_not, not_true_eq_false, not_false_eq_true, hs, Int.toNat_natCast, tn5, tn55, tn54, zM_at, zM_up] at q
    omega
  · intro k hk ih
    have e0 : s / 2 ^ k % 2 = bt s k := rfl
    have hk4 : k < 4 := by omega
    have hk5 : k < 5 := by omega
    have hzk := hz k hk
    have hcb := cb3 hz hn4 s
    have lz : i64 (z k k) := ⟨by omega, by omega⟩
    have lc : i64 (cbZ z s n) := ⟨by omega, by omega⟩
    have z4 := zM_at z k 4 (by omega)
    have zk := zM_at z k k hk5
    rw [sumTo, csF, ← Int.add_assoc] at ih
    refine b179_76 e1' e16' (iZ_in (by omega) (by omega) (by decide)) (fun q => ?_) (fun _ => b179_87 (fun q => b179_128 ?_) (fun q => b179_97 e1' e2' ?_ ?_ ?_ (b179_128 ?_)))
    · simp (disch := (first | assumption | omega | (unfold i32; omega) | (unfold i64; omega))) only [iZ_add, iZ_sub, iZ_mul, iZ_neg, lZ_add, lZ_sub, lZ_mul, lZ_neg, lZ_i, iZ_l, iZ_nat, Int.toNat_natCast, iZ_bit, iZ_shl, iZ_or, iZ_lt, iZ_le, iZ_eq, iZ_lt0, iZ_le0, iZ_gt0, iZ_ge0, iZ_eq0, cmp_eq0, cmp_lt0, cmp_le0, cmp_ge0, cmp_gt0, tf_0, tf_n0, Decidable.not_not, not_true_eq_false, not_false_eq_true, hs, Int.toNat_natCast, tn5, tn55, tn54, zM_at, zM_up] at q
      omega
    · simp (disch := (first | assumption | omega | (unfold i32; omega) | (unfold i64; omega))) only [iZ_add, iZ_sub, iZ_mul, iZ_neg, lZ_add, lZ_sub, lZ_mul, lZ_neg, lZ_i, iZ_l, iZ_nat, Int.toNat_natCast, iZ_bit, iZ_shl, iZ_or, iZ_lt, iZ_le, iZ_eq, iZ_lt0, iZ_le0, iZ_gt0, iZ_ge0, iZ_eq0, cmp_eq0, cmp_lt0, cmp_le0, cmp_ge0, cmp_gt0, tf_0, tf_n0, Decidable.not_not, not_true_eq_false, not_false_eq_true, hs, Int.toNat_natCast, tn5, tn55, tn54, zM_at, zM_up, e0] at q
      simp (disch := (first | assumption | omega | (unfold i32; omega) | (unfold i64; omega))) only [iZ_add, iZ_sub, iZ_mul, iZ_neg, lZ_add, lZ_sub, lZ_mul, lZ_neg, lZ_i, iZ_l, iZ_nat, Int.toNat_natCast, iZ_bit, iZ_shl, iZ_or, iZ_lt, iZ_le, iZ_eq, iZ_lt0, iZ_le0, iZ_gt0, iZ_ge0, iZ_eq0, cmp_eq0, cmp_lt0, cmp_le0, cmp_ge0, cmp_gt0, tf_0, tf_n0, Decidable.not_not, not_true_eq_false, not_false_eq_true, hs, Int.toNat_natCast, tn5, tn55, tn54, zM_at, zM_up]
      rw [if_neg (by omega), Int.add_zero] at ih
      exact ih
    · rw [iZ_mul, iZ_add]
      exact iZ_in (by omega) (by omega) (by decide)
    · rw [iZ_mul, iZ_add]
      exact iZ_in (by omega) (by omega) (by decide)
    · simp (disch := (first | assumption | omega | (unfold i32; omega) | (unfold i64; omega))) only [iZ_add, iZ_sub, iZ_mul, iZ_neg, lZ_add, lZ_sub, lZ_mul, lZ_neg, lZ_i, iZ_l, iZ_nat, Int.toNat_natCast, iZ_bit, iZ_shl, iZ_or, iZ_lt, iZ_le, iZ_eq, iZ_lt0, iZ_le0, iZ_gt0, iZ_ge0, iZ_eq0, cmp_eq0, cmp_lt0, cmp_le0, cmp_ge0, cmp_gt0, tf_0, tf_n0, Decidable.not_not, not_true_eq_false, not_false_eq_true, hs, Int.toNat_natCast, tn5, tn55, tn54, zM_at, zM_up]
      rw [lZ_eq0 lz]; omega
    · simp (disch := (first | assumption | omega | (unfold i32; omega) | (unfold i64; omega))) only [iZ_add, iZ_sub, iZ_mul, iZ_neg, lZ_add, lZ_sub, lZ_mul, lZ_neg, lZ_i, iZ_l, iZ_nat, Int.toNat_natCast, iZ_bit, iZ_shl, iZ_or, iZ_lt, iZ_le, iZ_eq, iZ_lt0, iZ_le0, iZ_gt0, iZ_ge0, iZ_eq0, cmp_eq0, cmp_lt0, cmp_le0, cmp_ge0, cmp_gt0, tf_0, tf_n0, Decidable.not_not, not_true_eq_false, not_false_eq_true, hs, Int.toNat_natCast, tn5, tn55, tn54, zM_at, zM_up, e0] at q
      simp (disch := (first | assumption | omega | (unfold i32; omega) | (unfold i64; omega))) only [iZ_add, iZ_sub, iZ_mul, iZ_neg, lZ_add, lZ_sub, lZ_mul, lZ_neg, lZ_i, iZ_l, iZ_nat, Int.toNat_natCast, iZ_bit, iZ_shl, iZ_or, iZ_lt, iZ_le, iZ_eq, iZ_lt0, iZ_le0, iZ_gt0, iZ_ge0, iZ_eq0, cmp_eq0, cmp_lt0, cmp_le0, cmp_ge0, cmp_gt0, tf_0, tf_n0, Decidable.not_not, not_true_eq_false, not_false_eq_true, hs, Int.toNat_natCast, tn5, tn55, tn54, zM_at, zM_up, z4]
      rw [lZ_div lc lz (by omega)]
      simp (disch := (first | assumption | omega | (unfold i32; omega) | (unfold i64; omega))) only [iZ_add, iZ_sub, iZ_mul, iZ_neg, lZ_add, lZ_sub, lZ_mul, lZ_neg, lZ_i, iZ_l, iZ_nat, Int.toNat_natCast, iZ_bit, iZ_shl, iZ_or, iZ_lt, iZ_le, iZ_eq, iZ_lt0, iZ_le0, iZ_gt0, iZ_ge0, iZ_eq0, cmp_eq0, cmp_lt0, cmp_le0, cmp_ge0, cmp_gt0, tf_0, tf_n0, Decidable.not_not, not_true_eq_false, not_false_eq_true, hs, Int.toNat_natCast, tn5, tn55, tn54, zM_at, zM_up]
      rw [if_pos (by omega)] at ih
      exact ih
theorem l179 (hz : smR z n) (hv : MV h i n w) (e2 : h[18]? = some x18) (hq : Q (some (.int (iZ (bZ (allB (corB z w n) (al n)))))) (mm h z)) : ∀ s : Nat, s ≤ al n → 1 ≤ s → allB (corB z w n) s = true → mWp mCd 179 (2, [some (.ref 14), some (.int (iZ i)), some (.int (iZ s)), none, none, none, none, none], [], mm h z, 0, 0) Q := by
  obtain ⟨hi, ⟨hn1, hn4⟩, hw, v, cor, bA, bB, rw_, bo, sz, g, e1, e16, e3, hs, hg⟩ := id hv
  have e1' := mm_n (h := h) (by omega) e1 z
  have hal := al_lt hn4
  refine lp_up (al n) ?_ ?_
  · intro _ ht
    rw [ht] at hq
    exact b179_2 e1' (c139 hv.mm (b179_8 (fun _ => b179_149 hq) (fun q => absurd (Int32.le_refl _) q)))
  · intro s hk ih h1 ht
    have lc := csZ_b hz hn4 hw s
    have l0 : i64 0 := ⟨by omega, by omega⟩
    refine b179_2 e1' (c139 hv.mm (b179_8 (fun q => ?_) (fun _ => b179_11 (l179b hv (by omega) e2 (b179_62 e1' (c144 hv.mm (by omega) (b179_68 ?_))) 0 (Nat.zero_le _)))))
    · simp (disch := (first | assumption | omega | (unfold i32; omega) | (unfold i64; omega))) only [iZ_add, iZ_sub, iZ_mul, iZ_neg, lZ_add, lZ_sub, lZ_mul, lZ_neg, lZ_i, iZ_l, iZ_nat, Int.toNat_natCast, iZ_bit, iZ_shl, iZ_or, iZ_lt, iZ_le, iZ_eq, iZ_lt0, iZ_le0, iZ_gt0, iZ_ge0, iZ_eq0, cmp_eq0, cmp_lt0, cmp_le0, cmp_ge0, cmp_gt0, tf_0, tf_n0, Decidable.not_not, not_true_eq_false, not_false_eq_true, hs, Int.toNat_natCast, tn5, tn55, tn54, zM_at, zM_up] at q
      omega
    · simp (disch := (first | assumption | omega | (unfold i32; omega) | (unfold i64; omega))) only [iZ_add, iZ_sub, iZ_mul, iZ_neg, lZ_add, lZ_sub, lZ_mul, lZ_neg, lZ_i, iZ_l, iZ_nat, Int.toNat_natCast, iZ_bit, iZ_shl, iZ_or, iZ_lt, iZ_le, iZ_eq, iZ_lt0, iZ_le0, iZ_gt0, iZ_ge0, iZ_eq0, cmp_eq0, cmp_lt0, cmp_le0, cmp_ge0, cmp_gt0, tf_0, tf_n0, Decidable.not_not, not_true_eq_false, not_false_eq_true, hs, Int.toNat_natCast, tn5, tn55, tn54, zM_at, zM_up]
      have := l179s (s := s) (Q := Q) hz hv (by omega) e2 (b179_134 (fun q => b179_143 ?_) (fun q => b179_141 ?_)) 0 (Nat.zero_le _)
      · rw [show sumTo (csF z s n) 0 = 0 from rfl, Int.add_zero] at this
        exact this
      · simp (disch := (first | assumption | omega | (unfold i32; omega) | (unfold i64; omega))) only [iZ_add, iZ_sub, iZ_mul, iZ_neg, lZ_add, lZ_sub, lZ_mul, lZ_neg, lZ_i, iZ_l, iZ_nat, Int.toNat_natCast, iZ_bit, iZ_shl, iZ_or, iZ_lt, iZ_le, iZ_eq, iZ_lt0, iZ_le0, iZ_gt0, iZ_ge0, iZ_eq0, cmp_eq0, cmp_lt0, cmp_le0, cmp_ge0, cmp_gt0, tf_0, tf_n0, Decidable.not_not, not_true_eq_false, not_false_eq_true, hs, Int.toNat_natCast, tn5, tn55, tn54, zM_at, zM_up] at q
        simp (disch := (first | assumption | omega | (unfold i32; omega) | (unfold i64; omega))) only [iZ_add, iZ_sub, iZ_mul, iZ_neg, lZ_add, lZ_sub, lZ_mul, lZ_neg, lZ_i, iZ_l, iZ_nat, Int.toNat_natCast, iZ_bit, iZ_shl, iZ_or, iZ_lt, iZ_le, iZ_eq, iZ_lt0, iZ_le0, iZ_gt0, iZ_ge0, iZ_eq0, cmp_eq0, cmp_lt0, cmp_le0, cmp_ge0, cmp_gt0, tf_0, tf_n0, Decidable.not_not, not_true_eq_false, not_false_eq_true, hs, Int.toNat_natCast, tn5, tn55, tn54, zM_at, zM_up]
        exact ih (by omega) (allB_s ht (decide_eq_true (Or.inr q)))
      · simp (disch := (first | assumption | omega | (unfold i32; omega) | (unfold i64; omega))) only [iZ_add, iZ_sub, iZ_mul, iZ_neg, lZ_add, lZ_sub, lZ_mul, lZ_neg, lZ_i, iZ_l, iZ_nat, Int.toNat_natCast, iZ_bit, iZ_shl, iZ_or, iZ_lt, iZ_le, iZ_eq, iZ_lt0, iZ_le0, iZ_gt0, iZ_ge0, iZ_eq0, cmp_eq0, cmp_lt0, cmp_le0, cmp_ge0, cmp_gt0, tf_0, tf_n0, Decidable.not_not, not_true_eq_false, not_false_eq_true, hs, Int.toNat_natCast, tn5, tn55, tn54, zM_at, zM_up] at q
        rw [allB_f (P := corB z w n) (k := s) (decide_eq_false (by omega)) hk] at hq
        exact hq
theorem c179 (hz : smR z n) (hv : MV h i n w) (e2 : h[18]? = some x18) (hq : Q (some (.int (iZ (bZ (allB (corB z w n) (al n)))))) (mm h z)) : mCt mCd 179 [.ref 14, .int (iZ i)] (mm h z) Q := by
  have h1 : 1 ≤ al n := by
    have := p2_lt (show 0 < n by have := hv.2.1.1; omega)
    unfold al; omega
  exact en179 (b179_0 (l179 hz hv e2 hq 1 h1 (Nat.le_refl 1) rfl))
end MC
