/-! ===== the reference: isCore ===== -/

theorem tn55 (r : Nat) : ((5 : Int) * (r : Int) + (r : Int)).toNat = 5 * r + r := by omega
/-- what the sets get: numbers z i i > 0 below the line, z i 4 above -/
def cbF (z : Nat → Nat → Int) (s i : Nat) : Int := if bt s i = 1 then z i i else 1
def cbZ (z : Nat → Nat → Int) (s n : Nat) : Int := prd (cbF z s) n
def csF (z : Nat → Nat → Int) (s n i : Nat) : Int := if bt s i = 1 then z i 4 * (cbZ z s n).tdiv (z i i) else 0
def csZ (z : Nat → Nat → Int) (w : Nat → Int) (s n : Nat) : Int := - w s * cbZ z s n + sumTo (csF z s n) n
/-- diag from 1 to 3, right sides small -/
def smR (z : Nat → Nat → Int) (n : Nat) : Prop := ∀ i, i < n → (1 ≤ z i i ∧ z i i ≤ 3) ∧ bd 524288000 (z i 4)
theorem cbZ_b {z : Nat → Nat → Int} {n : Nat} (h : smR z n) (s : Nat) : ∀ k, k ≤ n → 1 ≤ prd (cbF z s) k ∧ prd (cbF z s) k ≤ 3 ^ k
  | 0, _ => ⟨Int.le_refl 1, Int.le_refl 1⟩
  | k + 1, hk => by
    have ih := cbZ_b h s k (by omega)
    have hf : 1 ≤ cbF z s k ∧ cbF z s k ≤ 3 := by
      unfold cbF
      split
      · exact (h k (by omega)).1
      · omega
    unfold prd
    refine ⟨?_, ?_⟩
    · have := Int.mul_le_mul ih.1 hf.1 (by omega) (by omega)
      omega
    · rw [Int.pow_succ]
      exact Int.mul_le_mul ih.2 hf.2 (by omega) (by omega)
section MC
variable {h : mH} {Q : Option Value → mH → Prop} {z : Nat → Nat → Int} {i n : Nat} {w : Nat → Int} {x18 : mE}
theorem l179b {s : Nat} (hv : MV h i n w) (hs16 : s < 16) (e2 : h[18]? = some x18) (hk : mWp mCd 179 (62, [some (.ref 14), some (.int (iZ i)), some (.int (iZ s)), some (.long (lZ (cbZ z s n))), none, none, none, none], [], mm h z, 0, 0) Q) : ∀ k : Nat, k ≤ n → mWp mCd 179 (16, [some (.ref 14), some (.int (iZ i)), some (.int (iZ s)), some (.long (lZ (prd (cbF z s) k))), none, some (.int (iZ k)), none, none], [], mm h z, 0, 0) Q := by
  obtain ⟨hi, ⟨hn1, hn4⟩, hw, v, cor, bA, bB, rw_, bo, sz, g, e1, e16, e3, hs, hg⟩ := id hv
  have e1' := mm_n (h := h) (by omega) e1 z
  have e16' := mm_n (h := h) (by omega) e16 z
  have e2' := mm_18 (h := h) e2 z
  refine lp_up n ?_ ?_
  · refine b179_16 e1' e16' (iZ_in (by omega) (by omega) (by decide)) (fun _ => hk) (fun q => ?_)
    simp (disch := (first | assumption | omega | (unfold i32; omega) | (unfold i64; omega))) only [iZ_add, iZ_sub, iZ_mul, iZ_neg, lZ_add, lZ_sub, lZ_mul, lZ_neg, lZ_i, iZ_l, iZ_nat, Int.toNat_natCast, iZ_bit, iZ_shl, iZ_or, iZ_lt, iZ_le, iZ_eq, iZ_lt0, iZ_le0, iZ_gt0, iZ_ge0, iZ_eq0, cmp_eq0, cmp_lt0, cmp_le0, cmp_ge0, cmp_gt0, tf_0, tf_n0, Decidable.not_not, not_true_eq_false, not_false_eq_true, hs, Int.toNat_natCast, tn5, tn55, tn54, zM_at, zM_up] at q
    omega
  · intro k hk ih
    have e0 : s / 2 ^ k % 2 = bt s k := rfl
    have hk4 : k < 4 := by omega
    have hk5 : k < 5 := by omega
    rw [prd, cbF] at ih
    refine b179_16 e1' e16' (iZ_in (by omega) (by omega) (by decide)) (fun q => ?_) (fun _ => b179_27 (fun q => b179_53 (b179_54 ?_)) (fun q => b179_38 e1' e2' ?_ (b179_54 ?_)))
    · simp (disch := (first | assumption | omega | (unfold i32; omega) | (unfold i64; omega))) only [iZ_add, iZ_sub, iZ_mul, iZ_neg, lZ_add, lZ_sub, lZ_mul, lZ_neg, lZ_i, iZ_l, iZ_nat, Int.toNat_natCast, iZ_bit, iZ_shl, iZ_or, iZ_lt, iZ_le, iZ_eq, iZ_lt0, iZ_le0, iZ_gt0, iZ_ge0, iZ_eq0, cmp_eq0, cmp_lt0, cmp_le0, cmp_ge0, cmp_gt0, tf_0, tf_n0, Decidable.not_not, not_true_eq_false, not_false_eq_true, hs, Int.toNat_natCast, tn5, tn55, tn54, zM_at, zM_up] at q
      omega
    · simp (disch := (first | assumption | omega | (unfold i32; omega) | (unfold i64; omega))) only [iZ_add, iZ_sub, iZ_mul, iZ_neg, lZ_add, lZ_sub, lZ_mul, lZ_neg, lZ_i, iZ_l, iZ_nat, Int.toNat_natCast, iZ_bit, iZ_shl, iZ_or, iZ_lt, iZ_le, iZ_eq, iZ_lt0, iZ_le0, iZ_gt0, iZ_ge0, iZ_eq0, cmp_eq0, cmp_lt0, cmp_le0, cmp_ge0, cmp_gt0, tf_0, tf_n0, Decidable.not_not, not_true_eq_false, not_false_eq_true, hs, Int.toNat_natCast, tn5, tn55, tn54, zM_at, zM_up, e0] at q
      simp (disch := (first | assumption | omega | (unfold i32; omega) | (unfold i64; omega))) only [iZ_add, iZ_sub, iZ_mul, iZ_neg, lZ_add, lZ_sub, lZ_mul, lZ_neg, lZ_i, iZ_l, iZ_nat, Int.toNat_natCast, iZ_bit, iZ_shl, iZ_or, iZ_lt, iZ_le, iZ_eq, iZ_lt0, iZ_le0, iZ_gt0, iZ_ge0, iZ_eq0, cmp_eq0, cmp_lt0, cmp_le0, cmp_ge0, cmp_gt0, tf_0, tf_n0, Decidable.not_not, not_true_eq_false, not_false_eq_true, hs, Int.toNat_natCast, tn5, tn55, tn54, zM_at, zM_up]
      rw [if_neg (by omega)] at ih
      exact ih
    · rw [iZ_mul, iZ_add]
      exact iZ_in (by omega) (by omega) (by decide)
    · simp (disch := (first | assumption | omega | (unfold i32; omega) | (unfold i64; omega))) only [iZ_add, iZ_sub, iZ_mul, iZ_neg, lZ_add, lZ_sub, lZ_mul, lZ_neg, lZ_i, iZ_l, iZ_nat, Int.toNat_natCast, iZ_bit, iZ_shl, iZ_or, iZ_lt, iZ_le, iZ_eq, iZ_lt0, iZ_le0, iZ_gt0, iZ_ge0, iZ_eq0, cmp_eq0, cmp_lt0, cmp_le0, cmp_ge0, cmp_gt0, tf_0, tf_n0, Decidable.not_not, not_true_eq_false, not_false_eq_true, hs, Int.toNat_natCast, tn5, tn55, tn54, zM_at, zM_up, e0] at q
      simp (disch := (first | assumption | omega | (unfold i32; omega) | (unfold i64; omega))) only [iZ_add, iZ_sub, iZ_mul, iZ_neg, lZ_add, lZ_sub, lZ_mul, lZ_neg, lZ_i, iZ_l, iZ_nat, Int.toNat_natCast, iZ_bit, iZ_shl, iZ_or, iZ_lt, iZ_le, iZ_eq, iZ_lt0, iZ_le0, iZ_gt0, iZ_ge0, iZ_eq0, cmp_eq0, cmp_lt0, cmp_le0, cmp_ge0, cmp_gt0, tf_0, tf_n0, Decidable.not_not, not_true_eq_false, not_false_eq_true, hs, Int.toNat_natCast, tn5, tn55, tn54, zM_at, zM_up]
      rw [if_pos (by omega)] at ih
      exact ih
end MC
