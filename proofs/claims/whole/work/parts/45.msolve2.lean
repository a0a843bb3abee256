/-! ===== the reference: solves ===== -/

theorem sumTo_pull (f : Nat → Int) {u j : Nat} (hj : j < u) : sumTo f u = sumTo (fun k => if k = j then 0 else f k) u + f j := by
  induction u with
  | zero => omega
  | succ u ih =>
    unfold sumTo
    by_cases q : j = u
    · subst q
      rw [if_pos rfl, Int.add_zero, sumTo_congr (f := fun k => if k = j then 0 else f k) (g := f) fun k hk => if_neg (by omega)]
    · rw [if_neg (Ne.symm q), ih (by omega)]
      omega
theorem sumTo_2 (f : Nat → Int) {u i j : Nat} (hi : i < u) (hj : j < u) (hij : i ≠ j) (h : ∀ k, k < u → k ≠ i → k ≠ j → f k = 0) : sumTo f u = f i + f j := by
  rw [sumTo_pull f hj, sumTo_1 _ hi fun k hk hn => ?_, if_neg hij]
  split
  · rfl
  · next q => exact h k hk hn q
def prd (f : Nat → Int) : Nat → Int
  | 0 => 1
  | n + 1 => prd f n * f n
theorem prd_nz {f : Nat → Int} : ∀ {n : Nat}, (∀ k, k < n → f k ≠ 0) → prd f n ≠ 0
  | 0, _ => by unfold prd; omega
  | n + 1, h => by
    unfold prd
    intro q
    rcases Int.mul_eq_zero.mp q with q | q
    · exact prd_nz (fun k hk => h k (by omega)) q
    · exact h n (by omega) q
theorem prd_d {f : Nat → Int} : ∀ {n k : Nat}, k < n → f k ∣ prd f n
  | 0, _, h => absurd h (Nat.not_lt_zero _)
  | n + 1, k, h => by
    unfold prd
    by_cases q : k = n
    · subst q; exact Int.dvd_mul_left _ _
    · exact Int.dvd_mul_of_dvd_left (prd_d (by omega))
theorem Inv.bad {z0 z : Nat → Nat → Int} {u m c : Nat} (h : Inv z0 z u m c 0) (hu : u ≤ m) (hc : c < u) (hz : ∀ r, c ≤ r → r < m → z r c = 0) : Fail z0 u m := by
  obtain ⟨a1, a2, a3, a4, a5, a6, a7⟩ := h
  have hP : prd (fun j => z j j) c ≠ 0 := prd_nz a3
  refine Or.inl ⟨fun k => if k = c then prd (fun j => z j j) c else if k < c then - z k c * (prd (fun j => z j j) c / z k k) else 0, ⟨c, hc, by simpa using hP⟩, ?_⟩
  rw [← a1]
  intro r hr
  unfold ev
  rw [Int.mul_zero, Int.sub_zero]
  by_cases q : r < c
  · rw [sumTo_2 _ (i := r) (j := c) (by omega) hc (by omega) fun k hk h1 h2 => ?_]
    · dsimp only
      rw [if_neg (by omega), if_pos q, if_pos rfl]
      have hd : z r r ∣ prd (fun j => z j j) c := prd_d (f := fun j => z j j) q
      have e : z r r * (prd (fun j => z j j) c / z r r) = prd (fun j => z j j) c := Int.mul_ediv_cancel' hd
      rw [← Int.mul_assoc, Int.mul_comm (z r r), Int.mul_assoc, e, Int.neg_mul]
      omega
    · by_cases q3 : k < c
      · rw [a2 r k hr q3 (Ne.symm h1), Int.zero_mul]
      · dsimp only
        rw [if_neg h2, if_neg q3, Int.mul_zero]
  · refine sumTo_0 _ fun k hk => ?_
    by_cases q2 : k = c
    · subst q2
      rw [hz r (by omega) hr, Int.zero_mul]
    · dsimp only
      rw [if_neg q2]
      by_cases q3 : k < c
      · rw [a2 r k hr q3 (by omega), Int.zero_mul]
      · rw [if_neg q3, Int.mul_zero]
section MS
variable {h : mH} {Q : Option Value → mH → Prop} {z0 : Nat → Nat → Int} {v cor : Int32} {bA bB : Int64} {rw_ bo : Int32} {x18 : mE} {u m : Nat}
theorem l176s {z : Nat → Nat → Int} (hz : Inv z0 z u m u 0) (hu : u ≤ m) (hm : m ≤ 4) (e1 : h[14]? = some (oM v cor bA bB rw_ bo)) (e2 : h[18]? = some x18) (hq : Q (some (.int (iZ 1))) (mm h (sgZ z u))) : ∀ k : Nat, k ≤ u → mWp mCd 176 (210, [some (.ref 14), some (.int (iZ u)), none, some (.int (iZ k)), none, none, none, none, none, none, none], [], mm h (sgZ z k), 0, 0) Q := by
  have hs : True := trivial
  refine lp_up u ?_ ?_
  · exact b176_210 (fun _ => b176_281 hq) (fun q => absurd (Int32.le_refl _) q)
  · intro k hk ih
    have lf := bd_l (hz.l (by omega) (r := k) (k := k) (by omega) (by omega))
    have l0 : i64 0 := ⟨by omega, by omega⟩
    have hin : ¬ (iZ 5 * iZ k + iZ k < 0 ∨ 20 ≤ (iZ 5 * iZ k + iZ k).toNatClampNeg) := by
      rw [iZ_mul, iZ_add]
      exact iZ_in (by omega) (by omega) (by decide)
    refine b176_210 (fun q => ?_) (fun _ => b176_215 (mm_n (by omega) e1 _) (mm_18 e2 _) hin (fun q => b176_233 (mm_n (by omega) e1 _) (mm_18 e2 _) hin ?_ (b176_275 ?_)) (fun q => b176_230 (b176_275 ?_)))
    · simp (disch := (first | assumption | omega | (unfold i32; omega) | (unfold i64; omega))) only [iZ_add, iZ_sub, iZ_mul, iZ_neg, lZ_add, lZ_sub, lZ_mul, lZ_neg, lZ_i, iZ_l, iZ_nat, Int.toNat_natCast, iZ_bit, iZ_shl, iZ_or, iZ_lt, iZ_le, iZ_eq, iZ_lt0, iZ_le0, iZ_gt0, iZ_ge0, iZ_eq0, cmp_eq0, cmp_lt0, cmp_le0, cmp_ge0, cmp_gt0, tf_0, tf_n0, Decidable.not_not, not_true_eq_false, not_false_eq_true, hs, Int.toNat_natCast, tn5, tn54, zM_at, zM_up] at q
      omega
    · rw [iZ_mul, iZ_add]
      exact iZ_in (by omega) (by omega) (by decide)
    · simp (disch := (first | assumption | omega | (unfold i32; omega) | (unfold i64; omega))) only [iZ_add, iZ_sub, iZ_mul, iZ_neg, lZ_add, lZ_sub, lZ_mul, lZ_neg, lZ_i, iZ_l, iZ_nat, Int.toNat_natCast, iZ_bit, iZ_shl, iZ_or, iZ_lt, iZ_le, iZ_eq, iZ_lt0, iZ_le0, iZ_gt0, iZ_ge0, iZ_eq0, cmp_eq0, cmp_lt0, cmp_le0, cmp_ge0, cmp_gt0, tf_0, tf_n0, Decidable.not_not, not_true_eq_false, not_false_eq_true, hs, Int.toNat_natCast, tn5, tn54, zM_at, zM_up, sgZ_at] at q
      simp (disch := (first | assumption | omega | (unfold i32; omega) | (unfold i64; omega))) only [iZ_add, iZ_sub, iZ_mul, iZ_neg, lZ_add, lZ_sub, lZ_mul, lZ_neg, lZ_i, iZ_l, iZ_nat, Int.toNat_natCast, iZ_bit, iZ_shl, iZ_or, iZ_lt, iZ_le, iZ_eq, iZ_lt0, iZ_le0, iZ_gt0, iZ_ge0, iZ_eq0, cmp_eq0, cmp_lt0, cmp_le0, cmp_ge0, cmp_gt0, tf_0, tf_n0, Decidable.not_not, not_true_eq_false, not_false_eq_true, hs, Int.toNat_natCast, tn5, tn54, zM_at, zM_up, sgZ_at]
      rw [List.set_set, mm_s]
      have e : set1 (set1 (sgZ z k) k (set1 (z k) k (- z k k))) k (set1 (set1 (z k) k (- z k k)) 4 (- z k 4)) = sgZ z (k + 1) := by
        rw [set1_s, ← sgZ_s]
        unfold sgR
        rw [if_neg (by omega)]
      rw [set1_e, set1_n (z k) _ (show 4 ≠ k by omega), e]
      exact ih
    · simp (disch := (first | assumption | omega | (unfold i32; omega) | (unfold i64; omega))) only [iZ_add, iZ_sub, iZ_mul, iZ_neg, lZ_add, lZ_sub, lZ_mul, lZ_neg, lZ_i, iZ_l, iZ_nat, Int.toNat_natCast, iZ_bit, iZ_shl, iZ_or, iZ_lt, iZ_le, iZ_eq, iZ_lt0, iZ_le0, iZ_gt0, iZ_ge0, iZ_eq0, cmp_eq0, cmp_lt0, cmp_le0, cmp_ge0, cmp_gt0, tf_0, tf_n0, Decidable.not_not, not_true_eq_false, not_false_eq_true, hs, Int.toNat_natCast, tn5, tn54, zM_at, zM_up, sgZ_at] at q
      simp (disch := (first | assumption | omega | (unfold i32; omega) | (unfold i64; omega))) only [iZ_add, iZ_sub, iZ_mul, iZ_neg, lZ_add, lZ_sub, lZ_mul, lZ_neg, lZ_i, iZ_l, iZ_nat, Int.toNat_natCast, iZ_bit, iZ_shl, iZ_or, iZ_lt, iZ_le, iZ_eq, iZ_lt0, iZ_le0, iZ_gt0, iZ_ge0, iZ_eq0, cmp_eq0, cmp_lt0, cmp_le0, cmp_ge0, cmp_gt0, tf_0, tf_n0, Decidable.not_not, not_true_eq_false, not_false_eq_true, hs, Int.toNat_natCast, tn5, tn54, zM_at, zM_up]
      have e : sgZ z k = sgZ z (k + 1) := by
        rw [← sgZ_s]
        unfold sgR
        rw [if_pos (by omega)]
        conv => rhs; rw [← sgZ_at z k]
        exact (set1_id _ _).symm
      rw [e]
      exact ih
end MS
