
section MS
variable {h : mH} {Q : Option Value → mH → Prop} {z0 : Nat → Nat → Int} {v cor : Int32} {bA bB : Int64} {rw_ bo : Int32} {x18 : mE} {u m : Nat}
theorem l176z {z : Nat → Nat → Int} (hz : Inv z0 z u m u 0) (hm : m ≤ 4) (hu : u ≤ m) (e1 : h[14]? = some (oM v cor bA bB rw_ bo)) (e2 : h[18]? = some x18) (hok : (∀ r, u ≤ r → r < m → z r 4 = 0) → mWp mCd 176 (208, [some (.ref 14), some (.int (iZ u)), none, none, none, none, none, none, none, none, none], [], mm h z, 0, 0) Q) (hno : ∀ r, u ≤ r → r < m → z r 4 ≠ 0 → Q (some (.int (iZ 0))) (mm h z)) : ∀ i : Nat, i ≤ m → u ≤ i → (∀ r, u ≤ r → r < i → z r 4 = 0) → mWp mCd 176 (180, [some (.ref 14), some (.int (iZ u)), some (.int (iZ m)), some (.int (iZ i)), none, none, none, none, none, none, none], [], mm h z, 0, 0) Q := by
  have hs : True := trivial
  refine lp_up m ?_ ?_
  · intro _ h0
    exact b176_180 (fun _ => hok h0) (fun q => absurd (Int32.le_refl _) q)
  · intro i hi ih hui h0
    have lf := bd_l (hz.l (by omega) (r := i) (k := 4) hi (by omega))
    have l0 : i64 0 := ⟨by omega, by omega⟩
    have z4 := zM_at z i 4 (by omega)
    
    refine b176_180 (fun q => ?_) (fun _ => b176_185 (mm_n (by omega) e1 _) (mm_18 e2 _) ?_ (fun q => b176_202 ?_) (fun q => b176_200 (hno i hui hi ?_)))
    · simp (disch := (first | assumption | omega | (unfold i32; omega) | (unfold i64; omega))) only [iZ_add, iZ_sub, iZ_mul, iZ_neg, lZ_add, lZ_sub, lZ_mul, lZ_neg, lZ_i, iZ_l, iZ_nat, Int.toNat_natCast, iZ_bit, iZ_shl, iZ_or, iZ_lt, iZ_le, iZ_eq, iZ_lt0, iZ_le0, iZ_gt0, iZ_ge0, iZ_eq0, cmp_eq0, cmp_lt0, cmp_le0, cmp_ge0, cmp_gt0, tf_0, tf_n0, Decidable.not_not, not_true_eq_false, not_false_eq_true, hs, Int.toNat_natCast, tn5, tn54, z4] at q
      omega
    · rw [iZ_mul, iZ_add]
      exact iZ_in (by omega) (by omega) (by decide)
    · simp (disch := (first | assumption | omega | (unfold i32; omega) | (unfold i64; omega))) only [iZ_add, iZ_sub, iZ_mul, iZ_neg, lZ_add, lZ_sub, lZ_mul, lZ_neg, lZ_i, iZ_l, iZ_nat, Int.toNat_natCast, iZ_bit, iZ_shl, iZ_or, iZ_lt, iZ_le, iZ_eq, iZ_lt0, iZ_le0, iZ_gt0, iZ_ge0, iZ_eq0, cmp_eq0, cmp_lt0, cmp_le0, cmp_ge0, cmp_gt0, tf_0, tf_n0, Decidable.not_not, not_true_eq_false, not_false_eq_true, hs, Int.toNat_natCast, tn5, tn54, z4] at q
      simp (disch := (first | assumption | omega | (unfold i32; omega) | (unfold i64; omega))) only [iZ_add, iZ_sub, iZ_mul, iZ_neg, lZ_add, lZ_sub, lZ_mul, lZ_neg, lZ_i, iZ_l, iZ_nat, Int.toNat_natCast, iZ_bit, iZ_shl, iZ_or, iZ_lt, iZ_le, iZ_eq, iZ_lt0, iZ_le0, iZ_gt0, iZ_ge0, iZ_eq0, cmp_eq0, cmp_lt0, cmp_le0, cmp_ge0, cmp_gt0, tf_0, tf_n0, Decidable.not_not, not_true_eq_false, not_false_eq_true, hs, Int.toNat_natCast, tn5, tn54, z4]
      refine ih (by omega) (fun r h1 h2 => ?_)
      by_cases w : r = i
      · subst w; exact q
      · exact h0 r h1 (by omega)
    · simp (disch := (first | assumption | omega | (unfold i32; omega) | (unfold i64; omega))) only [iZ_add, iZ_sub, iZ_mul, iZ_neg, lZ_add, lZ_sub, lZ_mul, lZ_neg, lZ_i, iZ_l, iZ_nat, Int.toNat_natCast, iZ_bit, iZ_shl, iZ_or, iZ_lt, iZ_le, iZ_eq, iZ_lt0, iZ_le0, iZ_gt0, iZ_ge0, iZ_eq0, cmp_eq0, cmp_lt0, cmp_le0, cmp_ge0, cmp_gt0, tf_0, tf_n0, Decidable.not_not, not_true_eq_false, not_false_eq_true, hs, Int.toNat_natCast, tn5, tn54, z4] at q
      exact q
theorem c176 (hu : u ≤ m) (hm : m ≤ 4) (hp : ∀ r, r < m → prim (z0 r)) (hb : ∀ r, r < m → bdR 1 (z0 r)) (hz : ∀ r k, r < m → u ≤ k → k < 4 → z0 r k = 0) (e1 : h[14]? = some (oM v cor bA bB rw_ bo)) (e2 : h[18]? = some x18) (hT : ∀ z, Res z0 z u m → Q (some (.int (iZ 1))) (mm h z)) (hF : ∀ z, Fail z0 u m → Q (some (.int (iZ 0))) (mm h z)) : mCt mCd 176 [.ref 14, .int (iZ u), .int (iZ m)] (mm h z0) Q := by
  refine en176 (b176_0 ?_)
  refine l176c (z0 := z0) hu hm e1 e2 (fun z hi => ?_) (fun z c hc hi hall => hF z (hi.bad hu hc hall)) 0 (Nat.zero_le _) z0 ⟨fun _ _ => Iff.rfl, fun r k _ hk => absurd hk (Nat.not_lt_zero _), fun k hk => absurd hk (Nat.not_lt_zero _), hp, fun r hr => ?_, hz, fun r hr => absurd hr (Nat.not_lt_zero _)⟩
  · refine b176_178 (l176z hi hm hu e1 e2 (fun h0 => b176_208 ?_) (fun r h1 h2 h3 => hF z (Or.inr fun x t hs => ?_)) u hu (Nat.le_refl u) (fun r h1 h2 => by omega))
    · have := l176s hi hu hm e1 e2 (hT _ (hi.res hu hm h0)) 0 (Nat.zero_le _)
      rwa [show sgZ z 0 = z from by funext r; unfold sgZ; rw [if_neg (by omega)]] at this
    · have := (hi.1 x t).mpr hs r h2
      rw [hi.last h1 h2] at this
      have : z r 4 * t = 0 := by omega
      rcases Int.mul_eq_zero.mp this with q | q
      · exact absurd q h3
      · exact q
  · rw [if_neg (by omega)]
    exact hb r hr
end MS
