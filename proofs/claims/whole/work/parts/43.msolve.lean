/-! ===== the reference: solves, its run ===== -/

theorem bdR_l {K : Int} {f : Nat → Int} (h : bdR K f) (hK : K ≤ 32768) {k : Nat} (hk : k < 5) : bd 524288000 (f k) := by
  by_cases q : k = 4
  · subst q; exact bd_mono (by omega) h.2
  · exact bd_mono (by omega) (h.1 k (by omega))
theorem Inv.l {z0 z : Nat → Nat → Int} {u m c i : Nat} (h : Inv z0 z u m c i) (hc : c < 4 ∨ (c = 4 ∧ i = 0)) {r k : Nat} (hr : r < m) (hk : k < 5) : bd 524288000 (z r k) := by
  obtain ⟨-, -, -, -, a5, -, -⟩ := h
  refine bdR_l (a5 r hr) ?_ hk
  split
  · exact (Kb_1 (c + 1) (by omega)).2
  · exact (Kb_1 c (by omega)).2
theorem bd_l {z : Int} (h : bd 524288000 z) : i64 z := ⟨by unfold bd at h; omega, by unfold bd at h; omega⟩
section MS
variable {h : mH} {Q : Option Value → mH → Prop} {z0 : Nat → Nat → Int} {v cor : Int32} {bA bB : Int64} {rw_ bo : Int32} {x18 : mE} {u m c : Nat}
theorem l176k {z : Nat → Nat → Int} {i : Nat} (hc : c < 4) (hi : i < 4) (hne : i ≠ c) (e1 : h[14]? = some (oM v cor bA bB rw_ bo)) (e2 : h[18]? = some x18) (hq : mWp mCd 176 (160, [some (.ref 14), some (.int (iZ u)), some (.int (iZ m)), some (.int (iZ c)), none, some (.int (iZ i)), none, none, none, none, none], [], mm h (set1 z i (mix 5 (elm z c i) (z i))), 0, 0) Q) : ∀ k : Nat, k ≤ 5 → mWp mCd 176 (106, [some (.ref 14), some (.int (iZ u)), some (.int (iZ m)), some (.int (iZ c)), none, some (.int (iZ i)), some (.long (lZ (z i c))), none, some (.long (lZ (z c c))), none, some (.int (iZ k))], [], mm h (set1 z i (mix k (elm z c i) (z i))), 0, 0) Q := by
  have hs : True := trivial
  refine lp_up 5 ?_ ?_
  · exact b176_106 (fun _ => hq) (fun q => absurd (Int32.le_refl _) q)
  · intro k hk ih
    refine b176_106 (fun q => ?_) (fun _ => b176_112 (mm_n (by omega) e1 _) (mm_18 e2 _) ?_ ?_ ?_)
    · simp (disch := (first | assumption | omega | (unfold i32; omega) | (unfold i64; omega))) only [iZ_add, iZ_sub, iZ_mul, iZ_neg, lZ_add, lZ_sub, lZ_mul, lZ_neg, lZ_i, iZ_l, iZ_nat, Int.toNat_natCast, iZ_bit, iZ_shl, iZ_or, iZ_lt, iZ_le, iZ_eq, iZ_lt0, iZ_le0, iZ_gt0, iZ_ge0, iZ_eq0, cmp_eq0, cmp_lt0, cmp_le0, cmp_ge0, cmp_gt0, tf_0, tf_n0, Decidable.not_not, not_true_eq_false, not_false_eq_true, hs, Int.toNat_natCast, tn5, tn54, zM_at, zM_up] at q
      omega
    · rw [iZ_mul, iZ_add]
      exact iZ_in (by omega) (by omega) (by decide)
    · rw [iZ_mul, iZ_add]
      exact iZ_in (by omega) (by omega) (by decide)
    · simp (disch := (first | assumption | omega | (unfold i32; omega) | (unfold i64; omega))) only [iZ_add, iZ_sub, iZ_mul, iZ_neg, lZ_add, lZ_sub, lZ_mul, lZ_neg, lZ_i, iZ_l, iZ_nat, Int.toNat_natCast, iZ_bit, iZ_shl, iZ_or, iZ_lt, iZ_le, iZ_eq, iZ_lt0, iZ_le0, iZ_gt0, iZ_ge0, iZ_eq0, cmp_eq0, cmp_lt0, cmp_le0, cmp_ge0, cmp_gt0, tf_0, tf_n0, Decidable.not_not, not_true_eq_false, not_false_eq_true, hs, Int.toNat_natCast, tn5, tn54, zM_at, zM_up]
      rw [set1_s, set1_e, set1_n _ _ (Ne.symm hne), mix_at]
      have : set1 (mix k (elm z c i) (z i)) k (z i k * z c c - z c k * z i c) = mix (k + 1) (elm z c i) (z i) := mix_s k (elm z c i) (z i)
      rw [this, mm_s]
      exact ih
theorem l176i (hu : u ≤ 4) (hm : m ≤ 4) (hc : c < u) (hcm : c < m) (e1 : h[14]? = some (oM v cor bA bB rw_ bo)) (e2 : h[18]? = some x18) (hq : ∀ z, Inv z0 z u m c m → z c c ≠ 0 → mWp mCd 176 (172, [some (.ref 14), some (.int (iZ u)), some (.int (iZ m)), some (.int (iZ c)), none, none, none, none, none, none, none], [], mm h z, 0, 0) Q) : ∀ i : Nat, i ≤ m → ∀ z, Inv z0 z u m c i → z c c ≠ 0 → mWp mCd 176 (56, [some (.ref 14), some (.int (iZ u)), some (.int (iZ m)), some (.int (iZ c)), none, some (.int (iZ i)), none, none, none, none, none], [], mm h z, 0, 0) Q := by
  have hs : True := trivial
  refine lp_up m ?_ ?_
  · intro z hz hp
    exact b176_56 (fun _ => hq z hz hp) (fun q => absurd (Int32.le_refl _) q)
  · intro i hi ih z hz hp
    have lf := bd_l (hz.l (Or.inl (by omega)) (r := i) (k := c) hi (by omega))
    have l0 : i64 0 := ⟨by omega, by omega⟩
    refine b176_56 (fun q => ?_) (fun _ => b176_62 (mm_n (by omega) e1 _) (mm_18 e2 _) ?_ (fun q => b176_166 ?_) (fun q => ?_))
    · simp (disch := (first | assumption | omega | (unfold i32; omega) | (unfold i64; omega))) only [iZ_add, iZ_sub, iZ_mul, iZ_neg, lZ_add, lZ_sub, lZ_mul, lZ_neg, lZ_i, iZ_l, iZ_nat, Int.toNat_natCast, iZ_bit, iZ_shl, iZ_or, iZ_lt, iZ_le, iZ_eq, iZ_lt0, iZ_le0, iZ_gt0, iZ_ge0, iZ_eq0, cmp_eq0, cmp_lt0, cmp_le0, cmp_ge0, cmp_gt0, tf_0, tf_n0, Decidable.not_not, not_true_eq_false, not_false_eq_true, hs, Int.toNat_natCast, tn5, tn54, zM_at, zM_up] at q
      omega
    · rw [iZ_mul, iZ_add]
      exact iZ_in (by omega) (by omega) (by decide)
    · simp (disch := (first | assumption | omega | (unfold i32; omega) | (unfold i64; omega))) only [iZ_add, iZ_sub, iZ_mul, iZ_neg, lZ_add, lZ_sub, lZ_mul, lZ_neg, lZ_i, iZ_l, iZ_nat, Int.toNat_natCast, iZ_bit, iZ_shl, iZ_or, iZ_lt, iZ_le, iZ_eq, iZ_lt0, iZ_le0, iZ_gt0, iZ_ge0, iZ_eq0, cmp_eq0, cmp_lt0, cmp_le0, cmp_ge0, cmp_gt0, tf_0, tf_n0, Decidable.not_not, not_true_eq_false, not_false_eq_true, hs, Int.toNat_natCast, tn5, tn54, zM_at, zM_up] at q
      simp (disch := (first | assumption | omega | (unfold i32; omega) | (unfold i64; omega))) only [iZ_add, iZ_sub, iZ_mul, iZ_neg, lZ_add, lZ_sub, lZ_mul, lZ_neg, lZ_i, iZ_l, iZ_nat, Int.toNat_natCast, iZ_bit, iZ_shl, iZ_or, iZ_lt, iZ_le, iZ_eq, iZ_lt0, iZ_le0, iZ_gt0, iZ_ge0, iZ_eq0, cmp_eq0, cmp_lt0, cmp_le0, cmp_ge0, cmp_gt0, tf_0, tf_n0, Decidable.not_not, not_true_eq_false, not_false_eq_true, hs, Int.toNat_natCast, tn5, tn54, zM_at, zM_up]
      exact ih z (hz.skip (by omega) (Or.inl (by omega))) hp
    · simp (disch := (first | assumption | omega | (unfold i32; omega) | (unfold i64; omega))) only [iZ_add, iZ_sub, iZ_mul, iZ_neg, lZ_add, lZ_sub, lZ_mul, lZ_neg, lZ_i, iZ_l, iZ_nat, Int.toNat_natCast, iZ_bit, iZ_shl, iZ_or, iZ_lt, iZ_le, iZ_eq, iZ_lt0, iZ_le0, iZ_gt0, iZ_ge0, iZ_eq0, cmp_eq0, cmp_lt0, cmp_le0, cmp_ge0, cmp_gt0, tf_0, tf_n0, Decidable.not_not, not_true_eq_false, not_false_eq_true, hs, Int.toNat_natCast, tn5, tn54, zM_at, zM_up] at q
      simp (disch := (first | assumption | omega | (unfold i32; omega) | (unfold i64; omega))) only [iZ_add, iZ_sub, iZ_mul, iZ_neg, lZ_add, lZ_sub, lZ_mul, lZ_neg, lZ_i, iZ_l, iZ_nat, Int.toNat_natCast, iZ_bit, iZ_shl, iZ_or, iZ_lt, iZ_le, iZ_eq, iZ_lt0, iZ_le0, iZ_gt0, iZ_ge0, iZ_eq0, cmp_eq0, cmp_lt0, cmp_le0, cmp_ge0, cmp_gt0, tf_0, tf_n0, Decidable.not_not, not_true_eq_false, not_false_eq_true, hs, Int.toNat_natCast, tn5, tn54, zM_at, zM_up]
      refine b176_81 (fun q2 => b176_91 (mm_n (by omega) e1 _) (mm_18 e2 _) ?_ ?_) (fun q2 => b176_88 (b176_166 ?_))
      · rw [iZ_mul, iZ_add]
        exact iZ_in (by omega) (by omega) (by decide)
      · simp (disch := (first | assumption | omega | (unfold i32; omega) | (unfold i64; omega))) only [iZ_add, iZ_sub, iZ_mul, iZ_neg, lZ_add, lZ_sub, lZ_mul, lZ_neg, lZ_i, iZ_l, iZ_nat, Int.toNat_natCast, iZ_bit, iZ_shl, iZ_or, iZ_lt, iZ_le, iZ_eq, iZ_lt0, iZ_le0, iZ_gt0, iZ_ge0, iZ_eq0, cmp_eq0, cmp_lt0, cmp_le0, cmp_ge0, cmp_gt0, tf_0, tf_n0, Decidable.not_not, not_true_eq_false, not_false_eq_true, hs, Int.toNat_natCast, tn5, tn54, zM_at, zM_up]
        have hk := l176k (Q := Q) (z := z) (i := i) (c := c) (u := u) (m := m) (by omega) (by omega) (by omega) e1 e2 ?_ 0 (by omega)
        · rw [mix_0, set1_id] at hk
          exact hk
        · have hb : ∀ k, k < 5 → bd 4611686018427387903 ((set1 z i (mix 5 (elm z c i) (z i))) i k) := fun k hk => by
            rw [set1_e]
            unfold mix elm
            rw [if_pos hk]
            have b1 := bd_mul (hz.l (Or.inl (by omega)) (r := i) (k := k) hi hk) (hz.l (Or.inl (by omega)) (r := c) (k := c) hcm (by omega))
            have b2 := bd_mul (hz.l (Or.inl (by omega)) (r := c) (k := k) hcm hk) (hz.l (Or.inl (by omega)) (r := i) (k := c) hi (by omega))
            exact bd_mono (by omega) (bd_sub2 b1 b2)
          refine b176_160 (mm_n (by omega) e1 _) (c174 (by omega) hb e1 e2 (b176_166 ?_))
          rw [set1_s, set1_e]
          simp (disch := (first | assumption | omega | (unfold i32; omega) | (unfold i64; omega))) only [iZ_add, iZ_sub, iZ_mul, iZ_neg, lZ_add, lZ_sub, lZ_mul, lZ_neg, lZ_i, iZ_l, iZ_nat, Int.toNat_natCast, iZ_bit, iZ_shl, iZ_or, iZ_lt, iZ_le, iZ_eq, iZ_lt0, iZ_le0, iZ_gt0, iZ_ge0, iZ_eq0, cmp_eq0, cmp_lt0, cmp_le0, cmp_ge0, cmp_gt0, tf_0, tf_n0, Decidable.not_not, not_true_eq_false, not_false_eq_true, hs, Int.toNat_natCast, tn5, tn54, zM_at, zM_up]
          have := hz.el hu hm hc hcm hi (by omega) hp
          exact ih _ this.1 this.2
      · simp (disch := (first | assumption | omega | (unfold i32; omega) | (unfold i64; omega))) only [iZ_add, iZ_sub, iZ_mul, iZ_neg, lZ_add, lZ_sub, lZ_mul, lZ_neg, lZ_i, iZ_l, iZ_nat, Int.toNat_natCast, iZ_bit, iZ_shl, iZ_or, iZ_lt, iZ_le, iZ_eq, iZ_lt0, iZ_le0, iZ_gt0, iZ_ge0, iZ_eq0, cmp_eq0, cmp_lt0, cmp_le0, cmp_ge0, cmp_gt0, tf_0, tf_n0, Decidable.not_not, not_true_eq_false, not_false_eq_true, hs, Int.toNat_natCast, tn5, tn54, zM_at, zM_up] at q2
        simp (disch := (first | assumption | omega | (unfold i32; omega) | (unfold i64; omega))) only [iZ_add, iZ_sub, iZ_mul, iZ_neg, lZ_add, lZ_sub, lZ_mul, lZ_neg, lZ_i, iZ_l, iZ_nat, Int.toNat_natCast, iZ_bit, iZ_shl, iZ_or, iZ_lt, iZ_le, iZ_eq, iZ_lt0, iZ_le0, iZ_gt0, iZ_ge0, iZ_eq0, cmp_eq0, cmp_lt0, cmp_le0, cmp_ge0, cmp_gt0, tf_0, tf_n0, Decidable.not_not, not_true_eq_false, not_false_eq_true, hs, Int.toNat_natCast, tn5, tn54, zM_at, zM_up]
        exact ih z (hz.skip (by omega) (Or.inr q2)) hp
theorem l176r {z : Nat → Nat → Int} {i0 : Nat} (hz : Inv z0 z u m c i0) (hm : m ≤ 4) (hc : c < 4) (e1 : h[14]? = some (oM v cor bA bB rw_ bo)) (e2 : h[18]? = some x18) (hq : ∀ r, r < m → c ≤ r → z r c ≠ 0 → mWp mCd 176 (38, [some (.ref 14), some (.int (iZ u)), some (.int (iZ m)), some (.int (iZ c)), some (.int (iZ r)), none, none, none, none, none, none], [], mm h z, 0, 0) Q) (hn : (∀ r, c ≤ r → r < m → z r c = 0) → mWp mCd 176 (38, [some (.ref 14), some (.int (iZ u)), some (.int (iZ m)), some (.int (iZ c)), some (.int (iZ m)), none, none, none, none, none, none], [], mm h z, 0, 0) Q) : ∀ r : Nat, r ≤ m → c ≤ r → (∀ r', c ≤ r' → r' < r → z r' c = 0) → mWp mCd 176 (10, [some (.ref 14), some (.int (iZ u)), some (.int (iZ m)), some (.int (iZ c)), some (.int (iZ r)), none, none, none, none, none, none], [], mm h z, 0, 0) Q := by
  have hs : True := trivial
  refine lp_up m ?_ ?_
  · intro _ hz0
    exact b176_10 (fun _ => hn hz0) (fun q => absurd (Int32.le_refl _) q)
  · intro r hr ih hcr hz0
    have lf := bd_l (hz.l (Or.inl hc) (r := r) (k := c) hr (by omega))
    have l0 : i64 0 := ⟨by omega, by omega⟩
    refine b176_10 (fun q => ?_) (fun _ => b176_16 (mm_n (by omega) e1 _) (mm_18 e2 _) ?_ (fun q => hq r hr hcr ?_) (fun q => b176_32 ?_))
    · simp (disch := (first | assumption | omega | (unfold i32; omega) | (unfold i64; omega))) only [iZ_add, iZ_sub, iZ_mul, iZ_neg, lZ_add, lZ_sub, lZ_mul, lZ_neg, lZ_i, iZ_l, iZ_nat, Int.toNat_natCast, iZ_bit, iZ_shl, iZ_or, iZ_lt, iZ_le, iZ_eq, iZ_lt0, iZ_le0, iZ_gt0, iZ_ge0, iZ_eq0, cmp_eq0, cmp_lt0, cmp_le0, cmp_ge0, cmp_gt0, tf_0, tf_n0, Decidable.not_not, not_true_eq_false, not_false_eq_true, hs, Int.toNat_natCast, tn5, tn54, zM_at, zM_up] at q
      omega
    · rw [iZ_mul, iZ_add]
      exact iZ_in (by omega) (by omega) (by decide)
    · simp (disch := (first | assumption | omega | (unfold i32; omega) | (unfold i64; omega))) only [iZ_add, iZ_sub, iZ_mul, iZ_neg, lZ_add, lZ_sub, lZ_mul, lZ_neg, lZ_i, iZ_l, iZ_nat, Int.toNat_natCast, iZ_bit, iZ_shl, iZ_or, iZ_lt, iZ_le, iZ_eq, iZ_lt0, iZ_le0, iZ_gt0, iZ_ge0, iZ_eq0, cmp_eq0, cmp_lt0, cmp_le0, cmp_ge0, cmp_gt0, tf_0, tf_n0, Decidable.not_not, not_true_eq_false, not_false_eq_true, hs, Int.toNat_natCast, tn5, tn54, zM_at, zM_up] at q
      exact q
    · simp (disch := (first | assumption | omega | (unfold i32; omega) | (unfold i64; omega))) only [iZ_add, iZ_sub, iZ_mul, iZ_neg, lZ_add, lZ_sub, lZ_mul, lZ_neg, lZ_i, iZ_l, iZ_nat, Int.toNat_natCast, iZ_bit, iZ_shl, iZ_or, iZ_lt, iZ_le, iZ_eq, iZ_lt0, iZ_le0, iZ_gt0, iZ_ge0, iZ_eq0, cmp_eq0, cmp_lt0, cmp_le0, cmp_ge0, cmp_gt0, tf_0, tf_n0, Decidable.not_not, not_true_eq_false, not_false_eq_true, hs, Int.toNat_natCast, tn5, tn54, zM_at, zM_up] at q
      simp (disch := (first | assumption | omega | (unfold i32; omega) | (unfold i64; omega))) only [iZ_add, iZ_sub, iZ_mul, iZ_neg, lZ_add, lZ_sub, lZ_mul, lZ_neg, lZ_i, iZ_l, iZ_nat, Int.toNat_natCast, iZ_bit, iZ_shl, iZ_or, iZ_lt, iZ_le, iZ_eq, iZ_lt0, iZ_le0, iZ_gt0, iZ_ge0, iZ_eq0, cmp_eq0, cmp_lt0, cmp_le0, cmp_ge0, cmp_gt0, tf_0, tf_n0, Decidable.not_not, not_true_eq_false, not_false_eq_true, hs, Int.toNat_natCast, tn5, tn54, zM_at, zM_up]
      refine ih (by omega) (fun r' h1 h2 => ?_)
      by_cases w : r' = r
      · subst w; exact q
      · exact hz0 r' h1 (by omega)
theorem l176c (hu : u ≤ m) (hm : m ≤ 4) (e1 : h[14]? = some (oM v cor bA bB rw_ bo)) (e2 : h[18]? = some x18) (hdone : ∀ z, Inv z0 z u m u 0 → mWp mCd 176 (178, [some (.ref 14), some (.int (iZ u)), some (.int (iZ m)), none, none, none, none, none, none, none, none], [], mm h z, 0, 0) Q) (hfail : ∀ z c, c < u → Inv z0 z u m c 0 → (∀ r, c ≤ r → r < m → z r c = 0) → Q (some (.int (iZ 0))) (mm h z)) : ∀ c : Nat, c ≤ u → ∀ z, Inv z0 z u m c 0 → mWp mCd 176 (2, [some (.ref 14), some (.int (iZ u)), some (.int (iZ m)), some (.int (iZ c)), none, none, none, none, none, none, none], [], mm h z, 0, 0) Q := by
  have hs : True := trivial
  refine lp_up u ?_ ?_
  · intro z hz
    exact b176_2 (fun _ => hdone z hz) (fun q => absurd (Int32.le_refl _) q)
  · intro c hc ih z hz
    refine b176_2 (fun q => ?_) (fun _ => b176_7 ?_)
    · simp (disch := (first | assumption | omega | (unfold i32; omega) | (unfold i64; omega))) only [iZ_add, iZ_sub, iZ_mul, iZ_neg, lZ_add, lZ_sub, lZ_mul, lZ_neg, lZ_i, iZ_l, iZ_nat, Int.toNat_natCast, iZ_bit, iZ_shl, iZ_or, iZ_lt, iZ_le, iZ_eq, iZ_lt0, iZ_le0, iZ_gt0, iZ_ge0, iZ_eq0, cmp_eq0, cmp_lt0, cmp_le0, cmp_ge0, cmp_gt0, tf_0, tf_n0, Decidable.not_not, not_true_eq_false, not_false_eq_true, hs, Int.toNat_natCast, tn5, tn54, zM_at, zM_up] at q
      omega
    · refine l176r hz hm (by omega) e1 e2 (fun r hr hcr hne => ?_) (fun hall => ?_) c (by omega) (Nat.le_refl c) (fun r' h1 h2 => by omega)
      · refine b176_38 (fun _ => b176_46 (mm_n (by omega) e1 _) (c175 (by omega) (by omega) e1 e2 (b176_53 ?_))) (fun q => ?_)
        · refine l176i (z0 := z0) (by omega) hm hc (by omega) e1 e2 (fun z' hz' hp' => b176_172 ?_) 0 (by omega) _ (hz.ex (by omega) (by omega) hr hcr (by omega)) ?_
          · simp (disch := (first | assumption | omega | (unfold i32; omega) | (unfold i64; omega))) only [iZ_add, iZ_sub, iZ_mul, iZ_neg, lZ_add, lZ_sub, lZ_mul, lZ_neg, lZ_i, iZ_l, iZ_nat, Int.toNat_natCast, iZ_bit, iZ_shl, iZ_or, iZ_lt, iZ_le, iZ_eq, iZ_lt0, iZ_le0, iZ_gt0, iZ_ge0, iZ_eq0, cmp_eq0, cmp_lt0, cmp_le0, cmp_ge0, cmp_gt0, tf_0, tf_n0, Decidable.not_not, not_true_eq_false, not_false_eq_true, hs, Int.toNat_natCast, tn5, tn54, zM_at, zM_up]
            exact ih z' (hz'.next (by omega) hp')
          · rw [exc_a z (by omega)]; exact hne
        · simp (disch := (first | assumption | omega | (unfold i32; omega) | (unfold i64; omega))) only [iZ_add, iZ_sub, iZ_mul, iZ_neg, lZ_add, lZ_sub, lZ_mul, lZ_neg, lZ_i, iZ_l, iZ_nat, Int.toNat_natCast, iZ_bit, iZ_shl, iZ_or, iZ_lt, iZ_le, iZ_eq, iZ_lt0, iZ_le0, iZ_gt0, iZ_ge0, iZ_eq0, cmp_eq0, cmp_lt0, cmp_le0, cmp_ge0, cmp_gt0, tf_0, tf_n0, Decidable.not_not, not_true_eq_false, not_false_eq_true, hs, Int.toNat_natCast, tn5, tn54, zM_at, zM_up] at q
          omega
      · refine b176_38 (fun q => absurd rfl q) (fun _ => b176_44 ?_)
        exact hfail z c hc hz hall
end MS
