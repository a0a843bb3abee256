/-! ===== the class: the core found ===== -/

section CK
variable {h h' : mH} {Q : Option Value → mH → Prop} {r a ci num n : Nat} {w v p : Nat → Int} {cc tw : Int32} {L : List (Nat → Int)}
theorem KW.ext {A B : Nat → Nat → Nat → Nat → Prop} (hk : KW h r v A) (he : ∀ a b c e, cone a b c e → (A a b c e ↔ B a b c e)) : KW h r v B := by
  obtain ⟨L, ks, r⟩ := hk
  exact ⟨L, ks.ext he, r⟩
theorem KS_cor {n : Nat} {w : Nat → Int} {L : List (Nat → Int)} (h1 : 1 ≤ n) (h4 : n ≤ 4) (hw : w 0 = 0) (ks : KS (w4 n w) (fun _ _ _ _ => True) L) : L = corL n w := by
  refine srt_eq _ _ ks.1 (cL_srt n w _) (fun x => ?_)
  rw [ks.2, show corL n w = cL n w (2 ^ (al n - 1)) from rfl, cL_V h1 h4 hw]
  constructor
  · rintro ⟨q1, a, b, c, e, q2, _, q3⟩
    exact ⟨q1, a, b, c, e, q2, q3⟩
  · rintro ⟨q1, a, b, c, e, q2, q3⟩
    exact ⟨q1, a, b, c, e, q2, trivial, q3⟩
def K6 (r : Nat) : List Nat := [r, r + 1, r + 2, r + 3, r + 4, r + 5]
/-- the cells of a core -/
def KX (h : mH) (r : Nat) : Prop := ∃ (cc tw : Int32) (g gp lo hi gi : Nat → Int32), h[r]? = some (oK r cc tw) ∧ h[r + 1]? = some (aI 96 g) ∧ h[r + 2]? = some (aI 4 gp) ∧ h[r + 3]? = some (aI 8 lo) ∧ h[r + 4]? = some (aI 8 hi) ∧ h[r + 5]? = some (aI 9 gi)
theorem KW.kx {A : Nat → Nat → Nat → Nat → Prop} (hk : KW h r v A) : KX h r := by
  obtain ⟨L, ks, ⟨_, _, g, e1, e2, _⟩, ⟨_, _, cc, lo, hi, _, e3, e4, _⟩, gp, gi, e5, e6⟩ := hk
  exact ⟨_, _, g, gp, lo, hi, gi, e1, e2, e5, e3, e4, e6⟩
theorem k3 (hv : CV h a ci num n w) (hw0 : w 0 = 0) (hr : r = a + 3) (hx : KX h r) (hq : ∀ h' tw', Eqx (K6 r) h h' → KL h' r (corL n w) tw' → KX h' r → Q none h') : mCt mCd 3 [.ref r, .ref a] h Q := by
  have hn1 := hv.2.2.1.1
  have hn4 := hv.2.2.1.2
  have ha := hv.1
  have hwb := hv.2.2.2.1
  obtain ⟨cc, tw, g, gp, lo, hi, gi, e1, e2, e3, e4, e5, e6⟩ := hx
  have v0 : w4 n w 0 = 0 := by unfold w4; rw [Nat.zero_and]; exact hw0
  have hx1 : Eqx (K6 r) h (h.set r (oK r (iZ 0) tw)) := (Eqx.rf _ _).st _ (by unfold K6; simp)
  have hv1 : CV (h.set r (oK r (iZ 0) tw)) a ci num n w := hv.eq hx1 (by unfold K6; simp <;> omega) (by unfold K6; simp <;> omega)
  refine en3 (b3_0 e1 (k4 hv1 hr (mGs e1) (mGn (by omega) e4) (mGn (by omega) e5) (fun h2 hx2 ke2 f1 => ?_)))
  have hx12 : Eqx (K6 r) h h2 := hx1.tr (hx2.mo (by unfold K6; simp <;> omega))
  have kl2 : KL h2 r [] (iZ (2 * w4 n w 15)) := ⟨by omega, fun c hc => absurd hc (Nat.not_lt_zero _), g, f1, (hx2.2 (r + 1) (by simp)).trans (mGn (by omega) e2), fun c hc => absurd hc (Nat.not_lt_zero _)⟩
  have g2 : h2[r + 2]? = some (aI 4 gp) := (hx2.2 (r + 2) (by simp)).trans (mGn (by omega) e3)
  have g5 : h2[r + 5]? = some (aI 9 gi) := (hx2.2 (r + 5) (by simp)).trans (mGn (by omega) e6)
  refine b3_10 f1 (k5 ke2 (fun hy => ?_) (fun hn => ?_))
  · refine b3_14 (fun _ => b3_18 ?_) (fun y => absurd (by decide) y)
    have la : ∀ x, x ≤ 8 → 1 ≤ x → ∀ h3, Eqx (K6 r) h h3 → KW h3 r (w4 n w) (fun a' _ _ _ => a' < x) → mWp mCd 3 (20, [some (.ref r), none, some (.int (iZ x)), none, none], [], h3, 0, 0) Q := by
      refine lp_up 8 ?_ ?_
      · intro _ h3 hx3 kw
        refine b3_20 (fun _ => b3_74 ?_) (fun y => absurd (Int32.le_refl _) y)
        have kx := kw.kx
        obtain ⟨L, ks, kl, _⟩ := kw
        have e := KS_cor hn1 hn4 hw0 (ks.ext (B := fun _ _ _ _ => True) (fun a' b' c' e' hcn => ⟨fun _ => trivial, fun _ => by have := hcn.1; have := hcn.2.1; have := hcn.2.2.1; omega⟩))
        rw [e] at kl
        exact hq h3 _ hx3 kl kx
      · intro x hxx ih hx0 h3 hx3 kw
        refine b3_20 (fun y => ?_) (fun _ => b3_26 ?_)
        · simp (disch := (first | assumption | omega | (unfold i32; omega) | (unfold i64; omega))) only [iZ_add, iZ_sub, iZ_mul, iZ_neg, lZ_add, lZ_sub, lZ_mul, lZ_neg, lZ_i, iZ_l, iZ_nat, Int.toNat_natCast, iZ_bit, iZ_shl, iZ_or, iZ_lt, iZ_le, iZ_eq, iZ_lt0, iZ_le0, iZ_gt0, iZ_ge0, iZ_eq0, cmp_eq0, cmp_lt0, cmp_le0, cmp_ge0, cmp_gt0, tf_0, tf_n0, Decidable.not_not, not_true_eq_false, not_false_eq_true, Int.toNat_natCast, onat] at y
          omega
        rw [iZ_add]
        have lb : ∀ y, y ≤ 8 → x < y → ∀ h4, Eqx (K6 r) h h4 → KW h4 r (w4 n w) (fun a' b' _ _ => a' < x ∨ (a' = x ∧ b' < y)) → mWp mCd 3 (30, [some (.ref r), none, some (.int (iZ x)), some (.int (iZ y)), none], [], h4, 0, 0) Q := by
          refine lp_up 8 ?_ ?_
          · intro _ h4 hx4 kw4
            refine b3_30 (fun _ => b3_68 ?_) (fun y => absurd (Int32.le_refl _) y)
            rw [iZ_add]
            refine ih (by omega) h4 hx4 (kw4.ext (fun a' b' c' e' hcn => ?_))
            have := hcn.2.1
            have := hcn.2.2.1
            omega
          · intro y hyy ihb hxy h4 hx4 kw4
            refine b3_30 (fun z => ?_) (fun _ => b3_36 ?_)
            · simp (disch := (first | assumption | omega | (unfold i32; omega) | (unfold i64; omega))) only [iZ_add, iZ_sub, iZ_mul, iZ_neg, lZ_add, lZ_sub, lZ_mul, lZ_neg, lZ_i, iZ_l, iZ_nat, Int.toNat_natCast, iZ_bit, iZ_shl, iZ_or, iZ_lt, iZ_le, iZ_eq, iZ_lt0, iZ_le0, iZ_gt0, iZ_ge0, iZ_eq0, cmp_eq0, cmp_lt0, cmp_le0, cmp_ge0, cmp_gt0, tf_0, tf_n0, Decidable.not_not, not_true_eq_false, not_false_eq_true, Int.toNat_natCast, onat] at z
              omega
            rw [iZ_add]
            have lc : ∀ z, z ≤ 8 → y < z → ∀ h5, Eqx (K6 r) h h5 → KW h5 r (w4 n w) (fun a' b' c' _ => a' < x ∨ (a' = x ∧ (b' < y ∨ (b' = y ∧ c' < z)))) → mWp mCd 3 (41, [some (.ref r), none, some (.int (iZ x)), some (.int (iZ y)), some (.int (iZ z))], [], h5, 0, 0) Q := by
              refine lp_up 8 ?_ ?_
              · intro _ h5 hx5 kw5
                refine b3_41 (fun _ => b3_62 ?_) (fun y => absurd (Int32.le_refl _) y)
                rw [iZ_add]
                refine ihb (by omega) h5 hx5 (kw5.ext (fun a' b' c' e' hcn => ?_))
                have := hcn.2.2.1
                omega
              · intro z hzz ihc hyz h5 hx5 kw5
                obtain ⟨_, _, _, _, _, _, _, f5, _⟩ := kw5.kx
                refine b3_41 (fun u => ?_) (fun _ => b3_48 f5 (k6 hxy hyz hzz v0 kw5 (fun h6 hx6 kw6 => b3_56 ?_)))
                · simp (disch := (first | assumption | omega | (unfold i32; omega) | (unfold i64; omega))) only [iZ_add, iZ_sub, iZ_mul, iZ_neg, lZ_add, lZ_sub, lZ_mul, lZ_neg, lZ_i, iZ_l, iZ_nat, Int.toNat_natCast, iZ_bit, iZ_shl, iZ_or, iZ_lt, iZ_le, iZ_eq, iZ_lt0, iZ_le0, iZ_gt0, iZ_ge0, iZ_eq0, cmp_eq0, cmp_lt0, cmp_le0, cmp_ge0, cmp_gt0, tf_0, tf_n0, Decidable.not_not, not_true_eq_false, not_false_eq_true, Int.toNat_natCast, onat] at u
                  omega
                · rw [iZ_add]
                  refine ihc (by omega) h6 (hx5.tr (hx6.mo (by unfold KR K6; simp <;> omega))) (kw6.ext (fun a' b' c' e' hcn => ?_))
                  omega
            refine lc (y + 1) (by omega) (by omega) h4 hx4 (kw4.ext (fun a' b' c' e' hcn => ?_))
            have := hcn.2.1
            omega
        refine lb (x + 1) (by omega) (by omega) h3 hx3 (kw.ext (fun a' b' c' e' hcn => ?_))
        have := hcn.1
        omega
    refine la 1 (by decide) (Nat.le_refl 1) h2 hx12 ⟨[], ⟨List.Pairwise.nil, fun x => ?_⟩, kl2, ke2, gp, gi, g2, g5⟩
    refine ⟨fun q => absurd q List.not_mem_nil, fun ⟨_, a', b', c', e', q2, q3, _⟩ => ?_⟩
    have hz : a' = 0 := by omega
    subst hz
    exact absurd (dt_z2 b' (by have := q2.2.1; have := q2.2.2.1; omega) c' q2.2.2.1).1 q2.2.2.2.2
  · refine b3_14 (fun y => absurd rfl y) (fun _ => b3_17 ?_)
    have ks : KS (w4 n w) (fun _ _ _ _ => True) [] := ⟨List.Pairwise.nil, fun x => ⟨fun q => absurd q List.not_mem_nil, fun ⟨q1, _⟩ => by
      refine absurd (fun s hs hs1 => ?_) hn
      have := core_lo q1 hs
      unfold endV
      rw [if_pos rfl, if_neg (by decide)]
      omega⟩⟩
    have e := KS_cor hn1 hn4 hw0 ks
    have kw : KW h2 r (w4 n w) (fun _ _ _ _ => True) := ⟨[], ks, kl2, ke2, gp, gi, g2, g5⟩
    have kx := kw.kx
    rw [e] at kl2
    exact hq h2 _ hx12 kl2 kx
/-- a venture with all its cells -/
def CX (h : mH) (a ci num n : Nat) (w : Nat → Int) : Prop := CV h a ci num n w ∧ w 0 = 0 ∧ KX h (a + 3) ∧ (∃ g : Nat → Int32, h[a + 2]? = some (aI 4 g)) ∧ ∃ fd : Int32, h[a]? = some (oV ci a (iZ num) (iZ n) fd) ∧ (fd = 0 ∨ ∃ tw, KL h (a + 3) (corL n w) tw)
def K9 (a : Nat) : List Nat := [a, a + 1, a + 2, a + 3, a + 4, a + 5, a + 6, a + 7, a + 8]
theorem k49 (hv : CX h a ci num n w) (hq : ∀ h' tw', Eqx (K9 a) h h' → CX h' a ci num n w → KL h' (a + 3) (corL n w) tw' → Q (some (.ref (a + 3))) h') : mCt mCd 49 [.ref a] h Q := by
  have hv0 := hv
  obtain ⟨cv, hw0, kx, ⟨g2, f2⟩, fd, e1, hor⟩ := hv
  have hc := cv.2.1
  refine en49 (b49_0 hc e1 (fun y => b49_20 hc e1 ?_) (fun y => ?_))
  · obtain ⟨tw, kl⟩ := hor.resolve_left y
    exact hq h tw (Eqx.rf _ _) hv0 kl
  · obtain ⟨cc, tw, g, gp, lo, hi, gi, d1, _⟩ := id kx
    refine b49_7 hc e1 d1 (k3 cv hw0 rfl kx (fun h1 tw' hx1 kl kx1 => b49_15 hc ((hx1.2 a (by unfold K6; simp <;> omega)).trans e1) ?_))
    have d0 := (hx1.2 a (by unfold K6; simp <;> omega)).trans e1
    have ds := (Eqx.rf (K9 a) h1).st (oV ci a (iZ num) (iZ n) (iZ 1)) (show a ∈ K9 a by unfold K9; simp)
    have ds1 := (Eqx.rf [a] h1).st (oV ci a (iZ num) (iZ n) (iZ 1)) (show a ∈ [a] by simp)
    have kl2 : KL (h1.set a (oV ci a (iZ num) (iZ n) (iZ 1))) (a + 3) (corL n w) tw' := kl.eq ds1 (by simp) (by simp <;> omega)
    refine hq _ tw' ((hx1.mo (by unfold K6 K9; simp <;> omega)).tr ds) ⟨?_, hw0, ?_, ⟨g2, ?_⟩, iZ 1, mGs d0, Or.inr ⟨tw', kl2⟩⟩ kl2
    · obtain ⟨ha, hc, hn, hw, fd2, f, q1, q2, hf⟩ := cv
      exact ⟨ha, hc, hn, hw, iZ 1, f, mGs d0, mGn (by omega) ((hx1.2 (a + 1) (by unfold K6; simp <;> omega)).trans q2), hf⟩
    · obtain ⟨cc, tw, g, gp, lo, hi, gi, z1, z2, z3, z4, z5, z6⟩ := kx1
      exact ⟨cc, tw, g, gp, lo, hi, gi, mGn (by omega) z1, mGn (by omega) z2, mGn (by omega) z3, mGn (by omega) z4, mGn (by omega) z5, mGn (by omega) z6⟩
    · exact mGn (by omega) ((hx1.2 (a + 2) (by unfold K6; simp <;> omega)).trans f2)
theorem k2 (hl : KL h r L tw) (h1 : 1 ≤ L.length) (h24 : L.length ≤ 24) {p y : Nat} (hp : p < 4) (hy : y < 2) (hq : Q (some (.int (iZ (bv y L p (L.length - 1))))) h) : mCt mCd 2 [.ref r, .int (iZ p), .int (iZ y)] h Q := by
  obtain ⟨hr, hb, g, e1, e2, hf⟩ := hl
  have bvb : ∀ k, k < L.length → bd 400000000 (bv y L p k) := by
    intro k
    induction k with
    | zero => intro hk; exact hb 0 hk p
    | succ k ih =>
      intro hk
      have q1 := ih (by omega)
      have q2 := hb (k + 1) hk p
      show bd 400000000 (upE y (bv y L p k) (L.getD (k + 1) o0 p))
      unfold upE
      split
      · split <;> assumption
      · split <;> assumption
  have lp : ∀ d j : Nat, j + d = L.length → 1 ≤ j → mWp mCd 2 (10, [some (.ref r), some (.int (iZ p)), some (.int (iZ y)), some (.int (iZ (bv y L p (j - 1)))), some (.int (iZ j)), none], [], h, 0, 0) Q := by
    intro d
    induction d with
    | zero =>
      intro j hj hj1
      rw [show L.length - 1 = j - 1 by omega] at hq
      refine b2_10 e1 (fun _ => b2_54 hq) (fun z => ?_)
      simp (disch := (first | assumption | omega | (unfold i32; omega) | (unfold i64; omega))) only [iZ_add, iZ_sub, iZ_mul, iZ_neg, lZ_add, lZ_sub, lZ_mul, lZ_neg, lZ_i, iZ_l, iZ_nat, Int.toNat_natCast, iZ_bit, iZ_shl, iZ_or, iZ_lt, iZ_le, iZ_eq, iZ_lt0, iZ_le0, iZ_gt0, iZ_ge0, iZ_eq0, cmp_eq0, cmp_lt0, cmp_le0, cmp_ge0, cmp_gt0, tf_0, tf_n0, Decidable.not_not, not_true_eq_false, not_false_eq_true, Int.toNat_natCast, onat] at z
      omega
    | succ d ih =>
      intro j hj hj1
      have q1 := bvb (j - 1) (by omega)
      have q2 := hb j (by omega) p
      unfold bd at q1 q2
      have e : bv y L p (j + 1 - 1) = upE y (bv y L p (j - 1)) (L.getD j o0 p) := by
        obtain ⟨m, rfl⟩ : ∃ m, j = m + 1 := ⟨j - 1, by omega⟩
        rfl
      have ih := ih (j + 1) (by omega) (by omega)
      rw [e] at ih
      unfold upE at ih
      refine b2_10 e1 (fun z => ?_) (fun _ => b2_19 e1 (k1 e1 e2 (by omega) hp ?_))
      · simp (disch := (first | assumption | omega | (unfold i32; omega) | (unfold i64; omega))) only [iZ_add, iZ_sub, iZ_mul, iZ_neg, lZ_add, lZ_sub, lZ_mul, lZ_neg, lZ_i, iZ_l, iZ_nat, Int.toNat_natCast, iZ_bit, iZ_shl, iZ_or, iZ_lt, iZ_le, iZ_eq, iZ_lt0, iZ_le0, iZ_gt0, iZ_ge0, iZ_eq0, cmp_eq0, cmp_lt0, cmp_le0, cmp_ge0, cmp_gt0, tf_0, tf_n0, Decidable.not_not, not_true_eq_false, not_false_eq_true, Int.toNat_natCast, onat] at z
        omega
      · rw [hf j (by omega) p hp]
        refine b2_26 (fun z => b2_41 (k220 (by unfold i32; omega) (by unfold i32; omega) (b2_47 ?_))) (fun z => b2_32 (k219 (by unfold i32; omega) (by unfold i32; omega) (b2_38 (b2_47 ?_))))
        · simp (disch := (first | assumption | omega | (unfold i32; omega) | (unfold i64; omega))) only [iZ_add, iZ_sub, iZ_mul, iZ_neg, lZ_add, lZ_sub, lZ_mul, lZ_neg, lZ_i, iZ_l, iZ_nat, Int.toNat_natCast, iZ_bit, iZ_shl, iZ_or, iZ_lt, iZ_le, iZ_eq, iZ_lt0, iZ_le0, iZ_gt0, iZ_ge0, iZ_eq0, cmp_eq0, cmp_lt0, cmp_le0, cmp_ge0, cmp_gt0, tf_0, tf_n0, Decidable.not_not, not_true_eq_false, not_false_eq_true, Int.toNat_natCast, onat] at z
          rw [iZ_add]
          rw [if_pos (by omega)] at ih
          have em : min (bv y L p (j - 1)) (L.getD j o0 p) = if L.getD j o0 p < bv y L p (j - 1) then L.getD j o0 p else bv y L p (j - 1) := by
            split <;> omega
          rw [em]
          exact ih
        · simp (disch := (first | assumption | omega | (unfold i32; omega) | (unfold i64; omega))) only [iZ_add, iZ_sub, iZ_mul, iZ_neg, lZ_add, lZ_sub, lZ_mul, lZ_neg, lZ_i, iZ_l, iZ_nat, Int.toNat_natCast, iZ_bit, iZ_shl, iZ_or, iZ_lt, iZ_le, iZ_eq, iZ_lt0, iZ_le0, iZ_gt0, iZ_ge0, iZ_eq0, cmp_eq0, cmp_lt0, cmp_le0, cmp_ge0, cmp_gt0, tf_0, tf_n0, Decidable.not_not, not_true_eq_false, not_false_eq_true, Int.toNat_natCast, onat] at z
          rw [iZ_add]
          rw [if_neg (by omega)] at ih
          have em : max (bv y L p (j - 1)) (L.getD j o0 p) = if bv y L p (j - 1) < L.getD j o0 p then L.getD j o0 p else bv y L p (j - 1) := by
            split <;> omega
          rw [em]
          exact ih
  refine en2 (b2_0 e1 (k1 (c := 0) e1 e2 (by decide) hp (b2_6 ?_)))
  have := hf 0 (by omega) p hp
  rw [this]
  exact lp (L.length - 1) 1 (by omega) (Nat.le_refl 1)
end CK
