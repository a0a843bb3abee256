/-! ===== the class: corners looked for ===== -/

/-- the corners of the cones A, in order -/
def KS (v : Nat → Int) (A : Nat → Nat → Nat → Nat → Prop) (L : List (Nat → Int)) : Prop := L.Pairwise lx ∧ ∀ x, x ∈ L ↔ core4 v x ∧ ∃ a b c e, cone a b c e ∧ A a b c e ∧ x = vtx v a b c e
theorem vtx_zb (v : Nat → Int) (a b c e : Nat) : zb (vtx v a b c e) := pt_zb _ _ _ _ _ _ _
theorem vtx_b {v : Nat → Int} (hv : ∀ s, bd 16000 (v s)) {a b c e : Nat} (h : cone a b c e) (k : Nat) : bd 400000000 (vtx v a b c e k) := by
  have f := fun s e => bd_mono (show (64000 : Int) ≤ 32000000 by decide) (endV_b hv s e)
  have h15 := hv 15
  exact pt_b (by have := h.1; have := h.2.1; have := h.2.2.1; omega) (by have := h.2.1; have := h.2.2.1; omega) h.2.2.1 (f _ _) (f _ _) (f _ _) (by unfold bd at *; omega) k
theorem KS.ext {v : Nat → Int} {A B : Nat → Nat → Nat → Nat → Prop} {L : List (Nat → Int)} (h : KS v A L) (he : ∀ a b c e, cone a b c e → (A a b c e ↔ B a b c e)) : KS v B L := by
  refine ⟨h.1, fun x => (h.2 x).trans (and_congr Iff.rfl ?_)⟩
  constructor
  · rintro ⟨a, b, c, e, h1, h2, h3⟩
    exact ⟨a, b, c, e, h1, (he a b c e h1).mp h2, h3⟩
  · rintro ⟨a, b, c, e, h1, h2, h3⟩
    exact ⟨a, b, c, e, h1, (he a b c e h1).mpr h2, h3⟩
theorem KS.z {v : Nat → Int} {A : Nat → Nat → Nat → Nat → Prop} {L : List (Nat → Int)} (h : KS v A L) : ∀ p, p ∈ L → zb p := fun p hp => ((h.2 p).mp hp).1.2.2
theorem KS.len {v : Nat → Int} {A : Nat → Nat → Nat → Nat → Prop} {L : List (Nat → Int)} (h : KS v A L) : L.length ≤ 24 := by
  refine cap24 (w := v) (srt_nd h.1) (fun p hp => ?_)
  obtain ⟨h1, a, b, c, e, h2, _, h3⟩ := (h.2 p).mp hp
  exact ⟨h1, a, b, c, e, h2, h3⟩
theorem KS.ins {v : Nat → Int} {A : Nat → Nat → Nat → Nat → Prop} {L : List (Nat → Int)} (h : KS v A L) {a b c e : Nat} (hc : cone a b c e) (hi : core4 v (vtx v a b c e)) : KS v (fun a' b' c' e' => A a' b' c' e' ∨ (a' = a ∧ b' = b ∧ c' = c ∧ e' = e)) (insL 4 (vtx v a b c e) L) := by
  refine ⟨ins_srt _ h.1, fun x => ?_⟩
  rw [ins_mem (vtx_zb v a b c e) L h.z, h.2]
  constructor
  · rintro (q | ⟨q1, a', b', c', e', q2, q3, q4⟩)
    · subst q
      exact ⟨hi, a, b, c, e, hc, Or.inr ⟨rfl, rfl, rfl, rfl⟩, rfl⟩
    · exact ⟨q1, a', b', c', e', q2, Or.inl q3, q4⟩
  · rintro ⟨q1, a', b', c', e', q2, q3 | ⟨rfl, rfl, rfl, rfl⟩, q4⟩
    · exact Or.inr ⟨q1, a', b', c', e', q2, q3, q4⟩
    · exact Or.inl q4
theorem KS.skip {v : Nat → Int} {A : Nat → Nat → Nat → Nat → Prop} {L : List (Nat → Int)} (h : KS v A L) {a b c e : Nat} (hi : ¬ core4 v (vtx v a b c e)) : KS v (fun a' b' c' e' => A a' b' c' e' ∨ (a' = a ∧ b' = b ∧ c' = c ∧ e' = e)) L := by
  refine ⟨h.1, fun x => ?_⟩
  rw [h.2]
  constructor
  · rintro ⟨q1, a', b', c', e', q2, q3, q4⟩
    exact ⟨q1, a', b', c', e', q2, Or.inl q3, q4⟩
  · rintro ⟨q1, a', b', c', e', q2, q3 | ⟨rfl, rfl, rfl, rfl⟩, q4⟩
    · exact ⟨q1, a', b', c', e', q2, q3, q4⟩
    · rw [q4] at q1
      exact absurd q1 hi
theorem ins_core {v p : Nat → Int} (h0 : v 0 = 0) (h15 : dot 15 p = 2 * v 15) (hz : zb p) : insP v p ↔ core4 v p := by
  constructor
  · intro h
    refine ⟨fun s hs => ?_, h15, hz⟩
    by_cases h8 : s < 8
    · rw [dot_lo h8]
      by_cases q : s = 0
      · subst q
        rw [h0, ← dot_lo (show 0 < 8 by decide), dot_0]
        omega
      · have := (h s h8 (by omega)).1
        exact this
    · have e := dot_hi (show 15 - s < 8 by omega) p
      rw [show 15 - (15 - s) = s by omega] at e
      rw [e, h15]
      by_cases q : s = 15
      · subst q
        rw [← dot_lo (show 15 - 15 < 8 by decide), show 15 - 15 = 0 from rfl, dot_0]
        omega
      · have := (h (15 - s) (by omega) (by omega)).2
        unfold endV at this
        rw [if_neg (by decide), show 15 - (15 - s) = s by omega] at this
        omega
  · intro h s hs _
    have := core_lo h hs
    unfold endV
    rw [if_pos rfl, if_neg (by decide)]
    exact this
section CK
variable {h h' : mH} {Q : Option Value → mH → Prop} {r a ci num n : Nat} {w v p : Nat → Int} {cc tw : Int32} {L : List (Nat → Int)}
/-- what a look works on -/
def KW (h : mH) (r : Nat) (v : Nat → Int) (A : Nat → Nat → Nat → Nat → Prop) : Prop := ∃ L, KS v A L ∧ KL h r L (iZ (2 * v 15)) ∧ KE h r v ∧ ∃ gp gi : Nat → Int32, h[r + 2]? = some (aI 4 gp) ∧ h[r + 5]? = some (aI 9 gi)
def KR (r : Nat) : List Nat := [r, r + 1, r + 2, r + 5]
theorem KE.eq {K : List Nat} (hk : KE h r v) (hx : Eqx K h h') (h3 : r + 3 ∉ K) (h4 : r + 4 ∉ K) {cc : Int32} (e : h'[r]? = some (oK r cc (iZ (2 * v 15)))) : KE h' r v := by
  obtain ⟨hr, hv, _, lo, hi, e1, e2, e3, hf⟩ := hk
  exact ⟨hr, hv, cc, lo, hi, e, (hx.2 _ h3).trans e2, (hx.2 _ h4).trans e3, hf⟩
theorem KL.eq {K : List Nat} (hk : KL h r L tw) (hx : Eqx K h h') (h3 : r ∉ K) (h4 : r + 1 ∉ K) : KL h' r L tw := by
  obtain ⟨hr, hb, g, e1, e2, hf⟩ := hk
  exact ⟨hr, hb, g, (hx.2 _ h3).trans e1, (hx.2 _ h4).trans e2, hf⟩
theorem k6 {A : Nat → Nat → Nat → Nat → Prop} {a b c : Nat} (hab : a < b) (hbc : b < c) (hc : c < 8) (h0 : v 0 = 0) (hk : KW h r v A) (hq : ∀ h', Eqx (KR r) h h' → KW h' r v (fun a' b' c' e' => A a' b' c' e' ∨ (a' = a ∧ b' = b ∧ c' = c)) → Q none h') : mCt mCd 6 [.ref r, .int (iZ a), .int (iZ b), .int (iZ c)] h Q := by
  obtain ⟨L, ks, kl, ke, gp, gi, e2, e5⟩ := hk
  have hr := ke.1
  have hv := ke.2.1
  have kl0 := kl
  obtain ⟨_, _, g, e1, e3, _⟩ := kl
  have hdt := dt_2 a (by omega) b (by omega) c hc
  -- the determinant
  have l1 : ∀ k, k ≤ 3 → mWp mCd 6 (6, [some (.ref r), some (.int (iZ a)), some (.int (iZ b)), some (.int (iZ c)), some (.int (iZ (sumTo (fun k => (bt a k : Int) * cr b c k) k))), some (.int (iZ k))], [], h, 0, 0) Q := by
    refine lp_up 3 ?_ ?_
    · have ed : sumTo (fun k => (bt a k : Int) * cr b c k) 3 = dt a b c := by
        show 0 + (bt a 0 : Int) * cr b c 0 + (bt a 1 : Int) * cr b c 1 + (bt a 2 : Int) * cr b c 2 = (bt a 0 : Int) * cr b c 0 + bt a 1 * cr b c 1 + bt a 2 * cr b c 2
        omega
      rw [ed]
      refine b6_6 (fun _ => b6_37 (fun y => b6_43 ?_) (fun y => b6_42 ?_)) (fun y => absurd (Int32.le_refl _) y)
      · rw [iZ_eq0 (by unfold i32; omega)] at y
        have hd := y
        -- the inverse
        have l2 : ∀ k, k ≤ 3 → ∀ h1 gi, Eqx [r + 5] h h1 → h1[r + 5]? = some (aI 9 gi) → (∀ j, j < k → gi (3 * j) = iZ (cr b c j) ∧ gi (3 * j + 1) = iZ (cr c a j) ∧ gi (3 * j + 2) = iZ (cr a b j)) → mWp mCd 6 (46, [some (.ref r), some (.int (iZ a)), some (.int (iZ b)), some (.int (iZ c)), some (.int (iZ (dt a b c))), some (.int (iZ k))], [], h1, 0, 0) Q := by
          refine lp_up 3 ?_ ?_
          · intro h1 gi hx1 g5 hgi
            have d1 := (hx1.2 r (by simp)).trans e1
            -- the ends
            have l3 : ∀ e, e ≤ 8 → ∀ h2 L2 gp, Eqx (KR r) h h2 → h2[r + 5]? = some (aI 9 gi) → h2[r + 2]? = some (aI 4 gp) → KS v (fun a' b' c' e' => A a' b' c' e' ∨ (a' = a ∧ b' = b ∧ c' = c ∧ e' < e)) L2 → KL h2 r L2 (iZ (2 * v 15)) → KE h2 r v → mWp mCd 6 (113, [some (.ref r), some (.int (iZ a)), some (.int (iZ b)), some (.int (iZ c)), some (.int (iZ (dt a b c))), some (.int (iZ e))], [], h2, 0, 0) Q := by
              refine lp_up 8 ?_ ?_
              · intro h2 L2 gp hx2 y5 y2 s2 l2 ke2
                refine b6_113 (fun _ => b6_176 (hq h2 hx2 ⟨L2, s2.ext (fun a' b' c' e' hcn => ?_), l2, ke2, gp, gi, y2, y5⟩)) (fun y => absurd (Int32.le_refl _) y)
                have := hcn.2.2.2.1
                constructor
                · rintro (q | q)
                  · exact Or.inl q
                  · exact Or.inr ⟨q.1, q.2.1, q.2.2.1⟩
                · rintro (q | q)
                  · exact Or.inl q
                  · exact Or.inr ⟨q.1, q.2.1, q.2.2, by omega⟩
              · intro e he ih h2 L2 gp hx2 y5 y2 s2 l2 ke2
                have hcn : cone a b c e := ⟨hab, hbc, hc, he, hd⟩
                obtain ⟨_, _, g2, f1, f3, _⟩ := id l2
                have bt0 := bt_lt e 0
                have bt1 := bt_lt e 1
                have bt2 := bt_lt e 2
                refine b6_113 (fun y => ?_) (fun _ => b6_120 (k126 (by omega) (by decide) (b6_129 f1 (k8 ke2 (by omega) bt0 (b6_132 (k126 (s := e) (p := 1) (by omega) (by decide) (b6_140 f1 (k8 ke2 (by omega) bt1 (b6_143 (k126 (s := e) (p := 2) (by omega) (by decide) (b6_151 f1 (k8 ke2 hc bt2 (b6_154 f1 (k9 hr (by omega) (by omega) hc hd f1 y5 y2 (fun k hk => hgi k hk) (endV_b hv _ _) (endV_b hv _ _) (endV_b hv _ _) (fun h3 gp3 hx3 y3 hp3 => b6_159 ((hx3.2 r (by simp)).trans f1) ?_)))))))))))))))
                · simp (disch := (first | assumption | omega | (unfold i32; omega) | (unfold i64; omega))) only [iZ_add, iZ_sub, iZ_mul, iZ_neg, lZ_add, lZ_sub, lZ_mul, lZ_neg, lZ_i, iZ_l, iZ_nat, Int.toNat_natCast, iZ_bit, iZ_shl, iZ_or, iZ_lt, iZ_le, iZ_eq, iZ_lt0, iZ_le0, iZ_gt0, iZ_ge0, iZ_eq0, cmp_eq0, cmp_lt0, cmp_le0, cmp_ge0, cmp_gt0, tf_0, tf_n0, Decidable.not_not, not_true_eq_false, not_false_eq_true, Int.toNat_natCast, onat] at y
                  omega
                · have ke3 : KE h3 r v := ke2.eq hx3 (by simp) (by simp) ((hx3.2 r (by simp)).trans f1)
                  have kl3 : KL h3 r L2 (iZ (2 * v 15)) := l2.eq hx3 (by simp) (by simp)
                  have y53 := (hx3.2 (r + 5) (by simp)).trans y5
                  have hxx : Eqx (KR r) h h3 := hx2.tr (hx3.mo (by unfold KR; simp))
                  have e15 : dot 15 (vtx v a b c e) = 2 * v 15 := pt_15 _ _ _ _ _ _ _
                  have hic := ins_core h0 e15 (vtx_zb v a b c e)
                  refine k10 (p := vtx v a b c e) ke3 y3 (vtx_b hv hcn) hp3 (fun hin => ?_) (fun hin => ?_)
                  · refine b6_163 (fun y => absurd y (by decide)) (fun _ => b6_166 ((hx3.2 r (by simp)).trans f1) ?_)
                    have s3 := s2.ins hcn (hic.mp hin)
                    refine k12 kl3 y3 hp3 (vtx_b hv hcn) s3.len s2.len (fun h4 kl4 hx4 => b6_170 ?_)
                    rw [iZ_add]
                    obtain ⟨_, _, g4, f4, _, _⟩ := id kl4
                    refine ih h4 _ gp3 (hxx.tr (hx4.mo (by unfold KR; simp))) ((hx4.2 (r + 5) (by simp)).trans y53) ((hx4.2 (r + 2) (by simp)).trans y3) (s3.ext (fun a' b' c' e' hcn' => ?_)) kl4 (ke3.eq hx4 (by simp) (by simp) f4)
                    constructor
                    · rintro ((q | q) | q)
                      · exact Or.inl q
                      · exact Or.inr ⟨q.1, q.2.1, q.2.2.1, by omega⟩
                      · exact Or.inr ⟨q.1, q.2.1, q.2.2.1, by omega⟩
                    · rintro (q | q)
                      · exact Or.inl (Or.inl q)
                      · by_cases z : e' = e
                        · exact Or.inr ⟨q.1, q.2.1, q.2.2.1, z⟩
                        · exact Or.inl (Or.inr ⟨q.1, q.2.1, q.2.2.1, by omega⟩)
                  · refine b6_163 (fun _ => b6_170 ?_) (fun y => absurd rfl y)
                    rw [iZ_add]
                    have s3 := s2.skip (a := a) (b := b) (c := c) (e := e) (fun z => hin (hic.mpr z))
                    refine ih h3 L2 gp3 hxx y53 y3 (s3.ext (fun a' b' c' e' hcn' => ?_)) kl3 ke3
                    constructor
                    · rintro ((q | q) | q)
                      · exact Or.inl q
                      · exact Or.inr ⟨q.1, q.2.1, q.2.2.1, by omega⟩
                      · exact Or.inr ⟨q.1, q.2.1, q.2.2.1, by omega⟩
                    · rintro (q | q)
                      · exact Or.inl (Or.inl q)
                      · by_cases z : e' = e
                        · exact Or.inr ⟨q.1, q.2.1, q.2.2.1, z⟩
                        · exact Or.inl (Or.inr ⟨q.1, q.2.1, q.2.2.1, by omega⟩)
            refine b6_46 (fun _ => b6_110 (l3 0 (by decide) h1 L gp (hx1.mo (by unfold KR; simp)) g5 ((hx1.2 (r + 2) (by simp)).trans e2) (ks.ext (fun a' b' c' e' _ => ?_)) (kl0.eq hx1 (by simp) (by simp)) (ke.eq hx1 (by simp) (by simp) d1))) (fun y => absurd (Int32.le_refl _) y)
            exact ⟨Or.inl, fun q => q.elim id (fun q => absurd q.2.2.2 (Nat.not_lt_zero _))⟩
          · intro k hk ih h1 gi hx1 g5 hgi
            have d1 := (hx1.2 r (by simp)).trans e1
            have t0 : iZ 3 * iZ k = iZ ((3 * k : Nat) : Int) := by rw [iZ_mul]; rfl
            have t1 : iZ 3 * iZ k + iZ 1 = iZ ((3 * k + 1 : Nat) : Int) := by rw [iZ_mul, iZ_add]; rfl
            have t2 : iZ 3 * iZ k + iZ 2 = iZ ((3 * k + 2 : Nat) : Int) := by rw [iZ_mul, iZ_add]; rfl
            refine b6_46 (fun y => ?_) (fun _ => b6_52 d1 (k7 (by omega) hc hk (b6_67 g5 ?_ (by omega) d1 (by omega) ?_)))
            · simp (disch := (first | assumption | omega | (unfold i32; omega) | (unfold i64; omega))) only [iZ_add, iZ_sub, iZ_mul, iZ_neg, lZ_add, lZ_sub, lZ_mul, lZ_neg, lZ_i, iZ_l, iZ_nat, Int.toNat_natCast, iZ_bit, iZ_shl, iZ_or, iZ_lt, iZ_le, iZ_eq, iZ_lt0, iZ_le0, iZ_gt0, iZ_ge0, iZ_eq0, cmp_eq0, cmp_lt0, cmp_le0, cmp_ge0, cmp_gt0, tf_0, tf_n0, Decidable.not_not, not_true_eq_false, not_false_eq_true, Int.toNat_natCast, onat] at y
              omega
            · rw [t0]; exact inZ (by omega) (by decide)
            · rw [t0, tnZ (show 3 * k < 9 by omega) (by decide), ← t0]
              refine k7 hc (by omega) hk (b6_85 (mGs g5) ?_ (by omega) (mGn (by omega) d1) (by omega) ?_)
              · rw [t1]; exact inZ (by omega) (by decide)
              · rw [t1, tnZ (show 3 * k + 1 < 9 by omega) (by decide)]
                refine k7 (by omega) (by omega) hk (b6_103 (mGs (mGs g5)) ?_ (by omega) ?_)
                · rw [t2]; exact inZ (by omega) (by decide)
                · rw [t2, tnZ (show 3 * k + 2 < 9 by omega) (by decide), iZ_add]
                  refine ih _ _ (((hx1.st _ (by simp)).st _ (by simp)).st _ (by simp)) (mGs (mGs (mGs g5))) (fun j hj => ?_)
                  by_cases e : j = k
                  · subst e
                    refine ⟨?_, ?_, ?_⟩
                    · rw [updI_n _ _ (by omega), updI_n _ _ (by omega), updI_e]
                    · rw [updI_n _ _ (by omega), updI_e]
                    · rw [updI_e]
                  · obtain ⟨q1, q2, q3⟩ := hgi j (by omega)
                    refine ⟨?_, ?_, ?_⟩
                    · rw [updI_n _ _ (by omega), updI_n _ _ (by omega), updI_n _ _ (by omega)]; exact q1
                    · rw [updI_n _ _ (by omega), updI_n _ _ (by omega), updI_n _ _ (by omega)]; exact q2
                    · rw [updI_n _ _ (by omega), updI_n _ _ (by omega), updI_n _ _ (by omega)]; exact q3
        exact l2 0 (by decide) h gi (Eqx.rf _ _) e5 (fun j hj => absurd hj (Nat.not_lt_zero _))
      · rw [iZ_eq0 (by unfold i32; omega), Decidable.not_not] at y
        refine hq h (Eqx.rf _ _) ⟨L, ks.ext (fun a' b' c' e' hcn => ?_), kl0, ke, gp, gi, e2, e5⟩
        refine ⟨Or.inl, fun q => q.elim id (fun q => ?_)⟩
        obtain ⟨rfl, rfl, rfl⟩ := q
        exact absurd y hcn.2.2.2.2
    · intro k hk ih
      refine b6_6 (fun y => ?_) (fun _ => b6_12 (k126 (by omega) (by omega) (b6_20 (k7 (by omega) hc hk (b6_27 ?_)))))
      · simp (disch := (first | assumption | omega | (unfold i32; omega) | (unfold i64; omega))) only [iZ_add, iZ_sub, iZ_mul, iZ_neg, lZ_add, lZ_sub, lZ_mul, lZ_neg, lZ_i, iZ_l, iZ_nat, Int.toNat_natCast, iZ_bit, iZ_shl, iZ_or, iZ_lt, iZ_le, iZ_eq, iZ_lt0, iZ_le0, iZ_gt0, iZ_ge0, iZ_eq0, cmp_eq0, cmp_lt0, cmp_le0, cmp_ge0, cmp_gt0, tf_0, tf_n0, Decidable.not_not, not_true_eq_false, not_false_eq_true, Int.toNat_natCast, onat] at y
        omega
      · rw [iZ_mul, iZ_add, iZ_add]
        exact ih
  exact en6 (b6_0 (l1 0 (by decide)))
end CK
