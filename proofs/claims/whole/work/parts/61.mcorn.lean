/-! ===== the reference: corner, told ===== -/

/-- cells that only asks use -/
def RX (h : mH) : Prop := ∃ g fa fu wa wb pf : Nat → Int64, h[18]? = some (aL 20 g) ∧ h[19]? = some (aL 1600 fa) ∧ h[20]? = some (aL 1600 fu) ∧ h[21]? = some (aL 16 wa) ∧ h[22]? = some (aL 16 wb) ∧ h[24]? = some (aL 32 pf)
def KA : List Nat := [14, 18, 19, 20, 21, 22, 24]
def AskS (h h' : mH) : Prop := Eqx KA h h' ∧ RX h' ∧ ∀ v cor bA bB rw_ bo, h[14]? = some (oM v cor bA bB rw_ bo) → ∃ cor' bA' bB', h'[14]? = some (oM v cor' bA' bB' rw_ bo)
def corL (n : Nat) (w : Nat → Int) : List (Nat → Int) := cL n w (2 ^ (al n - 1))
def sCorner (c : Nat) (sz : Nat → Nat) (W : Nat → Nat → Int) (a s p k : Int) : Int := if 0 ≤ a ∧ a < c then (if 0 ≤ s ∧ (0 ≤ p ∧ p < sz a.toNat) ∧ 0 ≤ k ∧ k ≤ 1 then (if s < (corL (sz a.toNat) (W a.toNat)).length then lowZ ((corL (sz a.toNat) (W a.toNat)).getD s.toNat o0 p.toNat) 2 k.toNat else NOz) else NOz) else NOz
def sTold (c : Nat) (kd sz : Nat → Nat) (W : Nat → Nat → Int) (a k : Int) : Int := if 0 ≤ a ∧ a < c then (if 0 ≤ k ∧ k ≤ 6 then (if k = 0 then (kd a.toNat : Int) else if k = 1 then (sz a.toNat : Int) else if k = 2 then (if (corL (sz a.toNat) (W a.toNat)).length = 0 then 0 else 1) else if k = 3 then ((corL (sz a.toNat) (W a.toNat)).length : Int) else if k = 4 then (if whereZ (W a.toNat) (sz a.toNat) = -1 then 1 else 0) else if k = 5 then (dumZ (W a.toNat) (sz a.toNat) : Int) else losZ (W a.toNat) (sz a.toNat)) else -2) else -2
theorem corL_24 {n : Nat} (h1 : 1 ≤ n) (h4 : n ≤ 4) {w : Nat → Int} (hw : w 0 = 0) : (corL n w).length ≤ 24 := cL_24 h1 h4 hw (Nat.le_refl _)
theorem fst1_in {P : Nat → Option Int} : ∀ {e : Nat} {x : Int}, fst1 P e = some x → ∃ k, k < e ∧ P k = some x
  | 0, x, h => by cases h
  | e + 1, x, h => by
    unfold fst1 at h
    cases h2 : fst1 P e with
    | none =>
      rw [h2] at h
      exact ⟨e, by omega, h⟩
    | some y =>
      rw [h2] at h
      obtain ⟨k, hk, h3⟩ := fst1_in (x := y) h2
      exact ⟨k, by omega, h3.trans (by simpa using h)⟩
theorem whereZ_b {w : Nat → Int} {n : Nat} (h4 : n ≤ 4) : -1 ≤ whereZ w n ∧ whereZ w n ≤ 2000 := by
  have h16 := two_pow_le4 h4
  unfold whereZ
  cases h : fst1 (fun p => fst1 (fun a => fst1 (whereP w p a) (2 ^ n)) (2 ^ n)) n with
  | none => exact ⟨by decide, by decide⟩
  | some x =>
    obtain ⟨p, hp, h⟩ := fst1_in h
    obtain ⟨a, ha, h⟩ := fst1_in h
    obtain ⟨b, hb, h⟩ := fst1_in h
    unfold whereP at h
    split at h
    · have : 256 * (p : Int) + 16 * a + b = x := by simpa using h
      show -1 ≤ x ∧ x ≤ 2000
      omega
    · cases h
section MQ
variable {h h' : mH} {Q : Option Value → mH → Prop} {i n c : Nat} {w : Nat → Int} {kd sz : Nat → Nat} {W : Nat → Nat → Int} {a p s y k q : Int}
theorem AskS.rf (hx : RX h) : AskS h h := ⟨Eqx.rf _ _, hx, fun v cor bA bB rw_ bo e => ⟨cor, bA, bB, e⟩⟩
theorem AskS.tr {h1 h2 : mH} (a : AskS h h1) (b : AskS h1 h2) : AskS h h2 := ⟨a.1.tr b.1, b.2.1, fun v cor bA bB rw_ bo e => by
  obtain ⟨_, _, _, e1⟩ := a.2.2 v cor bA bB rw_ bo e
  exact b.2.2 v _ _ _ rw_ bo e1⟩
theorem AskS.rv (hr : RV h c kd sz W) (ha : AskS h h') : RV h' c kd sz W := by
  obtain ⟨hc, hb, cor, bA, bB, rw_, bo, fk, fs, g, e1, e2, e3, e4, hf⟩ := hr
  obtain ⟨cor', bA', bB', e1'⟩ := ha.2.2 _ _ _ _ _ _ e1
  exact ⟨hc, hb, cor', bA', bB', rw_, bo, fk, fs, g, e1', (ha.1.2 15 (by decide)).trans e2, (ha.1.2 16 (by decide)).trans e3, (ha.1.2 17 (by decide)).trans e4, hf⟩
theorem oM_rc {n : Nat} {L : List (Nat → Int)} {v v' cor' : Int32} {bA bB bA' bB' : Int64} {rw_ bo rw' bo' : Int32} (hr : RC h n L v bA bB rw_ bo) (e : h[14]? = some (oM v' cor' bA' bB' rw' bo')) : cor' = iZ L.length := by
  obtain ⟨_, fa, fu, e1, _⟩ := hr
  exact (oM_inj (e.symm.trans e1)).2.1
/-- corners found -/
theorem c182a (hw0 : w 0 = 0) (hv : MV h i n w) {v cor : Int32} {bA bB : Int64} {rw_ bo : Int32} (e1 : h[14]? = some (oM v cor bA bB rw_ bo)) (hx : RX h) (hq : ∀ h', RC h' n (corL n w) v bA bB rw_ bo → AskS h h' → Q none h') : mCt mCd 182 [.ref 14, .int (iZ i)] h Q := by
  obtain ⟨g, fa, fu, wa, wb, pf, x1, x2, x3, x4, x5, x6⟩ := hx
  refine c182 hw0 hv e1 x1 x2 x3 (fun H2 g2 hr hx2 h18 => hq H2 hr ⟨hx2.mo (by decide), ?_, ?_⟩)
  · obtain ⟨_, fa2, fu2, _, y2, y3, _⟩ := hr
    exact ⟨g2, fa2, fu2, wa, wb, pf, h18, y2, y3, (hx2.2 21 (by decide)).trans x4, (hx2.2 22 (by decide)).trans x5, (hx2.2 24 (by decide)).trans x6⟩
  · intro v' cor' bA' bB' rw' bo' e
    obtain ⟨_, _, _, y1, _⟩ := hr
    have := oM_inj (e.symm.trans e1)
    obtain ⟨q1, q2, q3, q4, q5, q6⟩ := this
    subst q1 q5 q6
    exact ⟨_, _, _, y1⟩
theorem r183 (hr : RV h c kd sz W) (hx : RX h) (hw0 : ∀ i, i < c → W i 0 = 0) (ha : i32 a) (hs' : i32 s) (hp : i32 p) (hk : i32 k) (hq : ∀ h', AskS h h' → Q (some (.long (lZ (sCorner c sz W a s p k)))) h') : mCt mCd 183 [.ref 14, .int (iZ a), .int (iZ s), .int (iZ p), .int (iZ k)] h Q := by
  obtain ⟨cor, bA, bB, rw_, bo, e1⟩ := hr.o
  have hs : True := trivial
  have hq0 := hq h (AskS.rf hx)
  unfold sCorner at hq hq0
  by_cases hA : 0 ≤ a ∧ a < c
  · rw [if_pos hA] at hq hq0
    obtain ⟨i, rfl⟩ : ∃ m : Nat, a = m := ⟨a.toNat, by omega⟩
    have hi : i < c := by omega
    have hv := hr.mv hi
    have hw := hw0 i hi
    obtain ⟨hi11, ⟨hn1, hn4⟩, hwb, -⟩ := id hv
    simp only [Int.toNat_natCast] at hq hq0
    generalize hn : sz i = n at *
    generalize hW : W i = w at *
    have hal := al_lt hn4
    have h24 := corL_24 hn1 hn4 hw
    by_cases hB : 0 ≤ s ∧ (0 ≤ p ∧ p < n) ∧ 0 ≤ k ∧ k ≤ 1
    · simp only [if_pos hB] at hq
      obtain ⟨s, rfl⟩ : ∃ m : Nat, s = m := ⟨s.toNat, by omega⟩
      obtain ⟨p, rfl⟩ : ∃ m : Nat, p = m := ⟨p.toNat, by omega⟩
      obtain ⟨k, rfl⟩ : ∃ m : Nat, k = m := ⟨k.toNat, by omega⟩
      simp only [Int.toNat_natCast] at hq
      refine en183 (b183_0 e1 (r138 hr ha (b183_5 (fun q => ?_) (fun _ => b183_8 (fun q => ?_) (fun _ => b183_12 e1 (c143 hv hp (b183_18 (fun q => ?_) (fun _ => b183_21 e1 (c137 hk (by unfold i32; omega) (by unfold i32; omega) (b183_29 (fun _ => b183_36 e1 (c182a hw hv e1 hx (fun h2 hrc hask => ?_))) (fun q => ?_)))))))))))
      · simp (disch := (first | assumption | omega | (unfold i32; omega) | (unfold i64; omega))) only [iZ_add, iZ_sub, iZ_mul, iZ_neg, lZ_add, lZ_sub, lZ_mul, lZ_neg, lZ_i, iZ_l, iZ_nat, Int.toNat_natCast, iZ_bit, iZ_shl, iZ_or, iZ_lt, iZ_le, iZ_eq, iZ_lt0, iZ_le0, iZ_gt0, iZ_ge0, iZ_eq0, cmp_eq0, cmp_lt0, cmp_le0, cmp_ge0, cmp_gt0, tf_0, tf_n0, Decidable.not_not, not_true_eq_false, not_false_eq_true, hs, Int.toNat_natCast, tn4] at q
        omega
      · simp (disch := (first | assumption | omega | (unfold i32; omega) | (unfold i64; omega))) only [iZ_add, iZ_sub, iZ_mul, iZ_neg, lZ_add, lZ_sub, lZ_mul, lZ_neg, lZ_i, iZ_l, iZ_nat, Int.toNat_natCast, iZ_bit, iZ_shl, iZ_or, iZ_lt, iZ_le, iZ_eq, iZ_lt0, iZ_le0, iZ_gt0, iZ_ge0, iZ_eq0, cmp_eq0, cmp_lt0, cmp_le0, cmp_ge0, cmp_gt0, tf_0, tf_n0, Decidable.not_not, not_true_eq_false, not_false_eq_true, hs, Int.toNat_natCast, tn4] at q
        omega
      · simp (disch := (first | assumption | omega | (unfold i32; omega) | (unfold i64; omega))) only [iZ_add, iZ_sub, iZ_mul, iZ_neg, lZ_add, lZ_sub, lZ_mul, lZ_neg, lZ_i, iZ_l, iZ_nat, Int.toNat_natCast, iZ_bit, iZ_shl, iZ_or, iZ_lt, iZ_le, iZ_eq, iZ_lt0, iZ_le0, iZ_gt0, iZ_ge0, iZ_eq0, cmp_eq0, cmp_lt0, cmp_le0, cmp_ge0, cmp_gt0, tf_0, tf_n0, Decidable.not_not, not_true_eq_false, not_false_eq_true, hs, Int.toNat_natCast, tn4] at q
        omega
      · have hq2 := hq h2 hask
        obtain ⟨_, fa, fu, d1, d2, d3, hf⟩ := id hrc
        refine b183_41 d1 (fun q => b183_80 ?_) (fun q => ?_)
        · simp (disch := (first | assumption | omega | (unfold i32; omega) | (unfold i64; omega))) only [iZ_add, iZ_sub, iZ_mul, iZ_neg, lZ_add, lZ_sub, lZ_mul, lZ_neg, lZ_i, iZ_l, iZ_nat, Int.toNat_natCast, iZ_bit, iZ_shl, iZ_or, iZ_lt, iZ_le, iZ_eq, iZ_lt0, iZ_le0, iZ_gt0, iZ_ge0, iZ_eq0, cmp_eq0, cmp_lt0, cmp_le0, cmp_ge0, cmp_gt0, tf_0, tf_n0, Decidable.not_not, not_true_eq_false, not_false_eq_true, hs, Int.toNat_natCast, tn4] at q
          rw [if_neg (by omega)] at hq2
          exact hq2
        · simp (disch := (first | assumption | omega | (unfold i32; omega) | (unfold i64; omega))) only [iZ_add, iZ_sub, iZ_mul, iZ_neg, lZ_add, lZ_sub, lZ_mul, lZ_neg, lZ_i, iZ_l, iZ_nat, Int.toNat_natCast, iZ_bit, iZ_shl, iZ_or, iZ_lt, iZ_le, iZ_eq, iZ_lt0, iZ_le0, iZ_gt0, iZ_ge0, iZ_eq0, cmp_eq0, cmp_lt0, cmp_le0, cmp_ge0, cmp_gt0, tf_0, tf_n0, Decidable.not_not, not_true_eq_false, not_false_eq_true, hs, Int.toNat_natCast, tn4] at q
          rw [if_pos (by omega)] at hq2
          have hf2 := hf s (by omega) p (by omega)
          have hin3 : ¬ (iZ 4 * iZ s + iZ p < 0 ∨ 1600 ≤ (iZ 4 * iZ s + iZ p).toNatClampNeg) := by
            rw [iZ_mul, iZ_add]
            exact iZ_in (by omega) (by omega) (by decide)
          refine b183_49 (fun q => b183_67 d1 d3 hin3 ?_) (fun q => b183_54 d1 d2 hin3 ?_)
          · simp (disch := (first | assumption | omega | (unfold i32; omega) | (unfold i64; omega))) only [iZ_add, iZ_sub, iZ_mul, iZ_neg, lZ_add, lZ_sub, lZ_mul, lZ_neg, lZ_i, iZ_l, iZ_nat, Int.toNat_natCast, iZ_bit, iZ_shl, iZ_or, iZ_lt, iZ_le, iZ_eq, iZ_lt0, iZ_le0, iZ_gt0, iZ_ge0, iZ_eq0, cmp_eq0, cmp_lt0, cmp_le0, cmp_ge0, cmp_gt0, tf_0, tf_n0, Decidable.not_not, not_true_eq_false, not_false_eq_true, hs, Int.toNat_natCast, tn4] at q
            simp (disch := (first | assumption | omega | (unfold i32; omega) | (unfold i64; omega))) only [iZ_add, iZ_sub, iZ_mul, iZ_neg, lZ_add, lZ_sub, lZ_mul, lZ_neg, lZ_i, iZ_l, iZ_nat, Int.toNat_natCast, iZ_bit, iZ_shl, iZ_or, iZ_lt, iZ_le, iZ_eq, iZ_lt0, iZ_le0, iZ_gt0, iZ_ge0, iZ_eq0, cmp_eq0, cmp_lt0, cmp_le0, cmp_ge0, cmp_gt0, tf_0, tf_n0, Decidable.not_not, not_true_eq_false, not_false_eq_true, hs, Int.toNat_natCast, tn4]
            rw [hf2.2]
            have : k = 1 := by omega
            subst this
            exact hq2
          · simp (disch := (first | assumption | omega | (unfold i32; omega) | (unfold i64; omega))) only [iZ_add, iZ_sub, iZ_mul, iZ_neg, lZ_add, lZ_sub, lZ_mul, lZ_neg, lZ_i, iZ_l, iZ_nat, Int.toNat_natCast, iZ_bit, iZ_shl, iZ_or, iZ_lt, iZ_le, iZ_eq, iZ_lt0, iZ_le0, iZ_gt0, iZ_ge0, iZ_eq0, cmp_eq0, cmp_lt0, cmp_le0, cmp_ge0, cmp_gt0, tf_0, tf_n0, Decidable.not_not, not_true_eq_false, not_false_eq_true, hs, Int.toNat_natCast, tn4] at q
            simp (disch := (first | assumption | omega | (unfold i32; omega) | (unfold i64; omega))) only [iZ_add, iZ_sub, iZ_mul, iZ_neg, lZ_add, lZ_sub, lZ_mul, lZ_neg, lZ_i, iZ_l, iZ_nat, Int.toNat_natCast, iZ_bit, iZ_shl, iZ_or, iZ_lt, iZ_le, iZ_eq, iZ_lt0, iZ_le0, iZ_gt0, iZ_ge0, iZ_eq0, cmp_eq0, cmp_lt0, cmp_le0, cmp_ge0, cmp_gt0, tf_0, tf_n0, Decidable.not_not, not_true_eq_false, not_false_eq_true, hs, Int.toNat_natCast, tn4]
            rw [hf2.1]
            have : k = 0 := by omega
            subst this
            exact hq2
      · simp (disch := (first | assumption | omega | (unfold i32; omega) | (unfold i64; omega))) only [iZ_add, iZ_sub, iZ_mul, iZ_neg, lZ_add, lZ_sub, lZ_mul, lZ_neg, lZ_i, iZ_l, iZ_nat, Int.toNat_natCast, iZ_bit, iZ_shl, iZ_or, iZ_lt, iZ_le, iZ_eq, iZ_lt0, iZ_le0, iZ_gt0, iZ_ge0, iZ_eq0, cmp_eq0, cmp_lt0, cmp_le0, cmp_ge0, cmp_gt0, tf_0, tf_n0, Decidable.not_not, not_true_eq_false, not_false_eq_true, hs, Int.toNat_natCast, tn4] at q
        omega
    · rw [if_neg hB] at hq0
      repeat' (first
    | refine en183 ?_
    | exact hq0
    | refine r138 hr ha ?_
    | refine c137 (by assumption) (by unfold i32; omega) (by unfold i32; omega) ?_
    | refine c143 hv (by assumption) ?_
    | exact iZ_in (by omega) (by omega) (by decide)
    | simp (disch := (first | assumption | omega | (unfold i32; omega) | (unfold i64; omega))) only [iZ_add, iZ_sub, iZ_mul, iZ_neg, lZ_add, lZ_sub, lZ_mul, lZ_neg, lZ_i, iZ_l, iZ_nat, Int.toNat_natCast, iZ_bit, iZ_shl, iZ_or, iZ_lt, iZ_le, iZ_eq, iZ_lt0, iZ_le0, iZ_gt0, iZ_ge0, iZ_eq0, cmp_eq0, cmp_lt0, cmp_le0, cmp_ge0, cmp_gt0, tf_0, tf_n0, Decidable.not_not, not_true_eq_false, not_false_eq_true, hs, Int.toNat_natCast, tn4]
    | refine b183_0 (by first | assumption | (repeat' (first | assumption | refine mGs ?_ | refine mGn (by omega) ?_))) ?_
    | (refine b183_5 (fun q => ?_) (fun q => ?_) <;> (try simp (disch := (first | assumption | omega | (unfold i32; omega) | (unfold i64; omega))) only [iZ_add, iZ_sub, iZ_mul, iZ_neg, lZ_add, lZ_sub, lZ_mul, lZ_neg, lZ_i, iZ_l, iZ_nat, Int.toNat_natCast, iZ_bit, iZ_shl, iZ_or, iZ_lt, iZ_le, iZ_eq, iZ_lt0, iZ_le0, iZ_gt0, iZ_ge0, iZ_eq0, cmp_eq0, cmp_lt0, cmp_le0, cmp_ge0, cmp_gt0, tf_0, tf_n0, Decidable.not_not, not_true_eq_false, not_false_eq_true, hs, Int.toNat_natCast, tn4] at q) <;> (try (exfalso; omega)))
    | refine b183_32 ?_
    | (refine b183_8 (fun q => ?_) (fun q => ?_) <;> (try simp (disch := (first | assumption | omega | (unfold i32; omega) | (unfold i64; omega))) only [iZ_add, iZ_sub, iZ_mul, iZ_neg, lZ_add, lZ_sub, lZ_mul, lZ_neg, lZ_i, iZ_l, iZ_nat, Int.toNat_natCast, iZ_bit, iZ_shl, iZ_or, iZ_lt, iZ_le, iZ_eq, iZ_lt0, iZ_le0, iZ_gt0, iZ_ge0, iZ_eq0, cmp_eq0, cmp_lt0, cmp_le0, cmp_ge0, cmp_gt0, tf_0, tf_n0, Decidable.not_not, not_true_eq_false, not_false_eq_true, hs, Int.toNat_natCast, tn4] at q) <;> (try (exfalso; omega)))
    | refine b183_12 (by first | assumption | (repeat' (first | assumption | refine mGs ?_ | refine mGn (by omega) ?_))) ?_
    | (refine b183_18 (fun q => ?_) (fun q => ?_) <;> (try simp (disch := (first | assumption | omega | (unfold i32; omega) | (unfold i64; omega))) only [iZ_add, iZ_sub, iZ_mul, iZ_neg, lZ_add, lZ_sub, lZ_mul, lZ_neg, lZ_i, iZ_l, iZ_nat, Int.toNat_natCast, iZ_bit, iZ_shl, iZ_or, iZ_lt, iZ_le, iZ_eq, iZ_lt0, iZ_le0, iZ_gt0, iZ_ge0, iZ_eq0, cmp_eq0, cmp_lt0, cmp_le0, cmp_ge0, cmp_gt0, tf_0, tf_n0, Decidable.not_not, not_true_eq_false, not_false_eq_true, hs, Int.toNat_natCast, tn4] at q) <;> (try (exfalso; omega)))
    | refine b183_21 (by first | assumption | (repeat' (first | assumption | refine mGs ?_ | refine mGn (by omega) ?_))) ?_
    | (refine b183_29 (fun q => ?_) (fun q => ?_) <;> (try simp (disch := (first | assumption | omega | (unfold i32; omega) | (unfold i64; omega))) only [iZ_add, iZ_sub, iZ_mul, iZ_neg, lZ_add, lZ_sub, lZ_mul, lZ_neg, lZ_i, iZ_l, iZ_nat, Int.toNat_natCast, iZ_bit, iZ_shl, iZ_or, iZ_lt, iZ_le, iZ_eq, iZ_lt0, iZ_le0, iZ_gt0, iZ_ge0, iZ_eq0, cmp_eq0, cmp_lt0, cmp_le0, cmp_ge0, cmp_gt0, tf_0, tf_n0, Decidable.not_not, not_true_eq_false, not_false_eq_true, hs, Int.toNat_natCast, tn4] at q) <;> (try (exfalso; omega))))
  · rw [if_neg hA] at hq0
    repeat' (first
    | refine en183 ?_
    | exact hq0
    | refine r138 hr ha ?_
    | refine c137 (by assumption) (by unfold i32; omega) (by unfold i32; omega) ?_
    | exact iZ_in (by omega) (by omega) (by decide)
    | simp (disch := (first | assumption | omega | (unfold i32; omega) | (unfold i64; omega))) only [iZ_add, iZ_sub, iZ_mul, iZ_neg, lZ_add, lZ_sub, lZ_mul, lZ_neg, lZ_i, iZ_l, iZ_nat, Int.toNat_natCast, iZ_bit, iZ_shl, iZ_or, iZ_lt, iZ_le, iZ_eq, iZ_lt0, iZ_le0, iZ_gt0, iZ_ge0, iZ_eq0, cmp_eq0, cmp_lt0, cmp_le0, cmp_ge0, cmp_gt0, tf_0, tf_n0, Decidable.not_not, not_true_eq_false, not_false_eq_true, hs, Int.toNat_natCast, tn4]
    | refine b183_0 (by first | assumption | (repeat' (first | assumption | refine mGs ?_ | refine mGn (by omega) ?_))) ?_
    | (refine b183_5 (fun q => ?_) (fun q => ?_) <;> (try simp (disch := (first | assumption | omega | (unfold i32; omega) | (unfold i64; omega))) only [iZ_add, iZ_sub, iZ_mul, iZ_neg, lZ_add, lZ_sub, lZ_mul, lZ_neg, lZ_i, iZ_l, iZ_nat, Int.toNat_natCast, iZ_bit, iZ_shl, iZ_or, iZ_lt, iZ_le, iZ_eq, iZ_lt0, iZ_le0, iZ_gt0, iZ_ge0, iZ_eq0, cmp_eq0, cmp_lt0, cmp_le0, cmp_ge0, cmp_gt0, tf_0, tf_n0, Decidable.not_not, not_true_eq_false, not_false_eq_true, hs, Int.toNat_natCast, tn4] at q) <;> (try (exfalso; omega)))
    | refine b183_32 ?_
    | (refine b183_8 (fun q => ?_) (fun q => ?_) <;> (try simp (disch := (first | assumption | omega | (unfold i32; omega) | (unfold i64; omega))) only [iZ_add, iZ_sub, iZ_mul, iZ_neg, lZ_add, lZ_sub, lZ_mul, lZ_neg, lZ_i, iZ_l, iZ_nat, Int.toNat_natCast, iZ_bit, iZ_shl, iZ_or, iZ_lt, iZ_le, iZ_eq, iZ_lt0, iZ_le0, iZ_gt0, iZ_ge0, iZ_eq0, cmp_eq0, cmp_lt0, cmp_le0, cmp_ge0, cmp_gt0, tf_0, tf_n0, Decidable.not_not, not_true_eq_false, not_false_eq_true, hs, Int.toNat_natCast, tn4] at q) <;> (try (exfalso; omega)))
    | refine b183_12 (by first | assumption | (repeat' (first | assumption | refine mGs ?_ | refine mGn (by omega) ?_))) ?_
    | (refine b183_18 (fun q => ?_) (fun q => ?_) <;> (try simp (disch := (first | assumption | omega | (unfold i32; omega) | (unfold i64; omega))) only [iZ_add, iZ_sub, iZ_mul, iZ_neg, lZ_add, lZ_sub, lZ_mul, lZ_neg, lZ_i, iZ_l, iZ_nat, Int.toNat_natCast, iZ_bit, iZ_shl, iZ_or, iZ_lt, iZ_le, iZ_eq, iZ_lt0, iZ_le0, iZ_gt0, iZ_ge0, iZ_eq0, cmp_eq0, cmp_lt0, cmp_le0, cmp_ge0, cmp_gt0, tf_0, tf_n0, Decidable.not_not, not_true_eq_false, not_false_eq_true, hs, Int.toNat_natCast, tn4] at q) <;> (try (exfalso; omega)))
    | refine b183_21 (by first | assumption | (repeat' (first | assumption | refine mGs ?_ | refine mGn (by omega) ?_))) ?_
    | (refine b183_29 (fun q => ?_) (fun q => ?_) <;> (try simp (disch := (first | assumption | omega | (unfold i32; omega) | (unfold i64; omega))) only [iZ_add, iZ_sub, iZ_mul, iZ_neg, lZ_add, lZ_sub, lZ_mul, lZ_neg, lZ_i, iZ_l, iZ_nat, Int.toNat_natCast, iZ_bit, iZ_shl, iZ_or, iZ_lt, iZ_le, iZ_eq, iZ_lt0, iZ_le0, iZ_gt0, iZ_ge0, iZ_eq0, cmp_eq0, cmp_lt0, cmp_le0, cmp_ge0, cmp_gt0, tf_0, tf_n0, Decidable.not_not, not_true_eq_false, not_false_eq_true, hs, Int.toNat_natCast, tn4] at q) <;> (try (exfalso; omega))))
theorem r192 (hr : RV h c kd sz W) (hx : RX h) (hw0 : ∀ i, i < c → W i 0 = 0) (ha : i32 a) (hk : i32 k) (hq : ∀ h', AskS h h' → Q (some (.int (iZ (sTold c kd sz W a k)))) h') : mCt mCd 192 [.ref 14, .int (iZ a), .int (iZ k)] h Q := by
  obtain ⟨cor, bA, bB, rw_, bo, e1⟩ := hr.o
  have hs : True := trivial
  have hq0 := hq h (AskS.rf hx)
  unfold sTold at hq hq0
  by_cases hA : 0 ≤ a ∧ a < c
  · rw [if_pos hA] at hq hq0
    obtain ⟨i, rfl⟩ : ∃ m : Nat, a = m := ⟨a.toNat, by omega⟩
    have hi : i < c := by omega
    have hv := hr.mv hi
    have hw := hw0 i hi
    have hc10 := hr.1
    obtain ⟨hi11, ⟨hn1, hn4⟩, hwb, -⟩ := id hv
    obtain ⟨_, _, _, _, _, _, _, fk, fs, gg, _, e15, e16, _, hff⟩ := id hr
    have hff := hff i hi
    simp only [Int.toNat_natCast] at hq hq0
    have h24 := corL_24 hn1 hn4 hw
    have hwz := whereZ_b (w := W i) hn4
    by_cases hB : 0 ≤ k ∧ k ≤ 6
    · simp only [if_pos hB] at hq hq0
      have hki : (iZ k).toInt = k := iZ_toInt hk
      refine en192 (b192_0 e1 (r138 hr ha (b192_5 (fun q => ?_) (fun _ => b192_8 e1 (c137 hk (by unfold i32; omega) (by unfold i32; omega) (b192_16 (fun _ => b192_22 (fun q => ?_) (fun q => ?_)) (fun q => ?_)))))))
      · simp (disch := (first | assumption | omega | (unfold i32; omega) | (unfold i64; omega))) only [iZ_add, iZ_sub, iZ_mul, iZ_neg, lZ_add, lZ_sub, lZ_mul, lZ_neg, lZ_i, iZ_l, iZ_nat, Int.toNat_natCast, iZ_bit, iZ_shl, iZ_or, iZ_lt, iZ_le, iZ_eq, iZ_lt0, iZ_le0, iZ_gt0, iZ_ge0, iZ_eq0, cmp_eq0, cmp_lt0, cmp_le0, cmp_ge0, cmp_gt0, tf_0, tf_n0, Decidable.not_not, not_true_eq_false, not_false_eq_true, hs, Int.toNat_natCast, tn4] at q
        omega
      · rw [hki] at q
        omega
      · rw [hki]
        have hcor : (k = 2 ∨ k = 3) → mWp mCd 192 (105, [some (.ref 14), some (.int (iZ i)), some (.int (iZ k))], [], h, 0, 0) Q := by
          intro hk2
          refine b192_105 e1 (c182a hw hv e1 hx (fun h2 hrc hask => ?_))
          have hq2 := hq h2 hask
          rw [if_neg (by omega), if_neg (by omega)] at hq2
          obtain ⟨_, fa, fu, d1, d2, d3, hf⟩ := id hrc
          refine b192_110 (fun q => b192_122 d1 (fun q2 => b192_133 ?_) (fun q2 => b192_129 ?_)) (fun q => b192_115 d1 ?_)
          · simp (disch := (first | assumption | omega | (unfold i32; omega) | (unfold i64; omega))) only [iZ_add, iZ_sub, iZ_mul, iZ_neg, lZ_add, lZ_sub, lZ_mul, lZ_neg, lZ_i, iZ_l, iZ_nat, Int.toNat_natCast, iZ_bit, iZ_shl, iZ_or, iZ_lt, iZ_le, iZ_eq, iZ_lt0, iZ_le0, iZ_gt0, iZ_ge0, iZ_eq0, cmp_eq0, cmp_lt0, cmp_le0, cmp_ge0, cmp_gt0, tf_0, tf_n0, Decidable.not_not, not_true_eq_false, not_false_eq_true, hs, Int.toNat_natCast, tn4] at q
            simp (disch := (first | assumption | omega | (unfold i32; omega) | (unfold i64; omega))) only [iZ_add, iZ_sub, iZ_mul, iZ_neg, lZ_add, lZ_sub, lZ_mul, lZ_neg, lZ_i, iZ_l, iZ_nat, Int.toNat_natCast, iZ_bit, iZ_shl, iZ_or, iZ_lt, iZ_le, iZ_eq, iZ_lt0, iZ_le0, iZ_gt0, iZ_ge0, iZ_eq0, cmp_eq0, cmp_lt0, cmp_le0, cmp_ge0, cmp_gt0, tf_0, tf_n0, Decidable.not_not, not_true_eq_false, not_false_eq_true, hs, Int.toNat_natCast, tn4] at q2
            rw [if_pos (by omega), if_pos (by omega)] at hq2
            exact hq2
          · simp (disch := (first | assumption | omega | (unfold i32; omega) | (unfold i64; omega))) only [iZ_add, iZ_sub, iZ_mul, iZ_neg, lZ_add, lZ_sub, lZ_mul, lZ_neg, lZ_i, iZ_l, iZ_nat, Int.toNat_natCast, iZ_bit, iZ_shl, iZ_or, iZ_lt, iZ_le, iZ_eq, iZ_lt0, iZ_le0, iZ_gt0, iZ_ge0, iZ_eq0, cmp_eq0, cmp_lt0, cmp_le0, cmp_ge0, cmp_gt0, tf_0, tf_n0, Decidable.not_not, not_true_eq_false, not_false_eq_true, hs, Int.toNat_natCast, tn4] at q
            simp (disch := (first | assumption | omega | (unfold i32; omega) | (unfold i64; omega))) only [iZ_add, iZ_sub, iZ_mul, iZ_neg, lZ_add, lZ_sub, lZ_mul, lZ_neg, lZ_i, iZ_l, iZ_nat, Int.toNat_natCast, iZ_bit, iZ_shl, iZ_or, iZ_lt, iZ_le, iZ_eq, iZ_lt0, iZ_le0, iZ_gt0, iZ_ge0, iZ_eq0, cmp_eq0, cmp_lt0, cmp_le0, cmp_ge0, cmp_gt0, tf_0, tf_n0, Decidable.not_not, not_true_eq_false, not_false_eq_true, hs, Int.toNat_natCast, tn4] at q2
            rw [if_pos (by omega), if_neg (by omega)] at hq2
            exact hq2
          · simp (disch := (first | assumption | omega | (unfold i32; omega) | (unfold i64; omega))) only [iZ_add, iZ_sub, iZ_mul, iZ_neg, lZ_add, lZ_sub, lZ_mul, lZ_neg, lZ_i, iZ_l, iZ_nat, Int.toNat_natCast, iZ_bit, iZ_shl, iZ_or, iZ_lt, iZ_le, iZ_eq, iZ_lt0, iZ_le0, iZ_gt0, iZ_ge0, iZ_eq0, cmp_eq0, cmp_lt0, cmp_le0, cmp_ge0, cmp_gt0, tf_0, tf_n0, Decidable.not_not, not_true_eq_false, not_false_eq_true, hs, Int.toNat_natCast, tn4] at q
            rw [if_neg (by omega), if_pos (by omega)] at hq2
            exact hq2
        have : k = 0 ∨ k = 1 ∨ k = 2 ∨ k = 3 ∨ k = 4 ∨ k = 5 ∨ k = 6 := by omega
        rcases this with e | e | e | e | e | e | e <;> subst e
        · refine ⟨64, rfl, b192_64 e1 e15 (iZ_in (by omega) (by omega) (by decide)) ?_⟩
          rw [iZ_nat (by omega) (by omega), Int.toNat_natCast, hff.1]
          exact hq0
        · refine ⟨71, rfl, b192_71 e1 e16 (iZ_in (by omega) (by omega) (by decide)) ?_⟩
          rw [iZ_nat (by omega) (by omega), Int.toNat_natCast, hff.2.1]
          exact hq0
        · exact ⟨105, rfl, hcor (Or.inl rfl)⟩
        · exact ⟨105, rfl, hcor (Or.inr rfl)⟩
        · refine ⟨78, rfl, b192_78 e1 (c189i hv hi hc10 e1 (b192_83 (fun q => b192_91 ?_) (fun q => b192_87 ?_)))⟩
          · rw [iZ_eq (by unfold i32; omega) (by unfold i32; omega)] at q
            rw [if_neg (by omega), if_neg (by omega), if_neg (by omega), if_neg (by omega), if_pos rfl, if_neg q] at hq0
            exact hq0
          · rw [iZ_eq (by unfold i32; omega) (by unfold i32; omega), Decidable.not_not] at q
            rw [if_neg (by omega), if_neg (by omega), if_neg (by omega), if_neg (by omega), if_pos rfl, if_pos q] at hq0
            exact hq0
        · exact ⟨93, rfl, b192_93 e1 (c190 hv (b192_98 hq0))⟩
        · exact ⟨99, rfl, b192_99 e1 (c191 hv (b192_104 hq0))⟩
      · simp (disch := (first | assumption | omega | (unfold i32; omega) | (unfold i64; omega))) only [iZ_add, iZ_sub, iZ_mul, iZ_neg, lZ_add, lZ_sub, lZ_mul, lZ_neg, lZ_i, iZ_l, iZ_nat, Int.toNat_natCast, iZ_bit, iZ_shl, iZ_or, iZ_lt, iZ_le, iZ_eq, iZ_lt0, iZ_le0, iZ_gt0, iZ_ge0, iZ_eq0, cmp_eq0, cmp_lt0, cmp_le0, cmp_ge0, cmp_gt0, tf_0, tf_n0, Decidable.not_not, not_true_eq_false, not_false_eq_true, hs, Int.toNat_natCast, tn4] at q
        omega
    · rw [if_neg hB] at hq0
      repeat' (first
    | refine en192 ?_
    | exact hq0
    | refine r138 hr ha ?_
    | refine c137 (by assumption) (by unfold i32; omega) (by unfold i32; omega) ?_
    | exact iZ_in (by omega) (by omega) (by decide)
    | simp (disch := (first | assumption | omega | (unfold i32; omega) | (unfold i64; omega))) only [iZ_add, iZ_sub, iZ_mul, iZ_neg, lZ_add, lZ_sub, lZ_mul, lZ_neg, lZ_i, iZ_l, iZ_nat, Int.toNat_natCast, iZ_bit, iZ_shl, iZ_or, iZ_lt, iZ_le, iZ_eq, iZ_lt0, iZ_le0, iZ_gt0, iZ_ge0, iZ_eq0, cmp_eq0, cmp_lt0, cmp_le0, cmp_ge0, cmp_gt0, tf_0, tf_n0, Decidable.not_not, not_true_eq_false, not_false_eq_true, hs, Int.toNat_natCast, tn4]
    | refine b192_0 (by first | assumption | (repeat' (first | assumption | refine mGs ?_ | refine mGn (by omega) ?_))) ?_
    | (refine b192_5 (fun q => ?_) (fun q => ?_) <;> (try simp (disch := (first | assumption | omega | (unfold i32; omega) | (unfold i64; omega))) only [iZ_add, iZ_sub, iZ_mul, iZ_neg, lZ_add, lZ_sub, lZ_mul, lZ_neg, lZ_i, iZ_l, iZ_nat, Int.toNat_natCast, iZ_bit, iZ_shl, iZ_or, iZ_lt, iZ_le, iZ_eq, iZ_lt0, iZ_le0, iZ_gt0, iZ_ge0, iZ_eq0, cmp_eq0, cmp_lt0, cmp_le0, cmp_ge0, cmp_gt0, tf_0, tf_n0, Decidable.not_not, not_true_eq_false, not_false_eq_true, hs, Int.toNat_natCast, tn4] at q) <;> (try (exfalso; omega)))
    | refine b192_19 ?_
    | refine b192_8 (by first | assumption | (repeat' (first | assumption | refine mGs ?_ | refine mGn (by omega) ?_))) ?_
    | (refine b192_16 (fun q => ?_) (fun q => ?_) <;> (try simp (disch := (first | assumption | omega | (unfold i32; omega) | (unfold i64; omega))) only [iZ_add, iZ_sub, iZ_mul, iZ_neg, lZ_add, lZ_sub, lZ_mul, lZ_neg, lZ_i, iZ_l, iZ_nat, Int.toNat_natCast, iZ_bit, iZ_shl, iZ_or, iZ_lt, iZ_le, iZ_eq, iZ_lt0, iZ_le0, iZ_gt0, iZ_ge0, iZ_eq0, cmp_eq0, cmp_lt0, cmp_le0, cmp_ge0, cmp_gt0, tf_0, tf_n0, Decidable.not_not, not_true_eq_false, not_false_eq_true, hs, Int.toNat_natCast, tn4] at q) <;> (try (exfalso; omega)))
    | refine b192_105 (by first | assumption | (repeat' (first | assumption | refine mGs ?_ | refine mGn (by omega) ?_))) ?_
    | refine b192_64 (by first | assumption | (repeat' (first | assumption | refine mGs ?_ | refine mGn (by omega) ?_))) (by first | assumption | (repeat' (first | assumption | refine mGs ?_ | refine mGn (by omega) ?_))) ?_ ?_
    | refine b192_71 (by first | assumption | (repeat' (first | assumption | refine mGs ?_ | refine mGn (by omega) ?_))) (by first | assumption | (repeat' (first | assumption | refine mGs ?_ | refine mGn (by omega) ?_))) ?_ ?_
    | refine b192_78 (by first | assumption | (repeat' (first | assumption | refine mGs ?_ | refine mGn (by omega) ?_))) ?_
    | refine b192_93 (by first | assumption | (repeat' (first | assumption | refine mGs ?_ | refine mGn (by omega) ?_))) ?_
    | refine b192_99 (by first | assumption | (repeat' (first | assumption | refine mGs ?_ | refine mGn (by omega) ?_))) ?_
    | (refine b192_110 (fun q => ?_) (fun q => ?_) <;> (try simp (disch := (first | assumption | omega | (unfold i32; omega) | (unfold i64; omega))) only [iZ_add, iZ_sub, iZ_mul, iZ_neg, lZ_add, lZ_sub, lZ_mul, lZ_neg, lZ_i, iZ_l, iZ_nat, Int.toNat_natCast, iZ_bit, iZ_shl, iZ_or, iZ_lt, iZ_le, iZ_eq, iZ_lt0, iZ_le0, iZ_gt0, iZ_ge0, iZ_eq0, cmp_eq0, cmp_lt0, cmp_le0, cmp_ge0, cmp_gt0, tf_0, tf_n0, Decidable.not_not, not_true_eq_false, not_false_eq_true, hs, Int.toNat_natCast, tn4] at q) <;> (try (exfalso; omega)))
    | (refine b192_83 (fun q => ?_) (fun q => ?_) <;> (try simp (disch := (first | assumption | omega | (unfold i32; omega) | (unfold i64; omega))) only [iZ_add, iZ_sub, iZ_mul, iZ_neg, lZ_add, lZ_sub, lZ_mul, lZ_neg, lZ_i, iZ_l, iZ_nat, Int.toNat_natCast, iZ_bit, iZ_shl, iZ_or, iZ_lt, iZ_le, iZ_eq, iZ_lt0, iZ_le0, iZ_gt0, iZ_ge0, iZ_eq0, cmp_eq0, cmp_lt0, cmp_le0, cmp_ge0, cmp_gt0, tf_0, tf_n0, Decidable.not_not, not_true_eq_false, not_false_eq_true, hs, Int.toNat_natCast, tn4] at q) <;> (try (exfalso; omega)))
    | refine b192_98 ?_
    | refine b192_104 ?_
    | (refine b192_122 (by first | assumption | (repeat' (first | assumption | refine mGs ?_ | refine mGn (by omega) ?_))) (fun q => ?_) (fun q => ?_) <;> (try simp (disch := (first | assumption | omega | (unfold i32; omega) | (unfold i64; omega))) only [iZ_add, iZ_sub, iZ_mul, iZ_neg, lZ_add, lZ_sub, lZ_mul, lZ_neg, lZ_i, iZ_l, iZ_nat, Int.toNat_natCast, iZ_bit, iZ_shl, iZ_or, iZ_lt, iZ_le, iZ_eq, iZ_lt0, iZ_le0, iZ_gt0, iZ_ge0, iZ_eq0, cmp_eq0, cmp_lt0, cmp_le0, cmp_ge0, cmp_gt0, tf_0, tf_n0, Decidable.not_not, not_true_eq_false, not_false_eq_true, hs, Int.toNat_natCast, tn4] at q) <;> (try (exfalso; omega)))
    | refine b192_115 (by first | assumption | (repeat' (first | assumption | refine mGs ?_ | refine mGn (by omega) ?_))) ?_
    | refine b192_91 ?_
    | refine b192_87 ?_
    | refine b192_133 ?_
    | refine b192_129 ?_)
  · rw [if_neg hA] at hq0
    repeat' (first
    | refine en192 ?_
    | exact hq0
    | refine r138 hr ha ?_
    | exact iZ_in (by omega) (by omega) (by decide)
    | simp (disch := (first | assumption | omega | (unfold i32; omega) | (unfold i64; omega))) only [iZ_add, iZ_sub, iZ_mul, iZ_neg, lZ_add, lZ_sub, lZ_mul, lZ_neg, lZ_i, iZ_l, iZ_nat, Int.toNat_natCast, iZ_bit, iZ_shl, iZ_or, iZ_lt, iZ_le, iZ_eq, iZ_lt0, iZ_le0, iZ_gt0, iZ_ge0, iZ_eq0, cmp_eq0, cmp_lt0, cmp_le0, cmp_ge0, cmp_gt0, tf_0, tf_n0, Decidable.not_not, not_true_eq_false, not_false_eq_true, hs, Int.toNat_natCast, tn4]
    | refine b192_0 (by first | assumption | (repeat' (first | assumption | refine mGs ?_ | refine mGn (by omega) ?_))) ?_
    | (refine b192_5 (fun q => ?_) (fun q => ?_) <;> (try simp (disch := (first | assumption | omega | (unfold i32; omega) | (unfold i64; omega))) only [iZ_add, iZ_sub, iZ_mul, iZ_neg, lZ_add, lZ_sub, lZ_mul, lZ_neg, lZ_i, iZ_l, iZ_nat, Int.toNat_natCast, iZ_bit, iZ_shl, iZ_or, iZ_lt, iZ_le, iZ_eq, iZ_lt0, iZ_le0, iZ_gt0, iZ_ge0, iZ_eq0, cmp_eq0, cmp_lt0, cmp_le0, cmp_ge0, cmp_gt0, tf_0, tf_n0, Decidable.not_not, not_true_eq_false, not_false_eq_true, hs, Int.toNat_natCast, tn4] at q) <;> (try (exfalso; omega)))
    | refine b192_19 ?_
    | refine b192_8 (by first | assumption | (repeat' (first | assumption | refine mGs ?_ | refine mGn (by omega) ?_))) ?_
    | (refine b192_16 (fun q => ?_) (fun q => ?_) <;> (try simp (disch := (first | assumption | omega | (unfold i32; omega) | (unfold i64; omega))) only [iZ_add, iZ_sub, iZ_mul, iZ_neg, lZ_add, lZ_sub, lZ_mul, lZ_neg, lZ_i, iZ_l, iZ_nat, Int.toNat_natCast, iZ_bit, iZ_shl, iZ_or, iZ_lt, iZ_le, iZ_eq, iZ_lt0, iZ_le0, iZ_gt0, iZ_ge0, iZ_eq0, cmp_eq0, cmp_lt0, cmp_le0, cmp_ge0, cmp_gt0, tf_0, tf_n0, Decidable.not_not, not_true_eq_false, not_false_eq_true, hs, Int.toNat_natCast, tn4] at q) <;> (try (exfalso; omega)))
    | refine b192_105 (by first | assumption | (repeat' (first | assumption | refine mGs ?_ | refine mGn (by omega) ?_))) ?_
    | refine b192_64 (by first | assumption | (repeat' (first | assumption | refine mGs ?_ | refine mGn (by omega) ?_))) (by first | assumption | (repeat' (first | assumption | refine mGs ?_ | refine mGn (by omega) ?_))) ?_ ?_
    | refine b192_71 (by first | assumption | (repeat' (first | assumption | refine mGs ?_ | refine mGn (by omega) ?_))) (by first | assumption | (repeat' (first | assumption | refine mGs ?_ | refine mGn (by omega) ?_))) ?_ ?_
    | refine b192_78 (by first | assumption | (repeat' (first | assumption | refine mGs ?_ | refine mGn (by omega) ?_))) ?_
    | refine b192_93 (by first | assumption | (repeat' (first | assumption | refine mGs ?_ | refine mGn (by omega) ?_))) ?_
    | refine b192_99 (by first | assumption | (repeat' (first | assumption | refine mGs ?_ | refine mGn (by omega) ?_))) ?_
    | (refine b192_110 (fun q => ?_) (fun q => ?_) <;> (try simp (disch := (first | assumption | omega | (unfold i32; omega) | (unfold i64; omega))) only [iZ_add, iZ_sub, iZ_mul, iZ_neg, lZ_add, lZ_sub, lZ_mul, lZ_neg, lZ_i, iZ_l, iZ_nat, Int.toNat_natCast, iZ_bit, iZ_shl, iZ_or, iZ_lt, iZ_le, iZ_eq, iZ_lt0, iZ_le0, iZ_gt0, iZ_ge0, iZ_eq0, cmp_eq0, cmp_lt0, cmp_le0, cmp_ge0, cmp_gt0, tf_0, tf_n0, Decidable.not_not, not_true_eq_false, not_false_eq_true, hs, Int.toNat_natCast, tn4] at q) <;> (try (exfalso; omega)))
    | (refine b192_83 (fun q => ?_) (fun q => ?_) <;> (try simp (disch := (first | assumption | omega | (unfold i32; omega) | (unfold i64; omega))) only [iZ_add, iZ_sub, iZ_mul, iZ_neg, lZ_add, lZ_sub, lZ_mul, lZ_neg, lZ_i, iZ_l, iZ_nat, Int.toNat_natCast, iZ_bit, iZ_shl, iZ_or, iZ_lt, iZ_le, iZ_eq, iZ_lt0, iZ_le0, iZ_gt0, iZ_ge0, iZ_eq0, cmp_eq0, cmp_lt0, cmp_le0, cmp_ge0, cmp_gt0, tf_0, tf_n0, Decidable.not_not, not_true_eq_false, not_false_eq_true, hs, Int.toNat_natCast, tn4] at q) <;> (try (exfalso; omega)))
    | refine b192_98 ?_
    | refine b192_104 ?_
    | (refine b192_122 (by first | assumption | (repeat' (first | assumption | refine mGs ?_ | refine mGn (by omega) ?_))) (fun q => ?_) (fun q => ?_) <;> (try simp (disch := (first | assumption | omega | (unfold i32; omega) | (unfold i64; omega))) only [iZ_add, iZ_sub, iZ_mul, iZ_neg, lZ_add, lZ_sub, lZ_mul, lZ_neg, lZ_i, iZ_l, iZ_nat, Int.toNat_natCast, iZ_bit, iZ_shl, iZ_or, iZ_lt, iZ_le, iZ_eq, iZ_lt0, iZ_le0, iZ_gt0, iZ_ge0, iZ_eq0, cmp_eq0, cmp_lt0, cmp_le0, cmp_ge0, cmp_gt0, tf_0, tf_n0, Decidable.not_not, not_true_eq_false, not_false_eq_true, hs, Int.toNat_natCast, tn4] at q) <;> (try (exfalso; omega)))
    | refine b192_115 (by first | assumption | (repeat' (first | assumption | refine mGs ?_ | refine mGn (by omega) ?_))) ?_
    | refine b192_91 ?_
    | refine b192_87 ?_
    | refine b192_133 ?_
    | refine b192_129 ?_)
end MQ
