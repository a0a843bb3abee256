/-! ===== the reference: write, check ===== -/

def WrS (h h' : mH) : Prop := Eqx (23 :: KA) h h' ∧ RX h' ∧ ∀ v cor bA bB rw_ bo, h[14]? = some (oM v cor bA bB rw_ bo) → ∃ cor' bA' bB' rw', h'[14]? = some (oM v cor' bA' bB' rw' bo)
def sWr (c : Nat) (sz : Nat → Nat) (W : Nat → Nat → Int) (a : Int) (r : Nat) (f : Nat → Int64) : Nat × (Nat → Int64) := if 0 ≤ a ∧ a < c then (prfN (sz a.toNat), fun k => lZ (prfF (sz a.toNat) (W a.toNat) k)) else (r, f)
def sWrite (c : Nat) (sz : Nat → Nat) (a : Int) : Int := if 0 ≤ a ∧ a < c then (prfN (sz a.toNat) : Int) else -2
def chkP (n : Nat) (w : Nat → Int) (r : Nat) (f : Nat → Int64) (k : Nat) : Option Int := if k < prfN n ∧ k < r ∧ f k = lZ (prfF n w k) then none else some (k : Int)
def sCheck (c : Nat) (sz : Nat → Nat) (W : Nat → Nat → Int) (r : Nat) (f : Nat → Int64) (a : Int) : Int := if 0 ≤ a ∧ a < c then (fst1 (chkP (sz a.toNat) (W a.toNat) r f) (max (prfN (sz a.toNat)) r)).getD (-1) else -2
theorem lgc0 (x y : Int64) : lg_cmp x y = 0 ↔ x = y := by
  have ex : lZ x.toInt = x := Int64.ofInt_toInt x
  have ey : lZ y.toInt = y := Int64.ofInt_toInt y
  have ix : i64 x.toInt := ⟨by have := Int64.minValue_le_toInt x; simpa using this, by have := Int64.toInt_lt x; omega⟩
  have iy : i64 y.toInt := ⟨by have := Int64.minValue_le_toInt y; simpa using this, by have := Int64.toInt_lt y; omega⟩
  constructor
  · intro h
    rw [← ex, ← ey, cmp_eq0 ix iy] at h
    rw [← ex, ← ey, h]
  · intro h
    subst h
    rw [← ex, cmp_eq0 ix ix]
section MQ
variable {h h' : mH} {Q : Option Value → mH → Prop} {i n c r : Nat} {w : Nat → Int} {kd sz : Nat → Nat} {W : Nat → Nat → Int} {a p s y k q : Int} {f : Nat → Int64}
theorem r196 (hr : RV h c kd sz W) (hx : RX h) (hp : RR h r f) (ha : i32 a) (hq : ∀ h', WrS h h' → RR h' (sWr c sz W a r f).1 (sWr c sz W a r f).2 → Q (some (.int (iZ (sWrite c sz a)))) h') : mCt mCd 196 [.ref 14, .int (iZ a)] h Q := by
  obtain ⟨cor, bA, bB, rw_, bo, e1⟩ := hr.o
  have hs : True := trivial
  unfold sWr sWrite at hq
  by_cases hA : 0 ≤ a ∧ a < c
  · simp only [if_pos hA] at hq
    obtain ⟨i, rfl⟩ : ∃ m : Nat, a = m := ⟨a.toNat, by omega⟩
    have hi : i < c := by omega
    have hv := hr.mv hi
    obtain ⟨hi11, ⟨hn1, hn4⟩, hwb, -⟩ := id hv
    simp only [Int.toNat_natCast] at hq
    have hN := (prfN_b (sz i) hn4).2
    obtain ⟨_, _, _, _, _, _, gr, er, e23, _⟩ := hp
    refine en196 (b196_0 e1 (r138 hr ha (b196_5 (fun _ => b196_11 e1 (c195 hv e1 hx (fun h1 pf ask g24 hf => ?_))) (fun q => ?_))))
    · obtain ⟨c9, b9, b10, e9⟩ := ask.2.2 _ _ _ _ _ _ e1
      have lp : ∀ k : Nat, k ≤ prfN (sz i) → ∀ h2 g, Eqx [14, 23] h1 h2 → h2[14]? = some (oM (iZ c) c9 b9 b10 (iZ (prfN (sz i))) bo) → h2[23]? = some (aL 32 g) → (∀ j, j < k → g j = lZ (prfF (sz i) (W i) j)) → mWp mCd 196 (22, [some (.ref 14), none, some (.int (iZ k))], [], h2, 0, 0) Q := by
        refine lp_up _ ?_ ?_
        · intro h2 g hx2 d1 d2 hg
          refine b196_22 d1 (fun _ => b196_48 d1 ?_) (fun q => absurd (Int32.le_refl _) q)
          refine hq h2 ⟨(ask.1.mo (by decide)).tr (hx2.mo (by decide)), ?_, ?_⟩ ⟨hN, iZ c, c9, b9, b10, bo, g, d1, d2, hg⟩
          · obtain ⟨g9, fa9, fu9, wa9, wb9, pf9, y1, y2, y3, y4, y5, y6⟩ := ask.2.1
            exact ⟨g9, fa9, fu9, wa9, wb9, pf9, (hx2.2 18 (by decide)).trans y1, (hx2.2 19 (by decide)).trans y2, (hx2.2 20 (by decide)).trans y3, (hx2.2 21 (by decide)).trans y4, (hx2.2 22 (by decide)).trans y5, (hx2.2 24 (by decide)).trans y6⟩
          · intro v' cor' bA' bB' rw' bo' e
            obtain ⟨q1, q2, q3, q4, q5, q6⟩ := oM_inj (e.symm.trans e1)
            subst q1 q6
            exact ⟨_, _, _, _, d1⟩
        · intro k hk ih h2 g hx2 d1 d2 hg
          have g24' := (hx2.2 24 (by decide)).trans g24
          have tn : (iZ k).toNatClampNeg = k := by rw [iZ_nat (by omega) (by omega)]; omega
          refine b196_22 d1 (fun q => ?_) (fun _ => b196_30 d1 g24' (iZ_in (by omega) (by omega) (by decide)) d2 ?_)
          · simp (disch := (first | assumption | omega | (unfold i32; omega) | (unfold i64; omega))) only [iZ_add, iZ_sub, iZ_mul, iZ_neg, lZ_add, lZ_sub, lZ_mul, lZ_neg, lZ_i, iZ_l, iZ_nat, Int.toNat_natCast, iZ_bit, iZ_shl, iZ_or, iZ_lt, iZ_le, iZ_eq, iZ_lt0, iZ_le0, iZ_gt0, iZ_ge0, iZ_eq0, cmp_eq0, cmp_lt0, cmp_le0, cmp_ge0, cmp_gt0, tf_0, tf_n0, Decidable.not_not, not_true_eq_false, not_false_eq_true, hs, Int.toNat_natCast] at q
            omega
          · rw [tn, iZ_add]
            refine ih _ _ (hx2.st _ (by simp)) (mGn (by decide) d1) (mGs d2) (fun j hj => ?_)
            by_cases k1 : j = k
            · subst k1
              rw [upd_e]
              exact hf j hk
            · rw [upd_n _ _ k1]
              exact hg j (by omega)
      refine b196_17 e9 ?_
      exact lp 0 (Nat.zero_le _) _ gr ((Eqx.rf _ _).st _ (by simp)) (mGs e9) (mGn (by decide) ((ask.1.2 23 (by decide)).trans e23)) (fun j hj => absurd hj (Nat.not_lt_zero _))
    · simp (disch := (first | assumption | omega | (unfold i32; omega) | (unfold i64; omega))) only [iZ_add, iZ_sub, iZ_mul, iZ_neg, lZ_add, lZ_sub, lZ_mul, lZ_neg, lZ_i, iZ_l, iZ_nat, Int.toNat_natCast, iZ_bit, iZ_shl, iZ_or, iZ_lt, iZ_le, iZ_eq, iZ_lt0, iZ_le0, iZ_gt0, iZ_ge0, iZ_eq0, cmp_eq0, cmp_lt0, cmp_le0, cmp_ge0, cmp_gt0, tf_0, tf_n0, Decidable.not_not, not_true_eq_false, not_false_eq_true, hs, Int.toNat_natCast] at q
      omega
  · simp only [if_neg hA] at hq
    have hq0 := hq h ⟨Eqx.rf _ _, hx, fun v cor bA bB rw_ bo e => ⟨cor, bA, bB, rw_, e⟩⟩ hp
    repeat' (first
    | refine en196 ?_
    | exact hq0
    | refine r138 hr ha ?_
    | exact iZ_in (by omega) (by omega) (by decide)
    | simp (disch := (first | assumption | omega | (unfold i32; omega) | (unfold i64; omega))) only [iZ_add, iZ_sub, iZ_mul, iZ_neg, lZ_add, lZ_sub, lZ_mul, lZ_neg, lZ_i, iZ_l, iZ_nat, Int.toNat_natCast, iZ_bit, iZ_shl, iZ_or, iZ_lt, iZ_le, iZ_eq, iZ_lt0, iZ_le0, iZ_gt0, iZ_ge0, iZ_eq0, cmp_eq0, cmp_lt0, cmp_le0, cmp_ge0, cmp_gt0, tf_0, tf_n0, Decidable.not_not, not_true_eq_false, not_false_eq_true, hs, Int.toNat_natCast]
    | refine b196_0 (by first | assumption | (repeat' (first | assumption | refine mGs ?_ | refine mGn (by omega) ?_))) ?_
    | (refine b196_5 (fun q => ?_) (fun q => ?_) <;> (try simp (disch := (first | assumption | omega | (unfold i32; omega) | (unfold i64; omega))) only [iZ_add, iZ_sub, iZ_mul, iZ_neg, lZ_add, lZ_sub, lZ_mul, lZ_neg, lZ_i, iZ_l, iZ_nat, Int.toNat_natCast, iZ_bit, iZ_shl, iZ_or, iZ_lt, iZ_le, iZ_eq, iZ_lt0, iZ_le0, iZ_gt0, iZ_ge0, iZ_eq0, cmp_eq0, cmp_lt0, cmp_le0, cmp_ge0, cmp_gt0, tf_0, tf_n0, Decidable.not_not, not_true_eq_false, not_false_eq_true, hs, Int.toNat_natCast] at q) <;> (try (exfalso; omega)))
    | refine b196_8 ?_)
theorem r199 (hr : RV h c kd sz W) (hx : RX h) (hp : RR h r f) (ha : i32 a) (hq : ∀ h', AskS h h' → Q (some (.int (iZ (sCheck c sz W r f a)))) h') : mCt mCd 199 [.ref 14, .int (iZ a)] h Q := by
  obtain ⟨cor, bA, bB, rw_, bo, e1⟩ := hr.o
  have hs : True := trivial
  unfold sCheck at hq
  by_cases hA : 0 ≤ a ∧ a < c
  · simp only [if_pos hA] at hq
    obtain ⟨i, rfl⟩ : ∃ m : Nat, a = m := ⟨a.toNat, by omega⟩
    have hi : i < c := by omega
    have hv := hr.mv hi
    obtain ⟨hi11, ⟨hn1, hn4⟩, hwb, -⟩ := id hv
    simp only [Int.toNat_natCast] at hq
    have hN := (prfN_b (sz i) hn4).2
    obtain ⟨hr25, _, _, _, _, _, gr, er, e23, hgr⟩ := hp
    obtain ⟨_, _, _, _, q5, _⟩ := oM_inj (e1.symm.trans er)
    subst q5
    refine en199 (b199_0 e1 (r138 hr ha (b199_5 (fun _ => b199_11 e1 (c195 hv e1 hx (fun h1 pf ask g24 hf => b199_16 ?_))) (fun q => ?_))))
    · obtain ⟨c9, b9, b10, e9⟩ := ask.2.2 _ _ _ _ _ _ e1
      have hq1 := hq h1 ask
      have d23 := (ask.1.2 23 (by decide)).trans e23
      generalize hNN : prfN (sz i) = N at *
      have lp : ∀ k : Nat, k ≤ max N r → fst1 (chkP (sz i) (W i) r f) k = none → mWp mCd 199 (19, [some (.ref 14), none, some (.int (iZ N)), some (.int (iZ k))], [], h1, 0, 0) Q := by
        refine lp_up _ ?_ ?_
        · intro hnone
          rw [hnone] at hq1
          refine b199_19 (fun q => ?_) (fun _ => b199_24 e9 (fun _ => b199_69 hq1) (fun q => ?_))
          · simp (disch := (first | assumption | omega | (unfold i32; omega) | (unfold i64; omega))) only [iZ_add, iZ_sub, iZ_mul, iZ_neg, lZ_add, lZ_sub, lZ_mul, lZ_neg, lZ_i, iZ_l, iZ_nat, Int.toNat_natCast, iZ_bit, iZ_shl, iZ_or, iZ_lt, iZ_le, iZ_eq, iZ_lt0, iZ_le0, iZ_gt0, iZ_ge0, iZ_eq0, cmp_eq0, cmp_lt0, cmp_le0, cmp_ge0, cmp_gt0, tf_0, tf_n0, Decidable.not_not, not_true_eq_false, not_false_eq_true, hs, Int.toNat_natCast] at q
            omega
          · simp (disch := (first | assumption | omega | (unfold i32; omega) | (unfold i64; omega))) only [iZ_add, iZ_sub, iZ_mul, iZ_neg, lZ_add, lZ_sub, lZ_mul, lZ_neg, lZ_i, iZ_l, iZ_nat, Int.toNat_natCast, iZ_bit, iZ_shl, iZ_or, iZ_lt, iZ_le, iZ_eq, iZ_lt0, iZ_le0, iZ_gt0, iZ_ge0, iZ_eq0, cmp_eq0, cmp_lt0, cmp_le0, cmp_ge0, cmp_gt0, tf_0, tf_n0, Decidable.not_not, not_true_eq_false, not_false_eq_true, hs, Int.toNat_natCast] at q
            omega
        · intro k hk ih hnone
          have tn : (iZ k).toNatClampNeg = k := by rw [iZ_nat (by omega) (by omega)]; omega
          have hin : ¬ (iZ k < 0 ∨ 32 ≤ (iZ k).toNatClampNeg) := iZ_in (by omega) (by omega) (by decide)
          have some_ : ¬ (k < N ∧ k < r ∧ f k = lZ (prfF (sz i) (W i) k)) → Q (some (.int (iZ k))) h1 := by
            intro hc
            have hP : chkP (sz i) (W i) r f k = some (k : Int) := by
              unfold chkP
              rw [hNN, if_neg hc]
            rw [fst1_at hnone hP hk] at hq1
            exact hq1
          have mid : mWp mCd 199 (32, [some (.ref 14), none, some (.int (iZ N)), some (.int (iZ k))], [], h1, 0, 0) Q := by
            refine b199_32 (fun q => b199_61 (some_ ?_)) (fun q => b199_37 e9 (fun q2 => b199_61 (some_ ?_)) (fun q2 => b199_45 e9 d23 hin g24 (fun q3 => b199_63 ?_) (fun q3 => b199_61 (some_ ?_))))
            · simp (disch := (first | assumption | omega | (unfold i32; omega) | (unfold i64; omega))) only [iZ_add, iZ_sub, iZ_mul, iZ_neg, lZ_add, lZ_sub, lZ_mul, lZ_neg, lZ_i, iZ_l, iZ_nat, Int.toNat_natCast, iZ_bit, iZ_shl, iZ_or, iZ_lt, iZ_le, iZ_eq, iZ_lt0, iZ_le0, iZ_gt0, iZ_ge0, iZ_eq0, cmp_eq0, cmp_lt0, cmp_le0, cmp_ge0, cmp_gt0, tf_0, tf_n0, Decidable.not_not, not_true_eq_false, not_false_eq_true, hs, Int.toNat_natCast] at q
              omega
            · simp (disch := (first | assumption | omega | (unfold i32; omega) | (unfold i64; omega))) only [iZ_add, iZ_sub, iZ_mul, iZ_neg, lZ_add, lZ_sub, lZ_mul, lZ_neg, lZ_i, iZ_l, iZ_nat, Int.toNat_natCast, iZ_bit, iZ_shl, iZ_or, iZ_lt, iZ_le, iZ_eq, iZ_lt0, iZ_le0, iZ_gt0, iZ_ge0, iZ_eq0, cmp_eq0, cmp_lt0, cmp_le0, cmp_ge0, cmp_gt0, tf_0, tf_n0, Decidable.not_not, not_true_eq_false, not_false_eq_true, hs, Int.toNat_natCast] at q2
              omega
            · simp (disch := (first | assumption | omega | (unfold i32; omega) | (unfold i64; omega))) only [iZ_add, iZ_sub, iZ_mul, iZ_neg, lZ_add, lZ_sub, lZ_mul, lZ_neg, lZ_i, iZ_l, iZ_nat, Int.toNat_natCast, iZ_bit, iZ_shl, iZ_or, iZ_lt, iZ_le, iZ_eq, iZ_lt0, iZ_le0, iZ_gt0, iZ_ge0, iZ_eq0, cmp_eq0, cmp_lt0, cmp_le0, cmp_ge0, cmp_gt0, tf_0, tf_n0, Decidable.not_not, not_true_eq_false, not_false_eq_true, hs, Int.toNat_natCast] at q
              simp (disch := (first | assumption | omega | (unfold i32; omega) | (unfold i64; omega))) only [iZ_add, iZ_sub, iZ_mul, iZ_neg, lZ_add, lZ_sub, lZ_mul, lZ_neg, lZ_i, iZ_l, iZ_nat, Int.toNat_natCast, iZ_bit, iZ_shl, iZ_or, iZ_lt, iZ_le, iZ_eq, iZ_lt0, iZ_le0, iZ_gt0, iZ_ge0, iZ_eq0, cmp_eq0, cmp_lt0, cmp_le0, cmp_ge0, cmp_gt0, tf_0, tf_n0, Decidable.not_not, not_true_eq_false, not_false_eq_true, hs, Int.toNat_natCast] at q2
              rw [tn, lgc0, hgr k (by omega), hf k (by omega)] at q3
              rw [iZ_add]
              refine ih (fst1_go hnone ?_)
              unfold chkP
              rw [hNN, if_pos ⟨by omega, by omega, q3⟩]
            · simp (disch := (first | assumption | omega | (unfold i32; omega) | (unfold i64; omega))) only [iZ_add, iZ_sub, iZ_mul, iZ_neg, lZ_add, lZ_sub, lZ_mul, lZ_neg, lZ_i, iZ_l, iZ_nat, Int.toNat_natCast, iZ_bit, iZ_shl, iZ_or, iZ_lt, iZ_le, iZ_eq, iZ_lt0, iZ_le0, iZ_gt0, iZ_ge0, iZ_eq0, cmp_eq0, cmp_lt0, cmp_le0, cmp_ge0, cmp_gt0, tf_0, tf_n0, Decidable.not_not, not_true_eq_false, not_false_eq_true, hs, Int.toNat_natCast] at q
              simp (disch := (first | assumption | omega | (unfold i32; omega) | (unfold i64; omega))) only [iZ_add, iZ_sub, iZ_mul, iZ_neg, lZ_add, lZ_sub, lZ_mul, lZ_neg, lZ_i, iZ_l, iZ_nat, Int.toNat_natCast, iZ_bit, iZ_shl, iZ_or, iZ_lt, iZ_le, iZ_eq, iZ_lt0, iZ_le0, iZ_gt0, iZ_ge0, iZ_eq0, cmp_eq0, cmp_lt0, cmp_le0, cmp_ge0, cmp_gt0, tf_0, tf_n0, Decidable.not_not, not_true_eq_false, not_false_eq_true, hs, Int.toNat_natCast] at q2
              rw [tn, lgc0, hgr k (by omega), hf k (by omega)] at q3
              exact fun hc => q3 hc.2.2
          refine b199_19 (fun _ => mid) (fun q => b199_24 e9 (fun q2 => ?_) (fun _ => mid))
          simp (disch := (first | assumption | omega | (unfold i32; omega) | (unfold i64; omega))) only [iZ_add, iZ_sub, iZ_mul, iZ_neg, lZ_add, lZ_sub, lZ_mul, lZ_neg, lZ_i, iZ_l, iZ_nat, Int.toNat_natCast, iZ_bit, iZ_shl, iZ_or, iZ_lt, iZ_le, iZ_eq, iZ_lt0, iZ_le0, iZ_gt0, iZ_ge0, iZ_eq0, cmp_eq0, cmp_lt0, cmp_le0, cmp_ge0, cmp_gt0, tf_0, tf_n0, Decidable.not_not, not_true_eq_false, not_false_eq_true, hs, Int.toNat_natCast] at q
          simp (disch := (first | assumption | omega | (unfold i32; omega) | (unfold i64; omega))) only [iZ_add, iZ_sub, iZ_mul, iZ_neg, lZ_add, lZ_sub, lZ_mul, lZ_neg, lZ_i, iZ_l, iZ_nat, Int.toNat_natCast, iZ_bit, iZ_shl, iZ_or, iZ_lt, iZ_le, iZ_eq, iZ_lt0, iZ_le0, iZ_gt0, iZ_ge0, iZ_eq0, cmp_eq0, cmp_lt0, cmp_le0, cmp_ge0, cmp_gt0, tf_0, tf_n0, Decidable.not_not, not_true_eq_false, not_false_eq_true, hs, Int.toNat_natCast] at q2
          omega
      exact lp 0 (Nat.zero_le _) rfl
    · simp (disch := (first | assumption | omega | (unfold i32; omega) | (unfold i64; omega))) only [iZ_add, iZ_sub, iZ_mul, iZ_neg, lZ_add, lZ_sub, lZ_mul, lZ_neg, lZ_i, iZ_l, iZ_nat, Int.toNat_natCast, iZ_bit, iZ_shl, iZ_or, iZ_lt, iZ_le, iZ_eq, iZ_lt0, iZ_le0, iZ_gt0, iZ_ge0, iZ_eq0, cmp_eq0, cmp_lt0, cmp_le0, cmp_ge0, cmp_gt0, tf_0, tf_n0, Decidable.not_not, not_true_eq_false, not_false_eq_true, hs, Int.toNat_natCast] at q
      omega
  · simp only [if_neg hA] at hq
    have hq0 := hq h (AskS.rf hx)
    repeat' (first
    | refine en199 ?_
    | exact hq0
    | refine r138 hr ha ?_
    | exact iZ_in (by omega) (by omega) (by decide)
    | simp (disch := (first | assumption | omega | (unfold i32; omega) | (unfold i64; omega))) only [iZ_add, iZ_sub, iZ_mul, iZ_neg, lZ_add, lZ_sub, lZ_mul, lZ_neg, lZ_i, iZ_l, iZ_nat, Int.toNat_natCast, iZ_bit, iZ_shl, iZ_or, iZ_lt, iZ_le, iZ_eq, iZ_lt0, iZ_le0, iZ_gt0, iZ_ge0, iZ_eq0, cmp_eq0, cmp_lt0, cmp_le0, cmp_ge0, cmp_gt0, tf_0, tf_n0, Decidable.not_not, not_true_eq_false, not_false_eq_true, hs, Int.toNat_natCast]
    | refine b199_0 (by first | assumption | (repeat' (first | assumption | refine mGs ?_ | refine mGn (by omega) ?_))) ?_
    | (refine b199_5 (fun q => ?_) (fun q => ?_) <;> (try simp (disch := (first | assumption | omega | (unfold i32; omega) | (unfold i64; omega))) only [iZ_add, iZ_sub, iZ_mul, iZ_neg, lZ_add, lZ_sub, lZ_mul, lZ_neg, lZ_i, iZ_l, iZ_nat, Int.toNat_natCast, iZ_bit, iZ_shl, iZ_or, iZ_lt, iZ_le, iZ_eq, iZ_lt0, iZ_le0, iZ_gt0, iZ_ge0, iZ_eq0, cmp_eq0, cmp_lt0, cmp_le0, cmp_ge0, cmp_gt0, tf_0, tf_n0, Decidable.not_not, not_true_eq_false, not_false_eq_true, hs, Int.toNat_natCast] at q) <;> (try (exfalso; omega)))
    | refine b199_8 ?_)
end MQ
