/-! ===== the reference: makers ===== -/

theorem tn16 (c s : Nat) : ((16 : Int) * (c : Int) + (s : Int)).toNat = 16 * c + s := by omega
def fillW (f : Nat → Int) (k : Nat) : Nat → Int := fun s => if 1 ≤ s ∧ s < k then f s else 0
theorem fillW_s {f : Nat → Int} {k : Nat} (hk : 1 ≤ k) : set1 (fillW f k) k (f k) = fillW f (k + 1) := by
  funext s
  unfold set1 fillW
  by_cases z : s = k
  · subst z; rw [if_pos rfl, if_pos (by omega)]
  · rw [if_neg z]
    by_cases z2 : 1 ≤ s ∧ s < k
    · rw [if_pos z2, if_pos (by omega)]
    · rw [if_neg z2, if_neg (by omega)]
theorem fillW_1 (f : Nat → Int) : fillW f 1 = fun _ => 0 := by
  funext s
  unfold fillW
  rw [if_neg (by omega)]
/-- the places of the reference's ventures -/
abbrev K4 : List Nat := [14, 15, 16, 17]
def mkQ (h : mH) (c : Nat) (kd sz : Nat → Nat) (W : Nat → Nat → Int) (Q : Option Value → mH → Prop) : (Int ⊕ (Nat × Nat × (Nat → Int))) → Prop
  | .inl r => ∀ h', Eqx K4 h h' → oMs h h' → RV h' c kd sz W → Q (some (.int (iZ r))) h'
  | .inr (kn, n, f) => ∀ h', Eqx K4 h h' → oMs h h' → RV h' (c + 1) (set1 kd c kn) (set1 sz c n) (set1 W c f) → Q (some (.int (iZ c))) h'
theorem oMs.rf (h : mH) : oMs h h := fun v cor bA bB rw_ bo e => ⟨v, e⟩
theorem oMs.tr {h h1 h2 : mH} (a : oMs h h1) (b : oMs h1 h2) : oMs h h2 := fun v cor bA bB rw_ bo e => by
  obtain ⟨v', e'⟩ := a v cor bA bB rw_ bo e
  exact b v' cor bA bB rw_ bo e'
theorem oMs.eq {h h1 : mH} (e : h1[14]? = h[14]?) : oMs h h1 := fun v cor bA bB rw_ bo e' => ⟨v, by rw [e]; exact e'⟩
def wtB (n : Nat) (f : Nat → Int) : Prop := ∀ s, bd 16000 (fillW f (2 ^ n) s)
section MM
variable {h h' : mH} {Q : Option Value → mH → Prop} {i n m c kn : Nat} {w f : Nat → Int} {kd sz : Nat → Nat} {W : Nat → Nat → Int} {a p s y k q : Int}
theorem mkQ.no {r : Int} (hq : mkQ h c kd sz W Q (.inl r)) (hr : RV h c kd sz W) : Q (some (.int (iZ r))) h := hq h (Eqx.rf _ _) (oMs.rf _) hr
theorem RB.fill {g : Nat → Int64} {k : Nat} (hr : RB h (c + 1) c kd sz (set1 W c (fillW f k))) (e : h[17]? = some (aL 176 g)) (hk : 1 ≤ k ∧ k < 16) : RB (h.set 17 (aL 176 (vp_updL g (16 * c + k) (lZ (f k))))) (c + 1) c kd sz (set1 W c (fillW f (k + 1))) := by
  have := hr.put (i := c) (s := k) (x := f k) e (Or.inl (Nat.le_refl c)) hk.2
  rw [set1_e, set1_s, fillW_s hk.1] at this
  exact this
theorem RB.o (hr : RB h m c kd sz W) : ∃ (cor : Int32) (bA bB : Int64) (rw_ bo : Int32) (g : Nat → Int64), h[14]? = some (oM (iZ c) cor bA bB rw_ bo) ∧ h[17]? = some (aL 176 g) := by
  obtain ⟨hc, hb, cor, bA, bB, rw_, bo, fk, fs, g, e1, e2, e3, e4, hf⟩ := hr
  exact ⟨cor, bA, bB, rw_, bo, g, e1, e4⟩
/-- the slot is filled: it becomes a venture -/
theorem mkEnd {h1 : mH} (hr : RB h1 (c + 1) c (set1 kd c kn) (set1 sz c n) (set1 W c (fillW f (2 ^ n)))) (hx : Eqx [15, 16, 17] h h1) (hc : c < 10) (hk : kn ≤ 4) (hn : 1 ≤ n ∧ n ≤ 4) (hw : wtB n f) (hq : mkQ h c kd sz W Q (.inr (kn, n, fillW f (2 ^ n)))) : mCt mCd 146 [.ref 14] h1 Q := by
  refine c146 hr hc ⟨by rw [set1_e]; exact hk, by rw [set1_e]; exact hn, by rw [set1_e]; exact hw⟩ (fun h2 x2 o2 r2 => ?_)
  exact hq h2 ((hx.mo (by decide)).tr (x2.mo (by decide))) ((oMs.eq (hx.2 14 (by decide))).tr o2) r2
theorem c147 (hr : RV h c kd sz W) (ha : i32 a) (hq : mkQ h c kd sz W Q (if 1 ≤ a ∧ a ≤ 4 then (if c = 10 then .inl (-4) else .inr (0, a.toNat, fillW (fun _ => 0) (2 ^ a.toNat))) else .inl (-2))) : mCt mCd 147 [.ref 14, .int (iZ a)] h Q := by
  obtain ⟨cor, bA, bB, rw_, bo, e1⟩ := hr.o
  have hc := hr.1
  have hs : True := trivial
  split at hq
  · obtain ⟨n, rfl⟩ : ∃ m : Nat, a = m := ⟨a.toNat, by omega⟩
    rw [Int.toNat_natCast] at hq
    split at hq
    · have hq := hq.no hr
      repeat' (first
    | refine en147 ?_
    | exact hq
    | refine c137 (by assumption) (by unfold i32; omega) (by unfold i32; omega) ?_
    | exact iZ_in (by omega) (by omega) (by decide)
    | simp (disch := (first | assumption | omega | (unfold i32; omega) | (unfold i64; omega))) only [iZ_add, iZ_sub, iZ_mul, iZ_neg, lZ_add, lZ_sub, lZ_mul, lZ_neg, lZ_i, iZ_l, iZ_nat, Int.toNat_natCast, iZ_bit, iZ_shl, iZ_or, iZ_lt, iZ_le, iZ_eq, iZ_lt0, iZ_le0, iZ_gt0, iZ_ge0, iZ_eq0, cmp_eq0, cmp_lt0, cmp_le0, cmp_ge0, cmp_gt0, tf_0, tf_n0, Decidable.not_not, not_true_eq_false, not_false_eq_true, hs, Int.toNat_natCast, tn16]
    | refine b147_0 (by first | assumption | (repeat' (first | assumption | refine mGs ?_ | refine mGn (by omega) ?_))) ?_
    | (refine b147_7 (fun q => ?_) (fun q => ?_) <;> (try simp (disch := (first | assumption | omega | (unfold i32; omega) | (unfold i64; omega))) only [iZ_add, iZ_sub, iZ_mul, iZ_neg, lZ_add, lZ_sub, lZ_mul, lZ_neg, lZ_i, iZ_l, iZ_nat, Int.toNat_natCast, iZ_bit, iZ_shl, iZ_or, iZ_lt, iZ_le, iZ_eq, iZ_lt0, iZ_le0, iZ_gt0, iZ_ge0, iZ_eq0, cmp_eq0, cmp_lt0, cmp_le0, cmp_ge0, cmp_gt0, tf_0, tf_n0, Decidable.not_not, not_true_eq_false, not_false_eq_true, hs, Int.toNat_natCast, tn16] at q) <;> (try (exfalso; omega)))
    | (refine b147_13 (by first | assumption | (repeat' (first | assumption | refine mGs ?_ | refine mGn (by omega) ?_))) (fun q => ?_) (fun q => ?_) <;> (try simp (disch := (first | assumption | omega | (unfold i32; omega) | (unfold i64; omega))) only [iZ_add, iZ_sub, iZ_mul, iZ_neg, lZ_add, lZ_sub, lZ_mul, lZ_neg, lZ_i, iZ_l, iZ_nat, Int.toNat_natCast, iZ_bit, iZ_shl, iZ_or, iZ_lt, iZ_le, iZ_eq, iZ_lt0, iZ_le0, iZ_gt0, iZ_ge0, iZ_eq0, cmp_eq0, cmp_lt0, cmp_le0, cmp_ge0, cmp_gt0, tf_0, tf_n0, Decidable.not_not, not_true_eq_false, not_false_eq_true, hs, Int.toNat_natCast, tn16] at q) <;> (try (exfalso; omega)))
    | refine b147_10 ?_
    | refine b147_25 (by first | assumption | (repeat' (first | assumption | refine mGs ?_ | refine mGn (by omega) ?_))) ?_
    | refine b147_22 ?_
    | refine b147_31 (by first | assumption | (repeat' (first | assumption | refine mGs ?_ | refine mGn (by omega) ?_))) ?_
    | refine b147_36 ?_)
    · repeat' (first
    | refine en147 ?_
    | refine c137 (by assumption) (by unfold i32; omega) (by unfold i32; omega) ?_
    | refine c145 (kn := 0) hr (fun h1 x1 r1 => ?_)
    | exact iZ_in (by omega) (by omega) (by decide)
    | simp (disch := (first | assumption | omega | (unfold i32; omega) | (unfold i64; omega))) only [iZ_add, iZ_sub, iZ_mul, iZ_neg, lZ_add, lZ_sub, lZ_mul, lZ_neg, lZ_i, iZ_l, iZ_nat, Int.toNat_natCast, iZ_bit, iZ_shl, iZ_or, iZ_lt, iZ_le, iZ_eq, iZ_lt0, iZ_le0, iZ_gt0, iZ_ge0, iZ_eq0, cmp_eq0, cmp_lt0, cmp_le0, cmp_ge0, cmp_gt0, tf_0, tf_n0, Decidable.not_not, not_true_eq_false, not_false_eq_true, hs, Int.toNat_natCast, tn16]
    | refine b147_0 (by first | assumption | (repeat' (first | assumption | refine mGs ?_ | refine mGn (by omega) ?_))) ?_
    | (refine b147_7 (fun q => ?_) (fun q => ?_) <;> (try simp (disch := (first | assumption | omega | (unfold i32; omega) | (unfold i64; omega))) only [iZ_add, iZ_sub, iZ_mul, iZ_neg, lZ_add, lZ_sub, lZ_mul, lZ_neg, lZ_i, iZ_l, iZ_nat, Int.toNat_natCast, iZ_bit, iZ_shl, iZ_or, iZ_lt, iZ_le, iZ_eq, iZ_lt0, iZ_le0, iZ_gt0, iZ_ge0, iZ_eq0, cmp_eq0, cmp_lt0, cmp_le0, cmp_ge0, cmp_gt0, tf_0, tf_n0, Decidable.not_not, not_true_eq_false, not_false_eq_true, hs, Int.toNat_natCast, tn16] at q) <;> (try (exfalso; omega)))
    | (refine b147_13 (by first | assumption | (repeat' (first | assumption | refine mGs ?_ | refine mGn (by omega) ?_))) (fun q => ?_) (fun q => ?_) <;> (try simp (disch := (first | assumption | omega | (unfold i32; omega) | (unfold i64; omega))) only [iZ_add, iZ_sub, iZ_mul, iZ_neg, lZ_add, lZ_sub, lZ_mul, lZ_neg, lZ_i, iZ_l, iZ_nat, Int.toNat_natCast, iZ_bit, iZ_shl, iZ_or, iZ_lt, iZ_le, iZ_eq, iZ_lt0, iZ_le0, iZ_gt0, iZ_ge0, iZ_eq0, cmp_eq0, cmp_lt0, cmp_le0, cmp_ge0, cmp_gt0, tf_0, tf_n0, Decidable.not_not, not_true_eq_false, not_false_eq_true, hs, Int.toNat_natCast, tn16] at q) <;> (try (exfalso; omega)))
    | refine b147_10 ?_
    | refine b147_25 (by first | assumption | (repeat' (first | assumption | refine mGs ?_ | refine mGn (by omega) ?_))) ?_
    | refine b147_22 ?_)
      obtain ⟨cor, bA, bB, rw_, bo, g, e1', -⟩ := r1.o
      have hz : fillW (fun _ => 0) (2 ^ n) = fun _ => 0 := by
        funext s; unfold fillW; split <;> rfl
      rw [← hz] at r1
      refine b147_31 e1' (mkEnd (f := fun _ => 0) r1 x1 (by omega) (by omega) ⟨by omega, by omega⟩ (fun s => by rw [hz]; exact (show bd 16000 0 by unfold bd; omega)) ?_)
      exact fun h2 x2 o2 r2 => b147_36 (hq h2 x2 o2 r2)
  · have hq := hq.no hr
    repeat' (first
    | refine en147 ?_
    | exact hq
    | refine c137 (by assumption) (by unfold i32; omega) (by unfold i32; omega) ?_
    | exact iZ_in (by omega) (by omega) (by decide)
    | simp (disch := (first | assumption | omega | (unfold i32; omega) | (unfold i64; omega))) only [iZ_add, iZ_sub, iZ_mul, iZ_neg, lZ_add, lZ_sub, lZ_mul, lZ_neg, lZ_i, iZ_l, iZ_nat, Int.toNat_natCast, iZ_bit, iZ_shl, iZ_or, iZ_lt, iZ_le, iZ_eq, iZ_lt0, iZ_le0, iZ_gt0, iZ_ge0, iZ_eq0, cmp_eq0, cmp_lt0, cmp_le0, cmp_ge0, cmp_gt0, tf_0, tf_n0, Decidable.not_not, not_true_eq_false, not_false_eq_true, hs, Int.toNat_natCast, tn16]
    | refine b147_0 (by first | assumption | (repeat' (first | assumption | refine mGs ?_ | refine mGn (by omega) ?_))) ?_
    | (refine b147_7 (fun q => ?_) (fun q => ?_) <;> (try simp (disch := (first | assumption | omega | (unfold i32; omega) | (unfold i64; omega))) only [iZ_add, iZ_sub, iZ_mul, iZ_neg, lZ_add, lZ_sub, lZ_mul, lZ_neg, lZ_i, iZ_l, iZ_nat, Int.toNat_natCast, iZ_bit, iZ_shl, iZ_or, iZ_lt, iZ_le, iZ_eq, iZ_lt0, iZ_le0, iZ_gt0, iZ_ge0, iZ_eq0, cmp_eq0, cmp_lt0, cmp_le0, cmp_ge0, cmp_gt0, tf_0, tf_n0, Decidable.not_not, not_true_eq_false, not_false_eq_true, hs, Int.toNat_natCast, tn16] at q) <;> (try (exfalso; omega)))
    | (refine b147_13 (by first | assumption | (repeat' (first | assumption | refine mGs ?_ | refine mGn (by omega) ?_))) (fun q => ?_) (fun q => ?_) <;> (try simp (disch := (first | assumption | omega | (unfold i32; omega) | (unfold i64; omega))) only [iZ_add, iZ_sub, iZ_mul, iZ_neg, lZ_add, lZ_sub, lZ_mul, lZ_neg, lZ_i, iZ_l, iZ_nat, Int.toNat_natCast, iZ_bit, iZ_shl, iZ_or, iZ_lt, iZ_le, iZ_eq, iZ_lt0, iZ_le0, iZ_gt0, iZ_ge0, iZ_eq0, cmp_eq0, cmp_lt0, cmp_le0, cmp_ge0, cmp_gt0, tf_0, tf_n0, Decidable.not_not, not_true_eq_false, not_false_eq_true, hs, Int.toNat_natCast, tn16] at q) <;> (try (exfalso; omega)))
    | refine b147_10 ?_
    | refine b147_25 (by first | assumption | (repeat' (first | assumption | refine mGs ?_ | refine mGn (by omega) ?_))) ?_
    | refine b147_22 ?_
    | refine b147_31 (by first | assumption | (repeat' (first | assumption | refine mGs ?_ | refine mGn (by omega) ?_))) ?_
    | refine b147_36 ?_)
/-- digit -/
def dg (N b i : Nat) : Nat := N / b ^ i % b
theorem c150 {N b i : Nat} {v cor : Int32} {bA bB : Int64} {rw_ bo : Int32} (e1 : h[14]? = some (oM v cor bA bB rw_ bo)) (hN : N < 2147483648) (hb : b = 21 ∨ b = 51) (hi : i ≤ 4) (hq : Q (some (.int (iZ (dg N b i : Nat)))) h) : mCt mCd 150 [.ref 14, .int (iZ N), .int (iZ b), .int (iZ i)] h Q := by
  have hp : ∀ i, i ≤ 4 → (21 ^ i ≤ 6765201 ∧ 1 ≤ 21 ^ i) ∧ 51 ^ i ≤ 6765201 ∧ 1 ≤ 51 ^ i := by decide
  have hp := hp i hi
  have hpb : 1 ≤ b ^ i ∧ b ^ i ≤ 6765201 := by rcases hb with rfl | rfl <;> omega
  have hbb : 1 ≤ b ∧ b ≤ 51 := by omega
  have e : (b : Int) ^ i = ((b ^ i : Nat) : Int) := (Int.natCast_pow b i).symm
  refine en150 (b150_0 e1 (c149 hi ?_))
  rw [e]
  have hd : (N : Int).tdiv ((b ^ i : Nat) : Int) = ((N / b ^ i : Nat) : Int) := by
    rw [Int.tdiv_eq_ediv_of_nonneg (by omega)]; exact (Int.natCast_ediv N (b ^ i)).symm
  have hle : N / b ^ i ≤ N := Nat.div_le_self _ _
  refine b150_7 ?_ ?_ ?_
  · rw [iZ_eq0 (by unfold i32; omega)]; omega
  · rw [iZ_eq0 (by unfold i32; omega)]; omega
  · rw [iZ_div (a := N) (by unfold i32; omega) (by unfold i32; omega) (by omega), hd]
    unfold dg at hq
    generalize N / b ^ i = D at *
    rw [iZ_rem (a := (D : Int)) (by unfold i32; omega) (by unfold i32; omega) (by omega), Int.tmod_eq_emod_of_nonneg (by omega)]
    exact hq
def vSum (N s n : Nat) : Int := sumTo (fun i => (bt s i : Int) * (dg N 21 i : Nat)) n
def vW (n N : Nat) (q : Int) (s : Nat) : Int := if vSum N s n ≥ q then 1 else 0
theorem vSum_b (N s n : Nat) (hn : n ≤ 4) : 0 ≤ vSum N s n ∧ vSum N s n ≤ 80 := by
  have : ∀ i, 0 ≤ (bt s i : Int) * (dg N 21 i : Nat) ∧ (bt s i : Int) * (dg N 21 i : Nat) ≤ 20 := fun i => by
    have h1 : dg N 21 i < 21 := Nat.mod_lt _ (by decide)
    rcases bt_01 s i with q | q <;> rw [q] <;> simp <;> omega
  have hh : ∀ k : Nat, 0 ≤ vSum N s k ∧ vSum N s k ≤ 20 * k := by
    intro k
    induction k with
    | zero => exact ⟨Int.le_refl 0, Int.le_refl 0⟩
    | succ k ih =>
      have := this k
      show 0 ≤ vSum N s k + (bt s k : Int) * (dg N 21 k : Nat) ∧ vSum N s k + (bt s k : Int) * (dg N 21 k : Nat) ≤ _
      omega
  have := hh n
  omega
theorem l151b {v cor : Int32} {bA bB : Int64} {rw_ bo : Int32} (e1 : h[14]? = some (oM v cor bA bB rw_ bo)) {N s : Nat} {x3 x4 : Int32} (hN : N < 2147483648) (hn : n ≤ 4) (hs16 : s < 16) (hk : mWp mCd 151 (113, [some (.ref 14), some (.int (iZ n)), some (.int (iZ N)), some (.int x3), some (.int x4), some (.int (iZ s)), some (.int (iZ (vSum N s n))), none], [], h, 0, 0) Q) : ∀ i, i ≤ n → mWp mCd 151 (79, [some (.ref 14), some (.int (iZ n)), some (.int (iZ N)), some (.int x3), some (.int x4), some (.int (iZ s)), some (.int (iZ (vSum N s i))), some (.int (iZ i))], [], h, 0, 0) Q := by
  have hs : True := trivial
  refine lp_up n ?_ ?_
  · refine b151_79 (fun _ => hk) (fun q => absurd (Int32.le_refl _) q)
  · intro i hi ih
    have e0 : s / 2 ^ i % 2 = bt s i := rfl
    have hi4 : i < 4 := by omega
    refine b151_79 (fun q => ?_) (fun _ => b151_85 e1 (c150 (b := 21) e1 hN (Or.inl rfl) (by omega) (b151_103 ?_)))
    · simp (disch := (first | assumption | omega | (unfold i32; omega) | (unfold i64; omega))) only [iZ_add, iZ_sub, iZ_mul, iZ_neg, lZ_add, lZ_sub, lZ_mul, lZ_neg, lZ_i, iZ_l, iZ_nat, Int.toNat_natCast, iZ_bit, iZ_shl, iZ_or, iZ_lt, iZ_le, iZ_eq, iZ_lt0, iZ_le0, iZ_gt0, iZ_ge0, iZ_eq0, cmp_eq0, cmp_lt0, cmp_le0, cmp_ge0, cmp_gt0, tf_0, tf_n0, Decidable.not_not, not_true_eq_false, not_false_eq_true, hs, Int.toNat_natCast, tn16] at q
      omega
    · simp (disch := (first | assumption | omega | (unfold i32; omega) | (unfold i64; omega))) only [iZ_add, iZ_sub, iZ_mul, iZ_neg, lZ_add, lZ_sub, lZ_mul, lZ_neg, lZ_i, iZ_l, iZ_nat, Int.toNat_natCast, iZ_bit, iZ_shl, iZ_or, iZ_lt, iZ_le, iZ_eq, iZ_lt0, iZ_le0, iZ_gt0, iZ_ge0, iZ_eq0, cmp_eq0, cmp_lt0, cmp_le0, cmp_ge0, cmp_gt0, tf_0, tf_n0, Decidable.not_not, not_true_eq_false, not_false_eq_true, hs, Int.toNat_natCast, tn16, e0]
      exact ih
theorem l151 {N : Nat} {q : Int} (hN : N < 2147483648) (hqb : i32 q) (hn : 1 ≤ n ∧ n ≤ 4) (hc : c < 10) (hq : mkQ h c kd sz W Q (.inr (1, n, fillW (vW n N q) (2 ^ n)))) : ∀ k, k ≤ 2 ^ n → 1 ≤ k → ∀ H, Eqx [15, 16, 17] h H → RB H (c + 1) c (set1 kd c 1) (set1 sz c n) (set1 W c (fillW (vW n N q) k)) → mWp mCd 151 (65, [some (.ref 14), some (.int (iZ n)), some (.int (iZ N)), some (.int (iZ q)), some (.int (iZ c)), some (.int (iZ k)), none, none], [], H, 0, 0) Q := by
  have h16 := two_pow_le4 hn.2
  refine lp_up (2 ^ n) ?_ ?_
  · intro _ H hx hr
    obtain ⟨cor, bA, bB, rw_, bo, g, e1, e2⟩ := hr.o
    refine b151_65 (fun _ => b151_143 e1 (mkEnd hr hx hc (by decide) hn (fun s => ?_) ?_)) (fun q => ?_)
    · unfold fillW vW; split <;> (try split) <;> exact ⟨by decide, by decide⟩
    · exact fun h2 x2 o2 r2 => b151_147 (hq h2 x2 o2 r2)
    · rw [iZ_shl _ (by omega)] at q
      exact absurd (Int32.le_refl _) q
  · intro k hk ih h1 H hx hr
    obtain ⟨cor, bA, bB, rw_, bo, g, e1, e2⟩ := hr.o
    have hv := vSum_b N k n hn.2
    have hs : True := trivial
    have ih := fun H' x' r' => ih (by omega) H' x' r'
    have hfin := hr.fill e2 ⟨h1, by omega⟩
    refine b151_65 (fun q => ?_) (fun _ => b151_73 (l151b e1 hN hn.2 (by omega) ?_ 0 (Nat.zero_le _)))
    · simp (disch := (first | assumption | omega | (unfold i32; omega) | (unfold i64; omega))) only [iZ_add, iZ_sub, iZ_mul, iZ_neg, lZ_add, lZ_sub, lZ_mul, lZ_neg, lZ_i, iZ_l, iZ_nat, Int.toNat_natCast, iZ_bit, iZ_shl, iZ_or, iZ_lt, iZ_le, iZ_eq, iZ_lt0, iZ_le0, iZ_gt0, iZ_ge0, iZ_eq0, cmp_eq0, cmp_lt0, cmp_le0, cmp_ge0, cmp_gt0, tf_0, tf_n0, Decidable.not_not, not_true_eq_false, not_false_eq_true, hs, Int.toNat_natCast, tn16] at q
      omega
    · refine b151_113 e1 (fun z => b151_135 (b151_136 e2 ?_ ?_)) (fun z => b151_131 (b151_136 e2 ?_ ?_))
      · rw [iZ_mul, iZ_add]
        exact iZ_in (by omega) (by omega) (by decide)
      · simp (disch := (first | assumption | omega | (unfold i32; omega) | (unfold i64; omega))) only [iZ_add, iZ_sub, iZ_mul, iZ_neg, lZ_add, lZ_sub, lZ_mul, lZ_neg, lZ_i, iZ_l, iZ_nat, Int.toNat_natCast, iZ_bit, iZ_shl, iZ_or, iZ_lt, iZ_le, iZ_eq, iZ_lt0, iZ_le0, iZ_gt0, iZ_ge0, iZ_eq0, cmp_eq0, cmp_lt0, cmp_le0, cmp_ge0, cmp_gt0, tf_0, tf_n0, Decidable.not_not, not_true_eq_false, not_false_eq_true, hs, Int.toNat_natCast, tn16] at z
        simp (disch := (first | assumption | omega | (unfold i32; omega) | (unfold i64; omega))) only [iZ_add, iZ_sub, iZ_mul, iZ_neg, lZ_add, lZ_sub, lZ_mul, lZ_neg, lZ_i, iZ_l, iZ_nat, Int.toNat_natCast, iZ_bit, iZ_shl, iZ_or, iZ_lt, iZ_le, iZ_eq, iZ_lt0, iZ_le0, iZ_gt0, iZ_ge0, iZ_eq0, cmp_eq0, cmp_lt0, cmp_le0, cmp_ge0, cmp_gt0, tf_0, tf_n0, Decidable.not_not, not_true_eq_false, not_false_eq_true, hs, Int.toNat_natCast, tn16]
        rw [vW, if_neg (by omega)] at hfin
        exact ih _ (hx.st _ (by decide)) hfin
      · rw [iZ_mul, iZ_add]
        exact iZ_in (by omega) (by omega) (by decide)
      · simp (disch := (first | assumption | omega | (unfold i32; omega) | (unfold i64; omega))) only [iZ_add, iZ_sub, iZ_mul, iZ_neg, lZ_add, lZ_sub, lZ_mul, lZ_neg, lZ_i, iZ_l, iZ_nat, Int.toNat_natCast, iZ_bit, iZ_shl, iZ_or, iZ_lt, iZ_le, iZ_eq, iZ_lt0, iZ_le0, iZ_gt0, iZ_ge0, iZ_eq0, cmp_eq0, cmp_lt0, cmp_le0, cmp_ge0, cmp_gt0, tf_0, tf_n0, Decidable.not_not, not_true_eq_false, not_false_eq_true, hs, Int.toNat_natCast, tn16] at z
        simp (disch := (first | assumption | omega | (unfold i32; omega) | (unfold i64; omega))) only [iZ_add, iZ_sub, iZ_mul, iZ_neg, lZ_add, lZ_sub, lZ_mul, lZ_neg, lZ_i, iZ_l, iZ_nat, Int.toNat_natCast, iZ_bit, iZ_shl, iZ_or, iZ_lt, iZ_le, iZ_eq, iZ_lt0, iZ_le0, iZ_gt0, iZ_ge0, iZ_eq0, cmp_eq0, cmp_lt0, cmp_le0, cmp_ge0, cmp_gt0, tf_0, tf_n0, Decidable.not_not, not_true_eq_false, not_false_eq_true, hs, Int.toNat_natCast, tn16]
        rw [vW, if_pos (by omega)] at hfin
        exact ih _ (hx.st _ (by decide)) hfin
def eVotes (c : Nat) (a N q : Int) : Int ⊕ (Nat × Nat × (Nat → Int)) := if (1 ≤ a ∧ a ≤ 4) ∧ (0 ≤ N ∧ N < 21 ^ a.toNat) ∧ 1 ≤ q ∧ q ≤ 80 then (if c = 10 then .inl (-4) else .inr (1, a.toNat, fillW (vW a.toNat N.toNat q) (2 ^ a.toNat))) else .inl (-2)
theorem p21 : ∀ n, n ≤ 4 → (21 : Int) ^ n ≤ 194481 ∧ 1 ≤ (21 : Int) ^ n := by decide +kernel
theorem c151 {N : Int} (hr : RV h c kd sz W) (ha : i32 a) (hN : i32 N) {u : Int} (hqb : i32 u) (hq : mkQ h c kd sz W Q (eVotes c a N u)) : mCt mCd 151 [.ref 14, .int (iZ a), .int (iZ N), .int (iZ u)] h Q := by
  obtain ⟨cor, bA, bB, rw_, bo, e1⟩ := hr.o
  have hc := hr.1
  have hs : True := trivial
  unfold eVotes at hq
  by_cases hA : 1 ≤ a ∧ a ≤ 4
  · obtain ⟨n, rfl⟩ : ∃ m : Nat, a = m := ⟨a.toNat, by omega⟩
    rw [Int.toNat_natCast] at hq
    have hp := p21 n (by omega)
    split at hq
    · obtain ⟨N, rfl⟩ : ∃ m : Nat, N = m := ⟨N.toNat, by omega⟩
      rw [Int.toNat_natCast] at hq
      split at hq
      · have hq := hq.no hr
        repeat' (first
    | refine en151 ?_
    | exact hq
    | refine c137 (by assumption) (by unfold i32; omega) (by unfold i32; omega) ?_
    | refine c149 (by omega) ?_
    | exact iZ_in (by omega) (by omega) (by decide)
    | simp (disch := (first | assumption | omega | (unfold i32; omega) | (unfold i64; omega))) only [iZ_add, iZ_sub, iZ_mul, iZ_neg, lZ_add, lZ_sub, lZ_mul, lZ_neg, lZ_i, iZ_l, iZ_nat, Int.toNat_natCast, iZ_bit, iZ_shl, iZ_or, iZ_lt, iZ_le, iZ_eq, iZ_lt0, iZ_le0, iZ_gt0, iZ_ge0, iZ_eq0, cmp_eq0, cmp_lt0, cmp_le0, cmp_ge0, cmp_gt0, tf_0, tf_n0, Decidable.not_not, not_true_eq_false, not_false_eq_true, hs, Int.toNat_natCast, tn16]
    | refine b151_0 (by first | assumption | (repeat' (first | assumption | refine mGs ?_ | refine mGn (by omega) ?_))) ?_
    | (refine b151_7 (fun q => ?_) (fun q => ?_) <;> (try simp (disch := (first | assumption | omega | (unfold i32; omega) | (unfold i64; omega))) only [iZ_add, iZ_sub, iZ_mul, iZ_neg, lZ_add, lZ_sub, lZ_mul, lZ_neg, lZ_i, iZ_l, iZ_nat, Int.toNat_natCast, iZ_bit, iZ_shl, iZ_or, iZ_lt, iZ_le, iZ_eq, iZ_lt0, iZ_le0, iZ_gt0, iZ_ge0, iZ_eq0, cmp_eq0, cmp_lt0, cmp_le0, cmp_ge0, cmp_gt0, tf_0, tf_n0, Decidable.not_not, not_true_eq_false, not_false_eq_true, hs, Int.toNat_natCast, tn16] at q) <;> (try (exfalso; omega)))
    | refine b151_39 ?_
    | refine b151_10 (by first | assumption | (repeat' (first | assumption | refine mGs ?_ | refine mGn (by omega) ?_))) ?_
    | refine b151_20 (by first | assumption | (repeat' (first | assumption | refine mGs ?_ | refine mGn (by omega) ?_))) ?_
    | (refine b151_25 (fun q => ?_) (fun q => ?_) <;> (try simp (disch := (first | assumption | omega | (unfold i32; omega) | (unfold i64; omega))) only [iZ_add, iZ_sub, iZ_mul, iZ_neg, lZ_add, lZ_sub, lZ_mul, lZ_neg, lZ_i, iZ_l, iZ_nat, Int.toNat_natCast, iZ_bit, iZ_shl, iZ_or, iZ_lt, iZ_le, iZ_eq, iZ_lt0, iZ_le0, iZ_gt0, iZ_ge0, iZ_eq0, cmp_eq0, cmp_lt0, cmp_le0, cmp_ge0, cmp_gt0, tf_0, tf_n0, Decidable.not_not, not_true_eq_false, not_false_eq_true, hs, Int.toNat_natCast, tn16] at q) <;> (try (exfalso; omega)))
    | refine b151_28 (by first | assumption | (repeat' (first | assumption | refine mGs ?_ | refine mGn (by omega) ?_))) ?_
    | (refine b151_36 (fun q => ?_) (fun q => ?_) <;> (try simp (disch := (first | assumption | omega | (unfold i32; omega) | (unfold i64; omega))) only [iZ_add, iZ_sub, iZ_mul, iZ_neg, lZ_add, lZ_sub, lZ_mul, lZ_neg, lZ_i, iZ_l, iZ_nat, Int.toNat_natCast, iZ_bit, iZ_shl, iZ_or, iZ_lt, iZ_le, iZ_eq, iZ_lt0, iZ_le0, iZ_gt0, iZ_ge0, iZ_eq0, cmp_eq0, cmp_lt0, cmp_le0, cmp_ge0, cmp_gt0, tf_0, tf_n0, Decidable.not_not, not_true_eq_false, not_false_eq_true, hs, Int.toNat_natCast, tn16] at q) <;> (try (exfalso; omega)))
    | (refine b151_42 (by first | assumption | (repeat' (first | assumption | refine mGs ?_ | refine mGn (by omega) ?_))) (fun q => ?_) (fun q => ?_) <;> (try simp (disch := (first | assumption | omega | (unfold i32; omega) | (unfold i64; omega))) only [iZ_add, iZ_sub, iZ_mul, iZ_neg, lZ_add, lZ_sub, lZ_mul, lZ_neg, lZ_i, iZ_l, iZ_nat, Int.toNat_natCast, iZ_bit, iZ_shl, iZ_or, iZ_lt, iZ_le, iZ_eq, iZ_lt0, iZ_le0, iZ_gt0, iZ_ge0, iZ_eq0, cmp_eq0, cmp_lt0, cmp_le0, cmp_ge0, cmp_gt0, tf_0, tf_n0, Decidable.not_not, not_true_eq_false, not_false_eq_true, hs, Int.toNat_natCast, tn16] at q) <;> (try (exfalso; omega)))
    | refine b151_54 (by first | assumption | (repeat' (first | assumption | refine mGs ?_ | refine mGn (by omega) ?_))) ?_
    | refine b151_51 ?_
    | refine b151_60 ?_
    | refine b151_143 (by first | assumption | (repeat' (first | assumption | refine mGs ?_ | refine mGn (by omega) ?_))) ?_
    | refine b151_73 ?_
    | refine b151_147 ?_
    | (refine b151_79 (fun q => ?_) (fun q => ?_) <;> (try simp (disch := (first | assumption | omega | (unfold i32; omega) | (unfold i64; omega))) only [iZ_add, iZ_sub, iZ_mul, iZ_neg, lZ_add, lZ_sub, lZ_mul, lZ_neg, lZ_i, iZ_l, iZ_nat, Int.toNat_natCast, iZ_bit, iZ_shl, iZ_or, iZ_lt, iZ_le, iZ_eq, iZ_lt0, iZ_le0, iZ_gt0, iZ_ge0, iZ_eq0, cmp_eq0, cmp_lt0, cmp_le0, cmp_ge0, cmp_gt0, tf_0, tf_n0, Decidable.not_not, not_true_eq_false, not_false_eq_true, hs, Int.toNat_natCast, tn16] at q) <;> (try (exfalso; omega)))
    | (refine b151_113 (by first | assumption | (repeat' (first | assumption | refine mGs ?_ | refine mGn (by omega) ?_))) (fun q => ?_) (fun q => ?_) <;> (try simp (disch := (first | assumption | omega | (unfold i32; omega) | (unfold i64; omega))) only [iZ_add, iZ_sub, iZ_mul, iZ_neg, lZ_add, lZ_sub, lZ_mul, lZ_neg, lZ_i, iZ_l, iZ_nat, Int.toNat_natCast, iZ_bit, iZ_shl, iZ_or, iZ_lt, iZ_le, iZ_eq, iZ_lt0, iZ_le0, iZ_gt0, iZ_ge0, iZ_eq0, cmp_eq0, cmp_lt0, cmp_le0, cmp_ge0, cmp_gt0, tf_0, tf_n0, Decidable.not_not, not_true_eq_false, not_false_eq_true, hs, Int.toNat_natCast, tn16] at q) <;> (try (exfalso; omega)))
    | refine b151_85 (by first | assumption | (repeat' (first | assumption | refine mGs ?_ | refine mGn (by omega) ?_))) ?_
    | refine b151_135 ?_
    | refine b151_131 ?_
    | refine b151_103 ?_
    | refine b151_136 (by first | assumption | (repeat' (first | assumption | refine mGs ?_ | refine mGn (by omega) ?_))) ?_ ?_)
      · repeat' (first
    | refine en151 ?_
    | exact hq
    | refine c137 (by assumption) (by unfold i32; omega) (by unfold i32; omega) ?_
    | refine c149 (by omega) ?_
    | refine c145 (kn := 1) hr (fun h1 x1 r1 => ?_)
    | exact iZ_in (by omega) (by omega) (by decide)
    | simp (disch := (first | assumption | omega | (unfold i32; omega) | (unfold i64; omega))) only [iZ_add, iZ_sub, iZ_mul, iZ_neg, lZ_add, lZ_sub, lZ_mul, lZ_neg, lZ_i, iZ_l, iZ_nat, Int.toNat_natCast, iZ_bit, iZ_shl, iZ_or, iZ_lt, iZ_le, iZ_eq, iZ_lt0, iZ_le0, iZ_gt0, iZ_ge0, iZ_eq0, cmp_eq0, cmp_lt0, cmp_le0, cmp_ge0, cmp_gt0, tf_0, tf_n0, Decidable.not_not, not_true_eq_false, not_false_eq_true, hs, Int.toNat_natCast, tn16]
    | refine b151_0 (by first | assumption | (repeat' (first | assumption | refine mGs ?_ | refine mGn (by omega) ?_))) ?_
    | (refine b151_7 (fun q => ?_) (fun q => ?_) <;> (try simp (disch := (first | assumption | omega | (unfold i32; omega) | (unfold i64; omega))) only [iZ_add, iZ_sub, iZ_mul, iZ_neg, lZ_add, lZ_sub, lZ_mul, lZ_neg, lZ_i, iZ_l, iZ_nat, Int.toNat_natCast, iZ_bit, iZ_shl, iZ_or, iZ_lt, iZ_le, iZ_eq, iZ_lt0, iZ_le0, iZ_gt0, iZ_ge0, iZ_eq0, cmp_eq0, cmp_lt0, cmp_le0, cmp_ge0, cmp_gt0, tf_0, tf_n0, Decidable.not_not, not_true_eq_false, not_false_eq_true, hs, Int.toNat_natCast, tn16] at q) <;> (try (exfalso; omega)))
    | refine b151_39 ?_
    | refine b151_10 (by first | assumption | (repeat' (first | assumption | refine mGs ?_ | refine mGn (by omega) ?_))) ?_
    | refine b151_20 (by first | assumption | (repeat' (first | assumption | refine mGs ?_ | refine mGn (by omega) ?_))) ?_
    | (refine b151_25 (fun q => ?_) (fun q => ?_) <;> (try simp (disch := (first | assumption | omega | (unfold i32; omega) | (unfold i64; omega))) only [iZ_add, iZ_sub, iZ_mul, iZ_neg, lZ_add, lZ_sub, lZ_mul, lZ_neg, lZ_i, iZ_l, iZ_nat, Int.toNat_natCast, iZ_bit, iZ_shl, iZ_or, iZ_lt, iZ_le, iZ_eq, iZ_lt0, iZ_le0, iZ_gt0, iZ_ge0, iZ_eq0, cmp_eq0, cmp_lt0, cmp_le0, cmp_ge0, cmp_gt0, tf_0, tf_n0, Decidable.not_not, not_true_eq_false, not_false_eq_true, hs, Int.toNat_natCast, tn16] at q) <;> (try (exfalso; omega)))
    | refine b151_28 (by first | assumption | (repeat' (first | assumption | refine mGs ?_ | refine mGn (by omega) ?_))) ?_
    | (refine b151_36 (fun q => ?_) (fun q => ?_) <;> (try simp (disch := (first | assumption | omega | (unfold i32; omega) | (unfold i64; omega))) only [iZ_add, iZ_sub, iZ_mul, iZ_neg, lZ_add, lZ_sub, lZ_mul, lZ_neg, lZ_i, iZ_l, iZ_nat, Int.toNat_natCast, iZ_bit, iZ_shl, iZ_or, iZ_lt, iZ_le, iZ_eq, iZ_lt0, iZ_le0, iZ_gt0, iZ_ge0, iZ_eq0, cmp_eq0, cmp_lt0, cmp_le0, cmp_ge0, cmp_gt0, tf_0, tf_n0, Decidable.not_not, not_true_eq_false, not_false_eq_true, hs, Int.toNat_natCast, tn16] at q) <;> (try (exfalso; omega)))
    | (refine b151_42 (by first | assumption | (repeat' (first | assumption | refine mGs ?_ | refine mGn (by omega) ?_))) (fun q => ?_) (fun q => ?_) <;> (try simp (disch := (first | assumption | omega | (unfold i32; omega) | (unfold i64; omega))) only [iZ_add, iZ_sub, iZ_mul, iZ_neg, lZ_add, lZ_sub, lZ_mul, lZ_neg, lZ_i, iZ_l, iZ_nat, Int.toNat_natCast, iZ_bit, iZ_shl, iZ_or, iZ_lt, iZ_le, iZ_eq, iZ_lt0, iZ_le0, iZ_gt0, iZ_ge0, iZ_eq0, cmp_eq0, cmp_lt0, cmp_le0, cmp_ge0, cmp_gt0, tf_0, tf_n0, Decidable.not_not, not_true_eq_false, not_false_eq_true, hs, Int.toNat_natCast, tn16] at q) <;> (try (exfalso; omega)))
    | refine b151_54 (by first | assumption | (repeat' (first | assumption | refine mGs ?_ | refine mGn (by omega) ?_))) ?_
    | refine b151_51 ?_
    | refine b151_143 (by first | assumption | (repeat' (first | assumption | refine mGs ?_ | refine mGn (by omega) ?_))) ?_
    | refine b151_73 ?_
    | refine b151_147 ?_
    | (refine b151_79 (fun q => ?_) (fun q => ?_) <;> (try simp (disch := (first | assumption | omega | (unfold i32; omega) | (unfold i64; omega))) only [iZ_add, iZ_sub, iZ_mul, iZ_neg, lZ_add, lZ_sub, lZ_mul, lZ_neg, lZ_i, iZ_l, iZ_nat, Int.toNat_natCast, iZ_bit, iZ_shl, iZ_or, iZ_lt, iZ_le, iZ_eq, iZ_lt0, iZ_le0, iZ_gt0, iZ_ge0, iZ_eq0, cmp_eq0, cmp_lt0, cmp_le0, cmp_ge0, cmp_gt0, tf_0, tf_n0, Decidable.not_not, not_true_eq_false, not_false_eq_true, hs, Int.toNat_natCast, tn16] at q) <;> (try (exfalso; omega)))
    | (refine b151_113 (by first | assumption | (repeat' (first | assumption | refine mGs ?_ | refine mGn (by omega) ?_))) (fun q => ?_) (fun q => ?_) <;> (try simp (disch := (first | assumption | omega | (unfold i32; omega) | (unfold i64; omega))) only [iZ_add, iZ_sub, iZ_mul, iZ_neg, lZ_add, lZ_sub, lZ_mul, lZ_neg, lZ_i, iZ_l, iZ_nat, Int.toNat_natCast, iZ_bit, iZ_shl, iZ_or, iZ_lt, iZ_le, iZ_eq, iZ_lt0, iZ_le0, iZ_gt0, iZ_ge0, iZ_eq0, cmp_eq0, cmp_lt0, cmp_le0, cmp_ge0, cmp_gt0, tf_0, tf_n0, Decidable.not_not, not_true_eq_false, not_false_eq_true, hs, Int.toNat_natCast, tn16] at q) <;> (try (exfalso; omega)))
    | refine b151_85 (by first | assumption | (repeat' (first | assumption | refine mGs ?_ | refine mGn (by omega) ?_))) ?_
    | refine b151_135 ?_
    | refine b151_131 ?_
    | refine b151_103 ?_
    | refine b151_136 (by first | assumption | (repeat' (first | assumption | refine mGs ?_ | refine mGn (by omega) ?_))) ?_ ?_)
        refine b151_60 ?_
        rw [← fillW_1 (vW n N u)] at r1
        exact l151 (by omega) hqb (by omega) (by omega) hq 1 (Nat.one_le_two_pow) (Nat.le_refl 1) h1 x1 r1
    · have hq := hq.no hr
      repeat' (first
    | refine en151 ?_
    | exact hq
    | refine c137 (by assumption) (by unfold i32; omega) (by unfold i32; omega) ?_
    | refine c149 (by omega) ?_
    | exact iZ_in (by omega) (by omega) (by decide)
    | simp (disch := (first | assumption | omega | (unfold i32; omega) | (unfold i64; omega))) only [iZ_add, iZ_sub, iZ_mul, iZ_neg, lZ_add, lZ_sub, lZ_mul, lZ_neg, lZ_i, iZ_l, iZ_nat, Int.toNat_natCast, iZ_bit, iZ_shl, iZ_or, iZ_lt, iZ_le, iZ_eq, iZ_lt0, iZ_le0, iZ_gt0, iZ_ge0, iZ_eq0, cmp_eq0, cmp_lt0, cmp_le0, cmp_ge0, cmp_gt0, tf_0, tf_n0, Decidable.not_not, not_true_eq_false, not_false_eq_true, hs, Int.toNat_natCast, tn16]
    | refine b151_0 (by first | assumption | (repeat' (first | assumption | refine mGs ?_ | refine mGn (by omega) ?_))) ?_
    | (refine b151_7 (fun q => ?_) (fun q => ?_) <;> (try simp (disch := (first | assumption | omega | (unfold i32; omega) | (unfold i64; omega))) only [iZ_add, iZ_sub, iZ_mul, iZ_neg, lZ_add, lZ_sub, lZ_mul, lZ_neg, lZ_i, iZ_l, iZ_nat, Int.toNat_natCast, iZ_bit, iZ_shl, iZ_or, iZ_lt, iZ_le, iZ_eq, iZ_lt0, iZ_le0, iZ_gt0, iZ_ge0, iZ_eq0, cmp_eq0, cmp_lt0, cmp_le0, cmp_ge0, cmp_gt0, tf_0, tf_n0, Decidable.not_not, not_true_eq_false, not_false_eq_true, hs, Int.toNat_natCast, tn16] at q) <;> (try (exfalso; omega)))
    | refine b151_39 ?_
    | refine b151_10 (by first | assumption | (repeat' (first | assumption | refine mGs ?_ | refine mGn (by omega) ?_))) ?_
    | refine b151_20 (by first | assumption | (repeat' (first | assumption | refine mGs ?_ | refine mGn (by omega) ?_))) ?_
    | (refine b151_25 (fun q => ?_) (fun q => ?_) <;> (try simp (disch := (first | assumption | omega | (unfold i32; omega) | (unfold i64; omega))) only [iZ_add, iZ_sub, iZ_mul, iZ_neg, lZ_add, lZ_sub, lZ_mul, lZ_neg, lZ_i, iZ_l, iZ_nat, Int.toNat_natCast, iZ_bit, iZ_shl, iZ_or, iZ_lt, iZ_le, iZ_eq, iZ_lt0, iZ_le0, iZ_gt0, iZ_ge0, iZ_eq0, cmp_eq0, cmp_lt0, cmp_le0, cmp_ge0, cmp_gt0, tf_0, tf_n0, Decidable.not_not, not_true_eq_false, not_false_eq_true, hs, Int.toNat_natCast, tn16] at q) <;> (try (exfalso; omega)))
    | refine b151_28 (by first | assumption | (repeat' (first | assumption | refine mGs ?_ | refine mGn (by omega) ?_))) ?_
    | (refine b151_36 (fun q => ?_) (fun q => ?_) <;> (try simp (disch := (first | assumption | omega | (unfold i32; omega) | (unfold i64; omega))) only [iZ_add, iZ_sub, iZ_mul, iZ_neg, lZ_add, lZ_sub, lZ_mul, lZ_neg, lZ_i, iZ_l, iZ_nat, Int.toNat_natCast, iZ_bit, iZ_shl, iZ_or, iZ_lt, iZ_le, iZ_eq, iZ_lt0, iZ_le0, iZ_gt0, iZ_ge0, iZ_eq0, cmp_eq0, cmp_lt0, cmp_le0, cmp_ge0, cmp_gt0, tf_0, tf_n0, Decidable.not_not, not_true_eq_false, not_false_eq_true, hs, Int.toNat_natCast, tn16] at q) <;> (try (exfalso; omega)))
    | (refine b151_42 (by first | assumption | (repeat' (first | assumption | refine mGs ?_ | refine mGn (by omega) ?_))) (fun q => ?_) (fun q => ?_) <;> (try simp (disch := (first | assumption | omega | (unfold i32; omega) | (unfold i64; omega))) only [iZ_add, iZ_sub, iZ_mul, iZ_neg, lZ_add, lZ_sub, lZ_mul, lZ_neg, lZ_i, iZ_l, iZ_nat, Int.toNat_natCast, iZ_bit, iZ_shl, iZ_or, iZ_lt, iZ_le, iZ_eq, iZ_lt0, iZ_le0, iZ_gt0, iZ_ge0, iZ_eq0, cmp_eq0, cmp_lt0, cmp_le0, cmp_ge0, cmp_gt0, tf_0, tf_n0, Decidable.not_not, not_true_eq_false, not_false_eq_true, hs, Int.toNat_natCast, tn16] at q) <;> (try (exfalso; omega)))
    | refine b151_54 (by first | assumption | (repeat' (first | assumption | refine mGs ?_ | refine mGn (by omega) ?_))) ?_
    | refine b151_51 ?_
    | refine b151_60 ?_
    | refine b151_143 (by first | assumption | (repeat' (first | assumption | refine mGs ?_ | refine mGn (by omega) ?_))) ?_
    | refine b151_73 ?_
    | refine b151_147 ?_
    | (refine b151_79 (fun q => ?_) (fun q => ?_) <;> (try simp (disch := (first | assumption | omega | (unfold i32; omega) | (unfold i64; omega))) only [iZ_add, iZ_sub, iZ_mul, iZ_neg, lZ_add, lZ_sub, lZ_mul, lZ_neg, lZ_i, iZ_l, iZ_nat, Int.toNat_natCast, iZ_bit, iZ_shl, iZ_or, iZ_lt, iZ_le, iZ_eq, iZ_lt0, iZ_le0, iZ_gt0, iZ_ge0, iZ_eq0, cmp_eq0, cmp_lt0, cmp_le0, cmp_ge0, cmp_gt0, tf_0, tf_n0, Decidable.not_not, not_true_eq_false, not_false_eq_true, hs, Int.toNat_natCast, tn16] at q) <;> (try (exfalso; omega)))
    | (refine b151_113 (by first | assumption | (repeat' (first | assumption | refine mGs ?_ | refine mGn (by omega) ?_))) (fun q => ?_) (fun q => ?_) <;> (try simp (disch := (first | assumption | omega | (unfold i32; omega) | (unfold i64; omega))) only [iZ_add, iZ_sub, iZ_mul, iZ_neg, lZ_add, lZ_sub, lZ_mul, lZ_neg, lZ_i, iZ_l, iZ_nat, Int.toNat_natCast, iZ_bit, iZ_shl, iZ_or, iZ_lt, iZ_le, iZ_eq, iZ_lt0, iZ_le0, iZ_gt0, iZ_ge0, iZ_eq0, cmp_eq0, cmp_lt0, cmp_le0, cmp_ge0, cmp_gt0, tf_0, tf_n0, Decidable.not_not, not_true_eq_false, not_false_eq_true, hs, Int.toNat_natCast, tn16] at q) <;> (try (exfalso; omega)))
    | refine b151_85 (by first | assumption | (repeat' (first | assumption | refine mGs ?_ | refine mGn (by omega) ?_))) ?_
    | refine b151_135 ?_
    | refine b151_131 ?_
    | refine b151_103 ?_
    | refine b151_136 (by first | assumption | (repeat' (first | assumption | refine mGs ?_ | refine mGn (by omega) ?_))) ?_ ?_)
  · rw [if_neg (by omega)] at hq
    have hq := hq.no hr
    repeat' (first
    | refine en151 ?_
    | exact hq
    | refine c137 (by assumption) (by unfold i32; omega) (by unfold i32; omega) ?_
    | exact iZ_in (by omega) (by omega) (by decide)
    | simp (disch := (first | assumption | omega | (unfold i32; omega) | (unfold i64; omega))) only [iZ_add, iZ_sub, iZ_mul, iZ_neg, lZ_add, lZ_sub, lZ_mul, lZ_neg, lZ_i, iZ_l, iZ_nat, Int.toNat_natCast, iZ_bit, iZ_shl, iZ_or, iZ_lt, iZ_le, iZ_eq, iZ_lt0, iZ_le0, iZ_gt0, iZ_ge0, iZ_eq0, cmp_eq0, cmp_lt0, cmp_le0, cmp_ge0, cmp_gt0, tf_0, tf_n0, Decidable.not_not, not_true_eq_false, not_false_eq_true, hs, Int.toNat_natCast, tn16]
    | refine b151_0 (by first | assumption | (repeat' (first | assumption | refine mGs ?_ | refine mGn (by omega) ?_))) ?_
    | (refine b151_7 (fun q => ?_) (fun q => ?_) <;> (try simp (disch := (first | assumption | omega | (unfold i32; omega) | (unfold i64; omega))) only [iZ_add, iZ_sub, iZ_mul, iZ_neg, lZ_add, lZ_sub, lZ_mul, lZ_neg, lZ_i, iZ_l, iZ_nat, Int.toNat_natCast, iZ_bit, iZ_shl, iZ_or, iZ_lt, iZ_le, iZ_eq, iZ_lt0, iZ_le0, iZ_gt0, iZ_ge0, iZ_eq0, cmp_eq0, cmp_lt0, cmp_le0, cmp_ge0, cmp_gt0, tf_0, tf_n0, Decidable.not_not, not_true_eq_false, not_false_eq_true, hs, Int.toNat_natCast, tn16] at q) <;> (try (exfalso; omega)))
    | refine b151_39 ?_
    | refine b151_10 (by first | assumption | (repeat' (first | assumption | refine mGs ?_ | refine mGn (by omega) ?_))) ?_
    | refine b151_20 (by first | assumption | (repeat' (first | assumption | refine mGs ?_ | refine mGn (by omega) ?_))) ?_
    | (refine b151_25 (fun q => ?_) (fun q => ?_) <;> (try simp (disch := (first | assumption | omega | (unfold i32; omega) | (unfold i64; omega))) only [iZ_add, iZ_sub, iZ_mul, iZ_neg, lZ_add, lZ_sub, lZ_mul, lZ_neg, lZ_i, iZ_l, iZ_nat, Int.toNat_natCast, iZ_bit, iZ_shl, iZ_or, iZ_lt, iZ_le, iZ_eq, iZ_lt0, iZ_le0, iZ_gt0, iZ_ge0, iZ_eq0, cmp_eq0, cmp_lt0, cmp_le0, cmp_ge0, cmp_gt0, tf_0, tf_n0, Decidable.not_not, not_true_eq_false, not_false_eq_true, hs, Int.toNat_natCast, tn16] at q) <;> (try (exfalso; omega)))
    | refine b151_28 (by first | assumption | (repeat' (first | assumption | refine mGs ?_ | refine mGn (by omega) ?_))) ?_
    | (refine b151_36 (fun q => ?_) (fun q => ?_) <;> (try simp (disch := (first | assumption | omega | (unfold i32; omega) | (unfold i64; omega))) only [iZ_add, iZ_sub, iZ_mul, iZ_neg, lZ_add, lZ_sub, lZ_mul, lZ_neg, lZ_i, iZ_l, iZ_nat, Int.toNat_natCast, iZ_bit, iZ_shl, iZ_or, iZ_lt, iZ_le, iZ_eq, iZ_lt0, iZ_le0, iZ_gt0, iZ_ge0, iZ_eq0, cmp_eq0, cmp_lt0, cmp_le0, cmp_ge0, cmp_gt0, tf_0, tf_n0, Decidable.not_not, not_true_eq_false, not_false_eq_true, hs, Int.toNat_natCast, tn16] at q) <;> (try (exfalso; omega)))
    | (refine b151_42 (by first | assumption | (repeat' (first | assumption | refine mGs ?_ | refine mGn (by omega) ?_))) (fun q => ?_) (fun q => ?_) <;> (try simp (disch := (first | assumption | omega | (unfold i32; omega) | (unfold i64; omega))) only [iZ_add, iZ_sub, iZ_mul, iZ_neg, lZ_add, lZ_sub, lZ_mul, lZ_neg, lZ_i, iZ_l, iZ_nat, Int.toNat_natCast, iZ_bit, iZ_shl, iZ_or, iZ_lt, iZ_le, iZ_eq, iZ_lt0, iZ_le0, iZ_gt0, iZ_ge0, iZ_eq0, cmp_eq0, cmp_lt0, cmp_le0, cmp_ge0, cmp_gt0, tf_0, tf_n0, Decidable.not_not, not_true_eq_false, not_false_eq_true, hs, Int.toNat_natCast, tn16] at q) <;> (try (exfalso; omega)))
    | refine b151_54 (by first | assumption | (repeat' (first | assumption | refine mGs ?_ | refine mGn (by omega) ?_))) ?_
    | refine b151_51 ?_
    | refine b151_60 ?_
    | refine b151_143 (by first | assumption | (repeat' (first | assumption | refine mGs ?_ | refine mGn (by omega) ?_))) ?_
    | refine b151_73 ?_
    | refine b151_147 ?_
    | (refine b151_79 (fun q => ?_) (fun q => ?_) <;> (try simp (disch := (first | assumption | omega | (unfold i32; omega) | (unfold i64; omega))) only [iZ_add, iZ_sub, iZ_mul, iZ_neg, lZ_add, lZ_sub, lZ_mul, lZ_neg, lZ_i, iZ_l, iZ_nat, Int.toNat_natCast, iZ_bit, iZ_shl, iZ_or, iZ_lt, iZ_le, iZ_eq, iZ_lt0, iZ_le0, iZ_gt0, iZ_ge0, iZ_eq0, cmp_eq0, cmp_lt0, cmp_le0, cmp_ge0, cmp_gt0, tf_0, tf_n0, Decidable.not_not, not_true_eq_false, not_false_eq_true, hs, Int.toNat_natCast, tn16] at q) <;> (try (exfalso; omega)))
    | (refine b151_113 (by first | assumption | (repeat' (first | assumption | refine mGs ?_ | refine mGn (by omega) ?_))) (fun q => ?_) (fun q => ?_) <;> (try simp (disch := (first | assumption | omega | (unfold i32; omega) | (unfold i64; omega))) only [iZ_add, iZ_sub, iZ_mul, iZ_neg, lZ_add, lZ_sub, lZ_mul, lZ_neg, lZ_i, iZ_l, iZ_nat, Int.toNat_natCast, iZ_bit, iZ_shl, iZ_or, iZ_lt, iZ_le, iZ_eq, iZ_lt0, iZ_le0, iZ_gt0, iZ_ge0, iZ_eq0, cmp_eq0, cmp_lt0, cmp_le0, cmp_ge0, cmp_gt0, tf_0, tf_n0, Decidable.not_not, not_true_eq_false, not_false_eq_true, hs, Int.toNat_natCast, tn16] at q) <;> (try (exfalso; omega)))
    | refine b151_85 (by first | assumption | (repeat' (first | assumption | refine mGs ?_ | refine mGn (by omega) ?_))) ?_
    | refine b151_135 ?_
    | refine b151_131 ?_
    | refine b151_103 ?_
    | refine b151_136 (by first | assumption | (repeat' (first | assumption | refine mGs ?_ | refine mGn (by omega) ?_))) ?_ ?_)
end MM
