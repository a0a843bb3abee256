/-! ===== the reference: a slot that is filled ===== -/

theorem mSt {h : mH} {a : Nat} {x : mE} (e : h[a]? = some x) : h.set a x = h := by
  apply List.ext_getElem?
  intro i
  rw [List.getElem?_set]
  split
  · next q =>
    subst q
    rw [e, if_pos (List.getElem?_eq_some_iff.mp e).1]
  · rfl
/-- the same but at these places -/
def Eqx (K : List Nat) (h h' : mH) : Prop := h'.length = h.length ∧ ∀ a, a ∉ K → h'[a]? = h[a]?
theorem Eqx.rf (K : List Nat) (h : mH) : Eqx K h h := ⟨rfl, fun _ _ => rfl⟩
theorem Eqx.tr {K : List Nat} {h h1 h2 : mH} (a : Eqx K h h1) (b : Eqx K h1 h2) : Eqx K h h2 := ⟨b.1.trans a.1, fun x hx => (b.2 x hx).trans (a.2 x hx)⟩
theorem Eqx.st {K : List Nat} {h h1 : mH} (a : Eqx K h h1) {k : Nat} (x : mE) (hk : k ∈ K) : Eqx K h (h1.set k x) := by
  refine ⟨by rw [List.length_set]; exact a.1, fun y hy => ?_⟩
  have hne : k ≠ y := fun z => hy (by rw [← z]; exact hk)
  rw [List.getElem?_set_ne hne]
  exact a.2 y hy
theorem Eqx.mo {K K' : List Nat} {h h' : mH} (a : Eqx K h h') (hk : ∀ x, x ∈ K → x ∈ K') : Eqx K' h h' := ⟨a.1, fun x hx => a.2 x fun q => hx (hk x q)⟩
def set1 {α : Type} (f : Nat → α) (c : Nat) (x : α) : Nat → α := fun i => if i = c then x else f i
theorem set1_e {α : Type} (f : Nat → α) (c : Nat) (x : α) : set1 f c x c = x := if_pos rfl
theorem set1_n {α : Type} (f : Nat → α) {c i : Nat} (x : α) (h : i ≠ c) : set1 f c x i = f i := if_neg h
theorem set1_s {α : Type} (f : Nat → α) (c : Nat) (x y : α) : set1 (set1 f c x) c y = set1 f c y := by
  funext i
  unfold set1
  split <;> rfl
/-- the reference's ventures below c, and the rows of the slots below m -/
def RB (h : mH) (m c : Nat) (kd sz : Nat → Nat) (W : Nat → Nat → Int) : Prop := (c ≤ 10 ∧ m ≤ 11) ∧ (∀ i, i < c → kd i ≤ 4 ∧ (1 ≤ sz i ∧ sz i ≤ 4) ∧ ∀ s, bd 16000 (W i s)) ∧ ∃ (cor : Int32) (bA bB : Int64) (rw_ bo : Int32) (fk fs : Nat → Int32) (g : Nat → Int64), h[14]? = some (oM (iZ c) cor bA bB rw_ bo) ∧ h[15]? = some (aI 11 fk) ∧ h[16]? = some (aI 11 fs) ∧ h[17]? = some (aL 176 g) ∧ ∀ i, i < m → fk i = iZ (kd i) ∧ fs i = iZ (sz i) ∧ ∀ s, s < 16 → g (16 * i + s) = lZ (W i s)
/-- the reference's object but for the count of ventures -/
def oMs (h h' : mH) : Prop := ∀ v cor bA bB rw_ bo, h[14]? = some (oM v cor bA bB rw_ bo) → ∃ v', h'[14]? = some (oM v' cor bA bB rw_ bo)
section MM
variable {h h' : mH} {Q : Option Value → mH → Prop} {i n m c : Nat} {w : Nat → Int} {kd sz : Nat → Nat} {W : Nat → Nat → Int} {a p s y k q : Int}
theorem RV.rb (hr : RV h c kd sz W) : RB h c c kd sz W := ⟨⟨hr.1, by have := hr.1; omega⟩, hr.2⟩
theorem RB.rv (hr : RB h m c kd sz W) (hm : c ≤ m) : RV h c kd sz W := by
  obtain ⟨⟨hc, hm11⟩, hb, cor, bA, bB, rw_, bo, fk, fs, g, e1, e2, e3, e4, hf⟩ := hr
  exact ⟨hc, hb, cor, bA, bB, rw_, bo, fk, fs, g, e1, e2, e3, e4, fun i hi => hf i (by omega)⟩
theorem RV.cg {kd' sz' : Nat → Nat} {W' : Nat → Nat → Int} (hr : RV h c kd sz W) (h1 : ∀ i, i < c → kd' i = kd i ∧ sz' i = sz i ∧ W' i = W i) : RV h c kd' sz' W' := by
  obtain ⟨hc, hb, cor, bA, bB, rw_, bo, fk, fs, g, e1, e2, e3, e4, hf⟩ := hr
  refine ⟨hc, fun i hi => ?_, cor, bA, bB, rw_, bo, fk, fs, g, e1, e2, e3, e4, fun i hi => ?_⟩
  · obtain ⟨a1, a2, a3⟩ := h1 i hi
    rw [a1, a2, a3]; exact hb i hi
  · obtain ⟨a1, a2, a3⟩ := h1 i hi
    rw [a1, a2, a3]; exact hf i hi
theorem RB.put {g : Nat → Int64} {s : Nat} {x : Int} (hr : RB h m c kd sz W) (e : h[17]? = some (aL 176 g)) (hi : c ≤ i ∨ bd 16000 x) (hs : s < 16) : RB (h.set 17 (aL 176 (vp_updL g (16 * i + s) (lZ x)))) m c kd sz (set1 W i (set1 (W i) s x)) := by
  obtain ⟨hc, hb, cor, bA, bB, rw_, bo, fk, fs, g', e1, e2, e3, e4, hf⟩ := hr
  have hg : g' = g := by
    rw [e] at e4
    have := Option.some.inj e4
    injection this with this
    injection this with _ this
    injection this with _ this
    injection this with this
    injection this with this
    exact this.symm
  subst hg
  refine ⟨hc, fun j hj => ?_, cor, bA, bB, rw_, bo, fk, fs, _, mGn (by omega) e1, mGn (by omega) e2, mGn (by omega) e3, mGs e4, fun j hj => ?_⟩
  · obtain ⟨a1, a2, a3⟩ := hb j hj
    refine ⟨a1, a2, fun t => ?_⟩
    by_cases z : j = i
    · subst z
      rw [set1_e]
      by_cases z2 : t = s
      · rw [z2, set1_e]
        rcases hi with hi | hi
        · omega
        · exact hi
      · rw [set1_n _ _ z2]; exact a3 t
    · rw [set1_n _ _ z]; exact a3 t
  · obtain ⟨a1, a2, a3⟩ := hf j hj
    refine ⟨a1, a2, fun t ht => ?_⟩
    unfold vp_updL set1
    by_cases z : j = i
    · subst z
      rw [if_pos rfl]
      by_cases z2 : t = s
      · subst z2; rw [if_pos rfl, if_pos rfl]
      · rw [if_neg (by omega), if_neg z2]; exact a3 t ht
    · rw [if_neg (by omega), if_neg z]; exact a3 t ht
theorem l145 {cor : Int32} {bA bB : Int64} {rw_ bo : Int32} (hc : c ≤ 10) : ∀ k, k ≤ 16 → ∀ (H : mH) (g : Nat → Int64), H[14]? = some (oM (iZ c) cor bA bB rw_ bo) → H[17]? = some (aL 176 g) → (∀ g' : Nat → Int64, (∀ j, j < 16 * c + k ∨ 16 * c + 16 ≤ j → g' j = g j) → (∀ s, s < 16 → k ≤ s → g' (16 * c + s) = lZ 0) → Q (some (.int (iZ c))) (H.set 17 (aL 176 g'))) → mWp mCd 145 (22, [some (.ref 14), none, none, some (.int (iZ k))], [], H, 0, 0) Q := by
  have hs : True := trivial
  refine lp_up 16 ?_ ?_
  · intro H g e1 e2 hq
    have := hq g (fun _ _ => rfl) (fun s h1 h2 => by omega)
    rw [mSt e2] at this
    repeat' (first
    | refine en145 ?_
    | exact this
    | exact iZ_in (by omega) (by omega) (by decide)
    | simp (disch := (first | assumption | omega | (unfold i32; omega) | (unfold i64; omega))) only [iZ_add, iZ_sub, iZ_mul, iZ_neg, lZ_add, lZ_sub, lZ_mul, lZ_neg, lZ_i, iZ_l, iZ_nat, Int.toNat_natCast, iZ_bit, iZ_shl, iZ_or, iZ_lt, iZ_le, iZ_eq, iZ_lt0, iZ_le0, iZ_gt0, iZ_ge0, iZ_eq0, cmp_eq0, cmp_lt0, cmp_le0, cmp_ge0, cmp_gt0, tf_0, tf_n0, Decidable.not_not, not_true_eq_false, not_false_eq_true, hs, Int.toNat_natCast]
    | refine b145_0 (by first | assumption | (repeat' (first | assumption | refine mGs ?_ | refine mGn (by omega) ?_))) (by first | assumption | (repeat' (first | assumption | refine mGs ?_ | refine mGn (by omega) ?_))) ?_ (by first | assumption | (repeat' (first | assumption | refine mGs ?_ | refine mGn (by omega) ?_))) ?_
    | (refine b145_22 (fun q => ?_) (fun q => ?_) <;> (try simp (disch := (first | assumption | omega | (unfold i32; omega) | (unfold i64; omega))) only [iZ_add, iZ_sub, iZ_mul, iZ_neg, lZ_add, lZ_sub, lZ_mul, lZ_neg, lZ_i, iZ_l, iZ_nat, Int.toNat_natCast, iZ_bit, iZ_shl, iZ_or, iZ_lt, iZ_le, iZ_eq, iZ_lt0, iZ_le0, iZ_gt0, iZ_ge0, iZ_eq0, cmp_eq0, cmp_lt0, cmp_le0, cmp_ge0, cmp_gt0, tf_0, tf_n0, Decidable.not_not, not_true_eq_false, not_false_eq_true, hs, Int.toNat_natCast] at q) <;> (try (exfalso; omega)))
    | refine b145_49 (by first | assumption | (repeat' (first | assumption | refine mGs ?_ | refine mGn (by omega) ?_))) ?_
    | refine b145_28 (by first | assumption | (repeat' (first | assumption | refine mGs ?_ | refine mGn (by omega) ?_))) (by first | assumption | (repeat' (first | assumption | refine mGs ?_ | refine mGn (by omega) ?_))) ?_ ?_)
  · intro k hk ih H g e1 e2 hq
    refine b145_22 (fun q => ?_) (fun _ => b145_28 e1 e2 ?_ ?_)
    · simp (disch := (first | assumption | omega | (unfold i32; omega) | (unfold i64; omega))) only [iZ_add, iZ_sub, iZ_mul, iZ_neg, lZ_add, lZ_sub, lZ_mul, lZ_neg, lZ_i, iZ_l, iZ_nat, Int.toNat_natCast, iZ_bit, iZ_shl, iZ_or, iZ_lt, iZ_le, iZ_eq, iZ_lt0, iZ_le0, iZ_gt0, iZ_ge0, iZ_eq0, cmp_eq0, cmp_lt0, cmp_le0, cmp_ge0, cmp_gt0, tf_0, tf_n0, Decidable.not_not, not_true_eq_false, not_false_eq_true, hs, Int.toNat_natCast] at q
      omega
    · rw [iZ_mul, iZ_add]
      exact iZ_in (by omega) (by omega) (by decide)
    · simp (disch := (first | assumption | omega | (unfold i32; omega) | (unfold i64; omega))) only [iZ_add, iZ_sub, iZ_mul, iZ_neg, lZ_add, lZ_sub, lZ_mul, lZ_neg, lZ_i, iZ_l, iZ_nat, Int.toNat_natCast, iZ_bit, iZ_shl, iZ_or, iZ_lt, iZ_le, iZ_eq, iZ_lt0, iZ_le0, iZ_gt0, iZ_ge0, iZ_eq0, cmp_eq0, cmp_lt0, cmp_le0, cmp_ge0, cmp_gt0, tf_0, tf_n0, Decidable.not_not, not_true_eq_false, not_false_eq_true, hs, Int.toNat_natCast]
      refine ih _ _ (mGn (by omega) e1) (mGs e2) (fun g' h1 h2 => ?_)
      rw [List.set_set]
      have hx : ((16 : Int) * (c : Int) + (k : Int)).toNat = 16 * c + k := by omega
      rw [hx] at h1
      refine hq g' (fun j hj => ?_) (fun s h3 h4 => ?_)
      · rw [h1 j (by omega), vp_updL, if_neg (by omega)]
      · by_cases z : s = k
        · subst z
          rw [h1 _ (by omega), vp_updL, if_pos rfl]
        · exact h2 s h3 (by omega)
theorem c145 {kn : Nat} (hr : RV h c kd sz W) (hq : ∀ h', Eqx [15, 16, 17] h h' → RB h' (c + 1) c (set1 kd c kn) (set1 sz c n) (set1 W c (fun _ => 0)) → Q (some (.int (iZ c))) h') : mCt mCd 145 [.ref 14, .int (iZ kn), .int (iZ n)] h Q := by
  obtain ⟨hc, hb, cor, bA, bB, rw_, bo, fk, fs, g, e1, e2, e3, e4, hf⟩ := id hr
  refine en145 (b145_0 e1 e2 (iZ_in (by omega) (by omega) (by decide)) e3 ?_)
  have hs : True := trivial
  simp (disch := (first | assumption | omega | (unfold i32; omega) | (unfold i64; omega))) only [iZ_add, iZ_sub, iZ_mul, iZ_neg, lZ_add, lZ_sub, lZ_mul, lZ_neg, lZ_i, iZ_l, iZ_nat, Int.toNat_natCast, iZ_bit, iZ_shl, iZ_or, iZ_lt, iZ_le, iZ_eq, iZ_lt0, iZ_le0, iZ_gt0, iZ_ge0, iZ_eq0, cmp_eq0, cmp_lt0, cmp_le0, cmp_ge0, cmp_gt0, tf_0, tf_n0, Decidable.not_not, not_true_eq_false, not_false_eq_true, hs, Int.toNat_natCast]
  refine l145 hc 0 (by omega) _ g (mGn (by omega) (mGn (by omega) e1)) (mGn (by omega) (mGn (by omega) e4)) (fun g' h1 h2 => ?_)
  refine hq _ ((((Eqx.rf _ h).st _ (by decide)).st _ (by decide)).st _ (by decide)) ⟨⟨hc, by omega⟩, fun i hi => ?_, cor, bA, bB, rw_, bo, _, _, _, mGn (by omega) (mGn (by omega) (mGn (by omega) e1)), mGn (by omega) (mGn (by omega) (mGs e2)), mGn (by omega) (mGs (mGn (by omega) e3)), mGs (mGn (by omega) (mGn (by omega) e4)), fun i hi => ?_⟩
  · rw [set1_n _ _ (by omega), set1_n _ _ (by omega), set1_n _ _ (by omega)]
    exact hb i hi
  · by_cases z : i = c
    · subst z
      rw [set1_e, set1_e, set1_e]
      exact ⟨if_pos rfl, if_pos rfl, fun s hs => h2 s hs (by omega)⟩
    · rw [set1_n _ _ z, set1_n _ _ z, set1_n _ _ z]
      obtain ⟨a1, a2, a3⟩ := hf i (by omega)
      refine ⟨by rw [← a1]; exact if_neg z, by rw [← a2]; exact if_neg z, fun s hs => ?_⟩
      rw [h1 _ (by omega)]
      exact a3 s hs
theorem c146 (hr : RB h (c + 1) c kd sz W) (hc : c < 10) (hb' : kd c ≤ 4 ∧ (1 ≤ sz c ∧ sz c ≤ 4) ∧ ∀ s, bd 16000 (W c s)) (hq : ∀ h', Eqx [14] h h' → oMs h h' → RV h' (c + 1) kd sz W → Q (some (.int (iZ c))) h') : mCt mCd 146 [.ref 14] h Q := by
  obtain ⟨-, hb, cor, bA, bB, rw_, bo, fk, fs, g, e1, e2, e3, e4, hf⟩ := hr
  refine en146 (b146_0 e1 ?_)
  simp only [iZ_add, iZ_sub, Int.add_sub_cancel]
  refine hq _ ((Eqx.rf _ h).st _ (by decide)) ?_ ⟨by omega, fun i hi => ?_, cor, bA, bB, rw_, bo, fk, fs, g, mGs e1, mGn (by omega) e2, mGn (by omega) e3, mGn (by omega) e4, hf⟩
  · intro v cor' bA' bB' rw' bo' e
    rw [e1] at e
    injection e with e
    injection e with e
    injection e with _ e
    injection e with _ e
    injection e with _ e
    injection e with _ e
    injection e with _ e
    injection e with _ e
    injection e with k1 e
    injection e with _ e
    injection e with _ e
    injection e with k2 e
    injection e with k3 e
    injection e with _ e
    injection e with _ e
    injection e with _ e
    injection e with k4 e
    injection e with _ e
    injection e with _ e
    injection e with k5 e
    injection k1 with k1
    injection k2 with k2
    injection k3 with k3
    injection k4 with k4
    injection k5 with k5
    subst k1 k2 k3 k4 k5
    exact ⟨_, mGs e1⟩
  · by_cases z : i = c
    · subst z; exact hb'
    · exact hb i (by omega)
end MM
