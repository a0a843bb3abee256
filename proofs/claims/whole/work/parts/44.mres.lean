/-! ===== the reference: solves, its ends ===== -/

theorem sumTo_1 (f : Nat → Int) {u i : Nat} (hi : i < u) (h : ∀ k, k < u → k ≠ i → f k = 0) : sumTo f u = f i := by
  induction u with
  | zero => omega
  | succ u ih =>
    unfold sumTo
    by_cases q : i = u
    · subst q
      have : ∀ v, v ≤ i → sumTo f v = 0 := by
        intro v hv
        induction v with
        | zero => rfl
        | succ v ih2 =>
          unfold sumTo
          rw [ih2 (by omega), h v (by omega) (by omega)]; rfl
      rw [this i (Nat.le_refl i), Int.zero_add]
    · rw [ih (by omega) (fun k hk hn => h k (by omega) hn), h u (by omega) (by omega), Int.add_zero]
theorem sumTo_0 (f : Nat → Int) {u : Nat} (h : ∀ k, k < u → f k = 0) : sumTo f u = 0 := by
  induction u with
  | zero => rfl
  | succ u ih =>
    unfold sumTo
    rw [ih fun k hk => h k (by omega), h u (by omega)]; rfl
/-- solved: row i makes unknown i -/
def Res (z0 z : Nat → Nat → Int) (u m : Nat) : Prop := (∀ i, i < u → 0 < z i i ∧ Int.gcd (z i i) (z i 4) = 1 ∧ z i i ≤ 32768 ∧ bd 524288000 (z i 4)) ∧ ∀ x t, Sol z0 u m x t ↔ ∀ i, i < u → z i i * x i = z i 4 * t
def Fail (z0 : Nat → Nat → Int) (u m : Nat) : Prop := (∃ x : Nat → Int, (∃ k, k < u ∧ x k ≠ 0) ∧ Sol z0 u m x 0) ∨ ∀ x t, Sol z0 u m x t → t = 0
theorem Inv.diag {z0 z : Nat → Nat → Int} {u m : Nat} (h : Inv z0 z u m u 0) (hu : u ≤ m) {i : Nat} (hi : i < u) (x : Nat → Int) (t : Int) : ev z u i x t = z i i * x i - z i 4 * t := by
  obtain ⟨a1, a2, a3, a4, a5, a6, a7⟩ := h
  unfold ev
  rw [sumTo_1 _ hi fun k hk hn => by rw [a2 i k (by omega) hk (Ne.symm hn), Int.zero_mul]]
theorem Inv.last {z0 z : Nat → Nat → Int} {u m : Nat} (h : Inv z0 z u m u 0) {i : Nat} (hi : u ≤ i) (hm : i < m) (x : Nat → Int) (t : Int) : ev z u i x t = - (z i 4 * t) := by
  obtain ⟨a1, a2, a3, a4, a5, a6, a7⟩ := h
  unfold ev
  rw [sumTo_0 _ fun k hk => by rw [a2 i k hm hk (by omega), Int.zero_mul], Int.zero_sub]
theorem Inv.gcd {z0 z : Nat → Nat → Int} {u m : Nat} (h : Inv z0 z u m u 0) (hu : u ≤ m) (hm : m ≤ 4) {i : Nat} (hi : i < u) : Int.gcd (z i i) (z i 4) = 1 := by
  obtain ⟨a1, a2, a3, a4, a5, a6, a7⟩ := h
  rcases a4 i (by omega) with q | q
  · have hd : ((Int.gcd (z i i) (z i 4) : Nat) : Int) ∣ ((gR (z i) 5 : Nat) : Int) := gR_g fun k hk => by
      by_cases q4 : k = 4
      · subst q4; exact Int.gcd_dvd_right _ _
      · by_cases qi : k = i
        · subst qi; exact Int.gcd_dvd_left _ _
        · have : z i k = 0 := by
            by_cases qu : k < u
            · exact a2 i k (by omega) qu (Ne.symm qi)
            · exact a6 i k (by omega) (by omega) (by omega)
          rw [this]; exact Int.dvd_zero _
    rw [q] at hd
    exact Nat.dvd_one.mp (Int.natCast_dvd_natCast.mp hd)
  · exact absurd (q i (by omega)) (a3 i hi)
/-- signs -/
def sgR (z : Nat → Nat → Int) (r : Nat) : Nat → Int := if 0 < z r r then z r else set1 (set1 (z r) r (- z r r)) 4 (- z r 4)
def sgZ (z : Nat → Nat → Int) (k : Nat) : Nat → Nat → Int := fun r => if r < k then sgR z r else z r
theorem sgZ_s (z : Nat → Nat → Int) (k : Nat) : set1 (sgZ z k) k (sgR z k) = sgZ z (k + 1) := by
  funext r
  unfold set1 sgZ
  by_cases q : r = k
  · subst q; rw [if_pos rfl, if_pos (by omega)]
  · rw [if_neg q]
    by_cases q2 : r < k
    · rw [if_pos q2, if_pos (by omega)]
    · rw [if_neg q2, if_neg (by omega)]
theorem sgZ_at (z : Nat → Nat → Int) (k : Nat) : sgZ z k k = z k := if_neg (by omega)
theorem Inv.res {z0 z : Nat → Nat → Int} {u m : Nat} (h : Inv z0 z u m u 0) (hu : u ≤ m) (hm : m ≤ 4) (h0 : ∀ r, u ≤ r → r < m → z r 4 = 0) : Res z0 (sgZ z u) u m := by
  have hl := h.l (r := 0) (k := 0)
  have hb : ∀ i, i < u → bd 32768 (z i i) ∧ bd 524288000 (z i 4) := fun i hi => by
    obtain ⟨-, -, -, -, a5, -, -⟩ := id h
    have h5 := a5 i (by omega)
    rw [if_neg (by omega)] at h5
    have := Kb_1 u (by omega)
    exact ⟨bd_mono (by omega) (h5.1 i (by omega)), bdR_l h5 (by omega) (by omega)⟩
  have hs : ∀ i, i < u → sgZ z u i = sgR z i := fun i hi => if_pos hi
  have hp : ∀ i, i < u → (0 < z i i ∧ sgR z i i = z i i ∧ sgR z i 4 = z i 4) ∨ (z i i < 0 ∧ sgR z i i = - z i i ∧ sgR z i 4 = - z i 4) := fun i hi => by
    have := h.2.2.1 i hi
    unfold sgR
    by_cases q : 0 < z i i
    · rw [if_pos q]; exact Or.inl ⟨q, rfl, rfl⟩
    · rw [if_neg q]
      refine Or.inr ⟨by omega, ?_, set1_e _ _ _⟩
      rw [set1_n _ _ (by omega), set1_e]
  refine ⟨fun i hi => ?_, fun x t => ?_⟩
  · have hg := h.gcd hu hm hi
    obtain ⟨b1, b2⟩ := hb i hi
    rw [hs i hi]
    unfold bd at b1 b2
    rcases hp i hi with ⟨q1, q2, q3⟩ | ⟨q1, q2, q3⟩
    · rw [q2, q3]
      exact ⟨q1, hg, by omega, by unfold bd; omega⟩
    · rw [q2, q3, Int.neg_gcd, Int.gcd_neg]
      exact ⟨by omega, hg, by omega, by unfold bd; omega⟩
  · rw [← h.1 x t]
    have key : ∀ i, i < u → (ev z u i x t = 0 ↔ sgZ z u i i * x i = sgZ z u i 4 * t) := fun i hi => by
      rw [h.diag hu hi, hs i hi]
      rcases hp i hi with ⟨q1, q2, q3⟩ | ⟨q1, q2, q3⟩
      · rw [q2, q3]; omega
      · rw [q2, q3, Int.neg_mul, Int.neg_mul]; omega
    constructor
    · intro q i hi
      exact (key i hi).mp (q i (by omega))
    · intro q r hr
      by_cases q2 : r < u
      · exact (key r q2).mpr (q r q2)
      · rw [h.last (by omega) hr, h0 r (by omega) hr, Int.zero_mul]; rfl
