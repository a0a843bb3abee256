/-! ===== small systems: the same answers ===== -/
/-- what row r is off by, at x and t -/
def ev (z : Nat → Nat → Int) (u r : Nat) (x : Nat → Int) (t : Int) : Int := sumTo (fun k => z r k * x k) u - z r 4 * t
def Sol (z : Nat → Nat → Int) (u m : Nat) (x : Nat → Int) (t : Int) : Prop := ∀ r, r < m → ev z u r x t = 0
theorem sumTo_lin (a b x : Nat → Int) (p q : Int) : ∀ u, sumTo (fun k => (a k * p - b k * q) * x k) u = p * sumTo (fun k => a k * x k) u - q * sumTo (fun k => b k * x k) u
  | 0 => by simp [sumTo]
  | u + 1 => by
    have ih := sumTo_lin a b x p q u
    unfold sumTo
    rw [ih, Int.mul_add, Int.mul_add, Int.sub_mul]
    have e1 : a u * p * x u = p * (a u * x u) := by rw [Int.mul_comm (a u) p, Int.mul_assoc]
    have e2 : b u * q * x u = q * (b u * x u) := by rw [Int.mul_comm (b u) q, Int.mul_assoc]
    rw [e1, e2]
    omega
theorem sumTo_mul (a x : Nat → Int) (p : Int) : ∀ u, sumTo (fun k => p * a k * x k) u = p * sumTo (fun k => a k * x k) u
  | 0 => by simp [sumTo]
  | u + 1 => by
    have ih := sumTo_mul a x p u
    unfold sumTo
    rw [ih, Int.mul_add, Int.mul_assoc]
theorem redF_d (f : Nat → Int) {c : Nat} (hc : c < 5) : f c = (gR f 5 : Int) * redF f c := by
  unfold redF
  rw [if_pos hc]
  exact (Int.mul_tdiv_cancel' (gR_d hc)).symm
theorem redF_0 (f : Nat → Int) (h : gR f 5 = 0) {c : Nat} (hc : c < 5) : redF f c = 0 := by
  unfold redF
  rw [if_pos hc, h]
  exact Int.tdiv_zero _
/-- row i less a part of row c, in lowest terms -/
def elm (z : Nat → Nat → Int) (c i : Nat) : Nat → Int := fun k => z i k * z c c - z c k * z i c
def elz (z : Nat → Nat → Int) (c i : Nat) : Nat → Nat → Int := set1 z i (redF (mix 5 (elm z c i) (z i)))
theorem gR_c {f g : Nat → Int} : ∀ {k : Nat}, (∀ c, c < k → f c = g c) → gR f k = gR g k
  | 0, _ => rfl
  | k + 1, h => by
    unfold gR
    rw [h k (by omega), gR_c fun c hc => h c (by omega)]
theorem elz_ev (z : Nat → Nat → Int) {c i u : Nat} (hu : u ≤ 4) (x : Nat → Int) (t : Int) : (gR (mix 5 (elm z c i) (z i)) 5 : Int) * ev (elz z c i) u i x t = z c c * ev z u i x t - z i c * ev z u c x t := by
  unfold ev elz
  rw [set1_e, Int.mul_sub, ← sumTo_mul]
  have e1 : sumTo (fun k => (gR (mix 5 (elm z c i) (z i)) 5 : Int) * redF (mix 5 (elm z c i) (z i)) k * x k) u = sumTo (fun k => (z i k * z c c - z c k * z i c) * x k) u := sumTo_congr fun k hk => by
    rw [← redF_d _ (by omega)]
    unfold mix elm
    rw [if_pos (by omega)]
  rw [e1, sumTo_lin, ← Int.mul_assoc, ← redF_d _ (by omega)]
  unfold mix elm
  rw [if_pos (by omega), Int.mul_sub, Int.mul_sub, Int.sub_mul]
  have e2 : z i 4 * z c c * t = z c c * (z i 4 * t) := by rw [Int.mul_comm (z i 4), Int.mul_assoc]
  have e3 : z c 4 * z i c * t = z i c * (z c 4 * t) := by rw [Int.mul_comm (z c 4), Int.mul_assoc]
  rw [e2, e3]
  omega
theorem elz_n (z : Nat → Nat → Int) {c i r : Nat} (h : r ≠ i) : elz z c i r = z r := set1_n _ _ h
theorem ev_c {z z' : Nat → Nat → Int} {u r r' : Nat} (h : z r = z' r') (x : Nat → Int) (t : Int) : ev z u r x t = ev z' u r' x t := by
  unfold ev
  rw [h]
theorem elz_sol (z : Nat → Nat → Int) {c i u m : Nat} (hu : u ≤ 4) (hc : c < m) (hi : i < m) (hci : i ≠ c) (hp : z c c ≠ 0) (x : Nat → Int) (t : Int) : Sol (elz z c i) u m x t ↔ Sol z u m x t := by
  have hx := elz_ev z (c := c) (i := i) hu x t
  have hc' : ev (elz z c i) u c x t = ev z u c x t := ev_c (elz_n z (Ne.symm hci)) x t
  constructor
  · intro h r hr
    by_cases q : r = i
    · subst q
      have h1 := h c hc
      rw [hc'] at h1
      rw [h r hr, h1, Int.mul_zero, Int.mul_zero, Int.sub_zero] at hx
      rcases Int.mul_eq_zero.mp hx.symm with h2 | h2
      · exact absurd h2 hp
      · exact h2
    · rw [← ev_c (elz_n z q) x t]; exact h r hr
  · intro h r hr
    by_cases q : r = i
    · subst q
      rw [h r hr, h c hc, Int.mul_zero, Int.mul_zero, Int.sub_zero] at hx
      rcases Int.mul_eq_zero.mp hx with h2 | h2
      · have h2 : gR (mix 5 (elm z c r) (z r)) 5 = 0 := by omega
        unfold ev elz
        rw [set1_e, redF_0 _ h2 (by omega), Int.zero_mul, Int.sub_zero]
        have : ∀ v, v ≤ 4 → sumTo (fun k => redF (mix 5 (elm z c r) (z r)) k * x k) v = 0 := by
          intro v hv
          induction v with
          | zero => rfl
          | succ v ih =>
            unfold sumTo
            rw [ih (by omega), redF_0 _ h2 (by omega), Int.zero_mul]
            rfl
        exact this u hu
      · exact h2
    · rw [ev_c (elz_n z q) x t]; exact h r hr
/-- rows exchanged -/
theorem exc_a (z : Nat → Nat → Int) {a b : Nat} {k : Nat} (hk : k < 5) : exc z a b 5 a k = z b k := by
  unfold exc
  by_cases q : a = b
  · subst q
    rw [set1_e]; unfold mix; rw [if_pos hk]
  · rw [set1_n _ _ q, set1_e]; unfold mix; rw [if_pos hk]
theorem exc_b (z : Nat → Nat → Int) {a b : Nat} {k : Nat} (hk : k < 5) : exc z a b 5 b k = z a k := by
  unfold exc
  rw [set1_e]; unfold mix; rw [if_pos hk]
theorem exc_n (z : Nat → Nat → Int) {a b r : Nat} (ha : r ≠ a) (hb : r ≠ b) : exc z a b 5 r = z r := by
  unfold exc
  rw [set1_n _ _ hb, set1_n _ _ ha]
theorem ev_c5 {z z' : Nat → Nat → Int} {u r r' : Nat} (hu : u ≤ 4) (h : ∀ k, k < 5 → z r k = z' r' k) (x : Nat → Int) (t : Int) : ev z u r x t = ev z' u r' x t := by
  unfold ev
  rw [h 4 (by omega), sumTo_congr fun k hk => by rw [h k (by omega)]]
theorem exc_sol (z : Nat → Nat → Int) {a b u m : Nat} (hu : u ≤ 4) (ha : a < m) (hb : b < m) (x : Nat → Int) (t : Int) : Sol (exc z a b 5) u m x t ↔ Sol z u m x t := by
  have e1 : ev (exc z a b 5) u a x t = ev z u b x t := ev_c5 hu (fun k hk => exc_a z hk) x t
  have e2 : ev (exc z a b 5) u b x t = ev z u a x t := ev_c5 hu (fun k hk => exc_b z hk) x t
  constructor
  · intro h r hr
    by_cases q : r = a
    · subst q; rw [← e2]; exact h b hb
    · by_cases q2 : r = b
      · subst q2; rw [← e1]; exact h a ha
      · rw [← ev_c (exc_n z q q2) x t]; exact h r hr
  · intro h r hr
    by_cases q : r = a
    · subst q; rw [e1]; exact h b hb
    · by_cases q2 : r = b
      · subst q2; rw [e2]; exact h a ha
      · rw [ev_c (exc_n z q q2) x t]; exact h r hr
/-- a row without a common divisor, or nothing but 0 -/
def prim (f : Nat → Int) : Prop := gR f 5 = 1 ∨ ∀ k, k < 5 → f k = 0
theorem redF_p (f : Nat → Int) : prim (redF f) := by
  by_cases q : gR f 5 = 0
  · exact Or.inr fun k hk => redF_0 f q hk
  · refine Or.inl ?_
    have hd : ((gR f 5 * gR (redF f) 5 : Nat) : Int) ∣ ((gR f 5 : Nat) : Int) := gR_g fun c hc => by
      rw [redF_d f hc, Int.natCast_mul]
      exact Int.mul_dvd_mul (Int.dvd_refl _) (gR_d hc)
    have hd := Int.natCast_dvd_natCast.mp hd
    obtain ⟨k, hk⟩ := hd
    have : gR f 5 * 1 = gR f 5 * (gR (redF f) 5 * k) := by rw [← Nat.mul_assoc, Nat.mul_one]; exact hk
    have := Nat.eq_of_mul_eq_mul_left (Nat.pos_of_ne_zero q) this
    exact Nat.eq_one_of_mul_eq_one_right this.symm
