/-! ===== the reference: keep ===== -/
def pos (n : Nat) (p : Nat → Int) : List (Nat → Int) → Nat
  | [] => 0
  | q :: t => if 0 < cmpP p q n n then pos n p t + 1 else 0
def insL (n : Nat) (p : Nat → Int) : List (Nat → Int) → List (Nat → Int)
  | [] => [p]
  | q :: t => if 0 < cmpP p q n n then q :: insL n p t else if cmpP p q n n = 0 then q :: t else p :: q :: t
abbrev o0 : Nat → Int := fun _ => 0
theorem pos_le (n : Nat) (p : Nat → Int) : ∀ L, pos n p L ≤ L.length
  | [] => Nat.le_refl 0
  | q :: t => by
    have := pos_le n p t
    unfold pos
    split <;> simp <;> omega
theorem pos_lt (n : Nat) (p : Nat → Int) : ∀ (L : List (Nat → Int)) (k : Nat), k < pos n p L → 0 < cmpP p (L.getD k o0) n n
  | [], k, h => absurd h (Nat.not_lt_zero _)
  | q :: t, k, h => by
    unfold pos at h
    split at h
    · next w =>
      cases k with
      | zero => exact w
      | succ k => exact pos_lt n p t k (by omega)
    · omega
theorem pos_at (n : Nat) (p : Nat → Int) : ∀ (L : List (Nat → Int)), pos n p L < L.length → ¬ 0 < cmpP p (L.getD (pos n p L) o0) n n
  | [], h => absurd h (Nat.not_lt_zero _)
  | q :: t, h => by
    by_cases w : 0 < cmpP p q n n
    · have e : pos n p (q :: t) = pos n p t + 1 := by rw [pos, if_pos w]
      rw [e] at h ⊢
      exact pos_at n p t (by simpa using h)
    · have e : pos n p (q :: t) = 0 := by rw [pos, if_neg w]
      rw [e]
      exact w
theorem ins_id (n : Nat) (p : Nat → Int) : ∀ (L : List (Nat → Int)), pos n p L < L.length → cmpP p (L.getD (pos n p L) o0) n n = 0 → insL n p L = L
  | [], h, _ => absurd h (Nat.not_lt_zero _)
  | q :: t, h, h0 => by
    by_cases w : 0 < cmpP p q n n
    · have e : pos n p (q :: t) = pos n p t + 1 := by rw [pos, if_pos w]
      rw [e] at h h0
      unfold insL
      rw [if_pos w, ins_id n p t (by simpa using h) h0]
    · have e : pos n p (q :: t) = 0 := by rw [pos, if_neg w]
      rw [e] at h0
      unfold insL
      rw [if_neg w, if_pos (show cmpP p q n n = 0 from h0)]
theorem ins_len (n : Nat) (p : Nat → Int) : ∀ (L : List (Nat → Int)), (pos n p L < L.length → cmpP p (L.getD (pos n p L) o0) n n ≠ 0) → (insL n p L).length = L.length + 1 ∧ ∀ k, (insL n p L).getD k o0 = if k < pos n p L then L.getD k o0 else if k = pos n p L then p else L.getD (k - 1) o0
  | [], _ => ⟨rfl, fun k => by
      rw [if_neg (by unfold pos; omega)]
      cases k with
      | zero => rfl
      | succ k => rw [if_neg (by unfold pos; omega)]; rfl⟩
  | q :: t, h => by
    by_cases w : 0 < cmpP p q n n
    · have e : pos n p (q :: t) = pos n p t + 1 := by rw [pos, if_pos w]
      have ei : insL n p (q :: t) = q :: insL n p t := by
        rw [insL, if_pos w]
      rw [e] at h
      obtain ⟨h1, h2⟩ := ins_len n p t (fun y => h (by simpa using y))
      rw [ei, e]
      refine ⟨by simp [h1], fun k => ?_⟩
      cases k with
      | zero => rw [if_pos (by omega)]; rfl
      | succ k =>
        show (insL n p t).getD k o0 = _
        rw [h2 k]
        by_cases y1 : k < pos n p t
        · rw [if_pos y1, if_pos (by omega)]; rfl
        · rw [if_neg y1, if_neg (show ¬ k + 1 < pos n p t + 1 by omega)]
          by_cases y2 : k = pos n p t
          · rw [if_pos y2, if_pos (show k + 1 = pos n p t + 1 by omega)]
          · rw [if_neg y2, if_neg (show ¬ k + 1 = pos n p t + 1 by omega)]
            obtain ⟨j, rfl⟩ : ∃ j, k = j + 1 := ⟨k - 1, by omega⟩
            rfl
    · have e : pos n p (q :: t) = 0 := by rw [pos, if_neg w]
      rw [e] at h ⊢
      have h0 := h (by simp)
      have ei : insL n p (q :: t) = p :: q :: t := by
        rw [insL, if_neg w, if_neg (show ¬ cmpP p q n n = 0 from h0)]
      rw [ei]
      refine ⟨rfl, fun k => ?_⟩
      rw [if_neg (by omega)]
      cases k with
      | zero => rfl
      | succ k => rw [if_neg (by omega)]; rfl
/-- the corners found so far -/
def RC (H : mH) (n : Nat) (L : List (Nat → Int)) (v : Int32) (bA bB : Int64) (rw_ bo : Int32) : Prop := (∀ c, c < L.length → ∀ i, i < n → bd 2000000000 (L.getD c o0 i)) ∧ ∃ (fa fu : Nat → Int64), H[14]? = some (oM v (iZ L.length) bA bB rw_ bo) ∧ H[19]? = some (aL 1600 fa) ∧ H[20]? = some (aL 1600 fu) ∧ ∀ c, c < L.length → ∀ i, i < n → fa (4 * c + i) = lZ (lowZ (L.getD c o0 i) 2 0) ∧ fu (4 * c + i) = lZ (lowZ (L.getD c o0 i) 2 1)
def shf (f : Nat → Int64) (hi J : Nat) : Nat → Int64 := fun y => if J + 4 ≤ y ∧ y < hi + 4 then f (y - 4) else f y
theorem shf_s (f : Nat → Int64) {hi J : Nat} (h : J < hi) : vp_updL (shf f hi (J + 1)) (J + 4) (shf f hi (J + 1) J) = shf f hi J := by
  funext y
  unfold vp_updL shf
  by_cases w : y = J + 4
  · subst w
    rw [if_pos rfl, if_neg (by omega), if_pos (by omega)]
    rfl
  · rw [if_neg w]
    by_cases w2 : J + 1 + 4 ≤ y ∧ y < hi + 4
    · rw [if_pos w2, if_pos (by omega)]
    · rw [if_neg w2, if_neg (by omega)]
theorem shf_0 (f : Nat → Int64) (hi : Nat) : shf f hi hi = f := by
  funext y
  unfold shf
  rw [if_neg (by omega)]
def sto (f g : Nat → Int64) (a k : Nat) : Nat → Int64 := fun y => if a ≤ y ∧ y < a + k then g (y - a) else f y
theorem sto_s (f g : Nat → Int64) (a k : Nat) : vp_updL (sto f g a k) (a + k) (g k) = sto f g a (k + 1) := by
  funext y
  unfold vp_updL sto
  by_cases w : y = a + k
  · subst w
    rw [if_pos rfl, if_pos (by omega), Nat.add_sub_cancel_left]
  · rw [if_neg w]
    by_cases w2 : a ≤ y ∧ y < a + k
    · rw [if_pos w2, if_pos (by omega)]
    · rw [if_neg w2, if_neg (by omega)]
theorem sto_0 (f g : Nat → Int64) (a : Nat) : sto f g a 0 = f := by
  funext y
  unfold sto
  rw [if_neg (by omega)]
theorem lowZ_mul (a b : Int) {c : Int} (hc : 0 < c) (k : Nat) : lowZ (a * c) (b * c) k = lowZ a b k := by
  have e : ((Int.gcd (a * c) (b * c) : Nat) : Int) = (Int.gcd a b : Nat) * c := by
    rw [Int.gcd_mul_right, Int.natCast_mul, Int.natAbs_of_nonneg (by omega)]
  unfold lowZ
  rw [e]
  split
  · exact Int.mul_tdiv_mul_of_pos_left _ _ hc
  · exact Int.mul_tdiv_mul_of_pos_left _ _ hc
theorem lowZ_half {a b p : Int} (hb : 1 ≤ b) (hp : 2 * a = p * b) (k : Nat) : lowZ a b k = lowZ p 2 k := by
  have h1 := lowZ_mul p 2 (c := b) (by omega) k
  have h2 := lowZ_mul a b (c := 2) (by omega) k
  rw [← h1, ← h2, ← hp, Int.mul_comm a 2, Int.mul_comm b 2]
