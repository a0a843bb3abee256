/-! ===== corners: those of the reference are the vertices ===== -/
theorem bt_and : ∀ n, n ≤ 4 → ∀ s, s < 16 → ∀ k, k < 4 → bt (s &&& al n) k = if k < n then bt s k else 0 := by decide +kernel
theorem and_al : ∀ n, n ≤ 4 → ∀ s, s ≤ al n → s &&& al n = s := by decide +kernel
theorem and_le : ∀ n, n ≤ 4 → ∀ s, s < 16 → s &&& al n ≤ al n := by decide +kernel
theorem bt_hi : ∀ n, n ≤ 4 → ∀ s, s ≤ al n → ∀ k, k < 4 → n ≤ k → bt s k = 0 := by decide +kernel
theorem and_15 : ∀ n, n ≤ 4 → 15 &&& al n = al n := by decide +kernel
theorem dot_and {n : Nat} (hn : n ≤ 4) {p : Nat → Int} (hz : ∀ i, n ≤ i → p i = 0) {s : Nat} (hs : s < 16) : dot (s &&& al n) p = dot s p := by
  have f : ∀ k, k < 4 → (bt (s &&& al n) k : Int) * p k = bt s k * p k := by
    intro k hk
    rw [bt_and n hn s hs k hk]
    split
    · rfl
    · rw [hz k (by omega), Int.mul_zero, Int.mul_zero]
  unfold dot r3
  rw [f 0 (by decide), f 1 (by decide), f 2 (by decide), f 3 (by decide)]
theorem dot_n {n : Nat} (hn : n ≤ 4) {s : Nat} (hs : s ≤ al n) (x : Nat → Int) : sumTo (fun k => (bt s k : Int) * x k) n = dot s x := by
  have f : ∀ k, k < 4 → n ≤ k → (bt s k : Int) * x k = 0 := fun k hk h => by rw [bt_hi n hn s hs k hk h]; exact Int.zero_mul _
  have : n = 0 ∨ n = 1 ∨ n = 2 ∨ n = 3 ∨ n = 4 := by omega
  unfold dot r3
  rcases this with e | e | e | e | e <;> subst e <;> simp only [sumTo]
  · rw [f 0 (by decide) (by decide), f 1 (by decide) (by decide), f 2 (by decide) (by decide), f 3 (by decide) (by decide)]; omega
  · rw [f 1 (by decide) (by decide), f 2 (by decide) (by decide), f 3 (by decide) (by decide)]; omega
  · rw [f 2 (by decide) (by decide), f 3 (by decide) (by decide)]; omega
  · rw [f 3 (by decide) (by decide)]; omega
  · omega
theorem dot_7 (p : Nat → Int) : dot 7 p = p 0 + p 1 + p 2 := by
  unfold dot r3
  rw [show bt 7 0 = 1 from rfl, show bt 7 1 = 1 from rfl, show bt 7 2 = 1 from rfl, show bt 7 3 = 0 from rfl]
  grind
theorem dot_3 (p : Nat → Int) : dot 3 p = p 0 + p 1 := by
  unfold dot r3
  rw [show bt 3 0 = 1 from rfl, show bt 3 1 = 1 from rfl, show bt 3 2 = 0 from rfl, show bt 3 3 = 0 from rfl]
  grind
theorem dot_1 (p : Nat → Int) : dot 1 p = p 0 := by
  unfold dot r3
  rw [show bt 1 0 = 1 from rfl, show bt 1 1 = 0 from rfl, show bt 1 2 = 0 from rfl, show bt 1 3 = 0 from rfl]
  grind
theorem dot_2 (p : Nat → Int) : dot 2 p = p 1 := by
  unfold dot r3
  rw [show bt 2 0 = 0 from rfl, show bt 2 1 = 1 from rfl, show bt 2 2 = 0 from rfl, show bt 2 3 = 0 from rfl]
  grind
theorem dot_4 (p : Nat → Int) : dot 4 p = p 2 := by
  unfold dot r3
  rw [show bt 4 0 = 0 from rfl, show bt 4 1 = 0 from rfl, show bt 4 2 = 1 from rfl, show bt 4 3 = 0 from rfl]
  grind
theorem dot_8 (p : Nat → Int) : dot 8 p = p 3 := by
  unfold dot r3
  rw [show bt 8 0 = 0 from rfl, show bt 8 1 = 0 from rfl, show bt 8 2 = 0 from rfl, show bt 8 3 = 1 from rfl]
  grind
theorem dot_0 (p : Nat → Int) : dot 0 p = 0 := by
  unfold dot r3
  rw [show bt 0 0 = 0 from rfl, show bt 0 1 = 0 from rfl, show bt 0 2 = 0 from rfl, show bt 0 3 = 0 from rfl]
  grind
/-- the sets of a choice, by how many partners -/
theorem S_case {n : Nat} (h1 : 1 ≤ n) (h4 : n ≤ 4) {S : List Nat} (hl : S.length = n - 1) (hb : ∀ s, s ∈ S → 1 ≤ s ∧ s ≤ al n - 1) : (n = 4 ∧ ∃ a b c, S = [a, b, c] ∧ (1 ≤ a ∧ a ≤ 14) ∧ (1 ≤ b ∧ b ≤ 14) ∧ 1 ≤ c ∧ c ≤ 14) ∨ (n = 3 ∧ ∃ a b, S = [a, b] ∧ (1 ≤ a ∧ a ≤ 6) ∧ 1 ≤ b ∧ b ≤ 6) ∨ (n = 2 ∧ ∃ a, S = [a] ∧ 1 ≤ a ∧ a ≤ 2) ∨ (n = 1 ∧ S = []) := by
  have : n = 1 ∨ n = 2 ∨ n = 3 ∨ n = 4 := by omega
  rcases this with e | e | e | e <;> subst e
  · exact Or.inr (Or.inr (Or.inr ⟨rfl, List.eq_nil_of_length_eq_zero hl⟩))
  · rcases S with _ | ⟨a, _ | ⟨b, S⟩⟩
    · simp at hl
    · exact Or.inr (Or.inr (Or.inl ⟨rfl, a, rfl, hb a (by simp)⟩))
    · simp at hl
  · rcases S with _ | ⟨a, _ | ⟨b, _ | ⟨c, S⟩⟩⟩
    · simp at hl
    · simp at hl
    · exact Or.inr (Or.inl ⟨rfl, a, b, rfl, hb a (by simp), hb b (by simp)⟩)
    · simp at hl
  · rcases S with _ | ⟨a, _ | ⟨b, _ | ⟨c, _ | ⟨d, S⟩⟩⟩⟩
    · simp at hl
    · simp at hl
    · simp at hl
    · exact Or.inl ⟨rfl, a, b, c, rfl, hb a (by simp), hb b (by simp), hb c (by simp)⟩
    · simp at hl
theorem S_sol {n : Nat} (h1 : 1 ≤ n) (h4 : n ≤ 4) {w : Nat → Int} (hw : w 0 = 0) {S : List Nat} (hl : S.length = n - 1) (hb : ∀ s, s ∈ S → 1 ≤ s ∧ s ≤ al n - 1) (hd : dS n S ≠ 0) : (∀ s, s ∈ S → dot s (pS n w S) = 2 * w s) ∧ dot 15 (pS n w S) = 2 * w (al n) ∧ (∀ i, n ≤ i → pS n w S i = 0) ∧ dot (al n) (pS n w S) = 2 * w (al n) := by
  have z4 := pS_zb n w S
  rcases S_case h1 h4 hl hb with ⟨e, a, b, c, eS, ha, hb, hc⟩ | ⟨e, a, b, eS, ha, hb⟩ | ⟨e, a, eS, ha⟩ | ⟨e, eS⟩ <;> subst e <;> subst eS
  · obtain ⟨q0, q1, q2, q3, _⟩ := p3_sol (w := w4 4 w) (t0 := a) (t1 := b) (t2 := c) (by omega) (by omega) (by omega) hd
    have e : ∀ s, s ≤ 15 → w4 4 w s = w s := fun s hs => by unfold w4; rw [and_al 4 (by decide) s hs]
    rw [e a (by omega)] at q0
    rw [e b (by omega)] at q1
    rw [e c (by omega)] at q2
    rw [e 15 (by omega)] at q3
    refine ⟨fun s hs => ?_, q3, z4, q3⟩
    simp only [List.mem_cons, List.not_mem_nil, or_false] at hs
    rcases hs with e | e | e <;> subst e
    · exact q0
    · exact q1
    · exact q2
  · obtain ⟨q0, q1, q2, q3, _⟩ := p3_sol (w := w4 3 w) (t0 := a) (t1 := b) (t2 := 7) (by omega) (by omega) (by omega) hd
    have e : ∀ s, s ≤ 7 → w4 3 w s = w s := fun s hs => by unfold w4; rw [and_al 3 (by decide) s hs]
    rw [e a (by omega)] at q0
    rw [e b (by omega)] at q1
    rw [e 7 (by omega)] at q2
    have q3 : dot 15 (pS 3 w [a, b]) = 2 * w 7 := q3
    have q2 : dot 7 (pS 3 w [a, b]) = 2 * w 7 := q2
    refine ⟨fun s hs => ?_, q3, fun i hi => ?_, q2⟩
    · simp only [List.mem_cons, List.not_mem_nil, or_false] at hs
      rcases hs with e | e <;> subst e
      · exact q0
      · exact q1
    · by_cases h4 : 4 ≤ i
      · exact z4 i h4
      · have e : i = 3 := by omega
        subst e
        rw [dot_15] at q3
        rw [dot_7] at q2
        omega
  · obtain ⟨q0, q1, q2, q3, _⟩ := p3_sol (w := w4 2 w) (t0 := a) (t1 := 3) (t2 := 4) (by omega) (by omega) (by omega) hd
    have e : ∀ s, s ≤ 3 → w4 2 w s = w s := fun s hs => by unfold w4; rw [and_al 2 (by decide) s hs]
    rw [e a (by omega)] at q0
    rw [e 3 (by omega)] at q1
    have q3 : dot 15 (pS 2 w [a]) = 2 * w 3 := q3
    have q1 : dot 3 (pS 2 w [a]) = 2 * w 3 := q1
    have q2 : dot 4 (pS 2 w [a]) = 2 * w 0 := q2
    rw [hw] at q2
    refine ⟨fun s hs => ?_, q3, fun i hi => ?_, q1⟩
    · rw [List.mem_singleton.mp hs]
      exact q0
    · by_cases h4 : 4 ≤ i
      · exact z4 i h4
      · rw [dot_15] at q3
        rw [dot_3] at q1
        rw [dot_4] at q2
        have e : i = 2 ∨ i = 3 := by omega
        rcases e with e | e <;> subst e <;> omega
  · obtain ⟨q0, q1, q2, q3, _⟩ := p3_sol (w := w4 1 w) (t0 := 1) (t1 := 2) (t2 := 4) (by omega) (by omega) (by omega) (by decide)
    have q3 : dot 15 (pS 1 w []) = 2 * w 1 := q3
    have q0 : dot 1 (pS 1 w []) = 2 * w 1 := q0
    have q1 : dot 2 (pS 1 w []) = 2 * w 0 := q1
    have q2 : dot 4 (pS 1 w []) = 2 * w 0 := q2
    rw [hw] at q2 q1
    refine ⟨fun s hs => absurd hs List.not_mem_nil, q3, fun i hi => ?_, q0⟩
    by_cases h4 : 4 ≤ i
    · exact z4 i h4
    · rw [dot_15] at q3
      rw [dot_1] at q0
      rw [dot_4] at q2
      rw [dot_2] at q1
      have e : i = 1 ∨ i = 2 ∨ i = 3 := by omega
      rcases e with e | e | e <;> subst e <;> omega
theorem S_ker {n : Nat} (h1 : 1 ≤ n) (h4 : n ≤ 4) {S : List Nat} (hl : S.length = n - 1) (hb : ∀ s, s ∈ S → 1 ≤ s ∧ s ≤ al n - 1) (hd : dS n S ≠ 0) {x : Nat → Int} (hx : ∀ s, s ∈ S → dot s x = 0) (hal : dot (al n) x = 0) : ∀ i, i < n → x i = 0 := by
  rcases S_case h1 h4 hl hb with ⟨e, a, b, c, eS, ha, hb, hc⟩ | ⟨e, a, b, eS, ha, hb⟩ | ⟨e, a, eS, ha⟩ | ⟨e, eS⟩ <;> subst e <;> subst eS
  · have h15 : dot 15 x = 2 * (fun _ => (0 : Int)) 15 := hal
    have f : ∀ s, s < 16 → dot s x = 0 → r3 (fr s) x = 0 := by
      intro s hs h
      have := (dot_en (w := fun _ => 0) hs h15).mp h
      rw [this]
      unfold en
      split <;> rfl
    have k := tri_ker (fr_lt (show a < 16 by omega)) (fr_lt (show b < 16 by omega)) (fr_lt (show c < 16 by omega)) hd (f a (by omega) (hx a (by simp))) (f b (by omega) (hx b (by simp))) (f c (by omega) (hx c (by simp)))
    have k0 := k 0 (by decide)
    have k1 := k 1 (by decide)
    have k2 := k 2 (by decide)
    have h15 : dot 15 x = 0 := hal
    rw [dot_15] at h15
    intro i hi
    have : i = 0 ∨ i = 1 ∨ i = 2 ∨ i = 3 := by omega
    rcases this with q | q | q | q <;> subst q <;> omega
  · have fe : ∀ s, s < 8 → fr s = s := fun s hs => if_pos hs
    have hd' : dt (fr a) (fr b) (fr 7) ≠ 0 := hd
    rw [fe a (by omega), fe b (by omega), fe 7 (by omega)] at hd'
    exact tri_ker (by omega) (by omega) (by omega) hd' ((dot_lo (by omega) x).symm.trans (hx a (by simp))) ((dot_lo (by omega) x).symm.trans (hx b (by simp))) ((dot_lo (by omega) x).symm.trans hal)
  · have fe : ∀ s, s < 8 → fr s = s := fun s hs => if_pos hs
    have hd' : dt (fr a) (fr 3) (fr 4) ≠ 0 := hd
    rw [fe a (by omega), fe 3 (by omega), fe 4 (by omega)] at hd'
    have e1 : x 0 + x 1 = 0 := (dot_3 x).symm.trans hal
    have e2 := hx a (by simp)
    have : a = 1 ∨ a = 2 := by omega
    intro i hi
    have hi2 : i = 0 ∨ i = 1 := by omega
    rcases this with q | q <;> subst q
    · rw [dot_1] at e2
      rcases hi2 with q | q <;> subst q <;> omega
    · rw [dot_2] at e2
      rcases hi2 with q | q <;> subst q <;> omega
  · intro i hi
    have e1 : x 0 = 0 := (dot_1 x).symm.trans hal
    have : i = 0 := by omega
    subst this
    exact e1
theorem S_bad {n : Nat} (h1 : 1 ≤ n) (h4 : n ≤ 4) {S : List Nat} (hl : S.length = n - 1) (hb : ∀ s, s ∈ S → 1 ≤ s ∧ s ≤ al n - 1) (hd : dS n S = 0) : ∃ x : Nat → Int, (∃ i, i < n ∧ x i ≠ 0) ∧ (∀ s, s ∈ S → dot s x = 0) ∧ dot (al n) x = 0 := by
  have nz : ∀ x y z : Int, (x ≠ 0 ∨ y ≠ 0 ∨ z ≠ 0) → ∀ X : Nat → Int, X 0 = x → X 1 = y → X 2 = z → ∃ i, i < 3 ∧ X i ≠ 0 := by
    intro x y z h X e0 e1 e2
    rcases h with h | h | h
    · exact ⟨0, by decide, by rw [e0]; exact h⟩
    · exact ⟨1, by decide, by rw [e1]; exact h⟩
    · exact ⟨2, by decide, by rw [e2]; exact h⟩
  have fe : ∀ s, s < 8 → fr s = s := fun s hs => if_pos hs
  rcases S_case h1 h4 hl hb with ⟨e, a, b, c, eS, ha, hb, hc⟩ | ⟨e, a, b, eS, ha, hb⟩ | ⟨e, a, eS, ha⟩ | ⟨e, eS⟩ <;> subst e <;> subst eS
  · obtain ⟨x, y, z, hn, ka, kb, kc⟩ := tri_bad (fr_lt (show a < 16 by omega)) (fr_lt (show b < 16 by omega)) (fr_lt (show c < 16 by omega)) hd
    let X : Nat → Int := fun k => if k = 3 then - (x + y + z) else v3 x y z k
    have r : ∀ s, r3 s X = r3 s (v3 x y z) := fun s => rfl
    have h15 : dot 15 X = 2 * (fun _ => (0 : Int)) 15 := by
      rw [dot_15]
      show x + y + z + - (x + y + z) = 2 * 0
      omega
    have f : ∀ s, s < 16 → r3 (fr s) (v3 x y z) = 0 → dot s X = 0 := by
      intro s hs h
      have := (dot_en (w := fun _ => 0) (p := X) hs h15).mpr (by
        rw [r, h]
        unfold en
        split <;> rfl)
      exact this
    obtain ⟨i, hi, hxi⟩ := nz x y z hn X rfl rfl rfl
    refine ⟨X, ⟨i, by omega, hxi⟩, fun s hs => ?_, h15⟩
    simp only [List.mem_cons, List.not_mem_nil, or_false] at hs
    rcases hs with e | e | e <;> subst e
    · exact f _ (by omega) ka
    · exact f _ (by omega) kb
    · exact f _ (by omega) kc
  · have hd' : dt (fr a) (fr b) (fr 7) = 0 := hd
    rw [fe a (by omega), fe b (by omega), fe 7 (by omega)] at hd'
    obtain ⟨x, y, z, hn, ka, kb, kc⟩ := tri_bad (by omega) (by omega) (by omega) hd'
    obtain ⟨i, hi, hxi⟩ := nz x y z hn (v3 x y z) rfl rfl rfl
    refine ⟨v3 x y z, ⟨i, hi, hxi⟩, fun s hs => ?_, (dot_lo (show 7 < 8 by decide) _).trans kc⟩
    simp only [List.mem_cons, List.not_mem_nil, or_false] at hs
    rcases hs with e | e <;> subst e
    · exact (dot_lo (by omega) _).trans ka
    · exact (dot_lo (by omega) _).trans kb
  · have hd' : dt (fr a) (fr 3) (fr 4) = 0 := hd
    have : a = 1 ∨ a = 2 := by omega
    rcases this with q | q <;> subst q
    · exact absurd hd' (by decide)
    · exact absurd hd' (by decide)
  · exact absurd hd (by decide)
