/-! ===== corners: three rows of the first three partners ===== -/
def cr (a b k : Nat) : Int := (bt a ((k + 1) % 3) : Int) * bt b ((k + 2) % 3) - bt a ((k + 2) % 3) * bt b ((k + 1) % 3)
def r3 (s : Nat) (p : Nat → Int) : Int := bt s 0 * p 0 + bt s 1 * p 1 + bt s 2 * p 2
def dt (a b c : Nat) : Int := r3 a (cr b c)
def tms (a b c : Nat) (ea eb ec : Int) (k : Nat) : Int := cr b c k * ea + cr c a k * eb + cr a b k * ec
def pt (a b c : Nat) (ea eb ec tot : Int) : Nat → Int := fun k => if k < 3 then (tms a b c ea eb ec k).tdiv (dt a b c) else if k = 3 then tot - (tms a b c ea eb ec 0).tdiv (dt a b c) - (tms a b c ea eb ec 1).tdiv (dt a b c) - (tms a b c ea eb ec 2).tdiv (dt a b c) else 0
theorem dt_2 : ∀ a, a < 8 → ∀ b, b < 8 → ∀ c, c < 8 → -2 ≤ dt a b c ∧ dt a b c ≤ 2 := by decide +kernel
theorem dt_rowa : ∀ a, a < 8 → ∀ b, b < 8 → ∀ c, c < 8 → r3 a (cr c a) = 0 ∧ r3 a (cr a b) = 0 := by decide +kernel
theorem dt_rowb : ∀ a, a < 8 → ∀ b, b < 8 → ∀ c, c < 8 → r3 b (cr b c) = 0 ∧ r3 b (cr c a) = dt a b c ∧ r3 b (cr a b) = 0 := by decide +kernel
theorem dt_rowc : ∀ a, a < 8 → ∀ b, b < 8 → ∀ c, c < 8 → r3 c (cr b c) = 0 ∧ r3 c (cr c a) = 0 ∧ r3 c (cr a b) = dt a b c := by decide +kernel
theorem dt_rows : ∀ a, a < 8 → ∀ b, b < 8 → ∀ c, c < 8 → (r3 a (cr c a) = 0 ∧ r3 a (cr a b) = 0) ∧ (r3 b (cr b c) = 0 ∧ r3 b (cr c a) = dt a b c ∧ r3 b (cr a b) = 0) ∧ (r3 c (cr b c) = 0 ∧ r3 c (cr c a) = 0 ∧ r3 c (cr a b) = dt a b c) := fun a ha b hb c hc => ⟨dt_rowa a ha b hb c hc, dt_rowb a ha b hb c hc, dt_rowc a ha b hb c hc⟩
theorem dt_cols : ∀ a, a < 8 → ∀ b, b < 8 → ∀ c, c < 8 → ∀ k, k < 3 → ∀ l, l < 3 → cr b c k * bt a l + cr c a k * bt b l + cr a b k * bt c l = if k = l then dt a b c else 0 := by decide +kernel
theorem cr_b : ∀ a, a < 8 → ∀ b, b < 8 → ∀ k, k < 3 → -1 ≤ cr a b k ∧ cr a b k ≤ 1 := by decide +kernel
theorem tms_r3 (s a b c : Nat) (ea eb ec : Int) : r3 s (tms a b c ea eb ec) = r3 s (cr b c) * ea + r3 s (cr c a) * eb + r3 s (cr a b) * ec := by
  unfold r3 tms
  grind
theorem pt_dv {a b c : Nat} (ha : a < 8) (hb : b < 8) (hc : c < 8) (h0 : dt a b c ≠ 0) (ea eb ec : Int) (k : Nat) : (tms a b c (2 * ea) (2 * eb) (2 * ec) k).tdiv (dt a b c) * dt a b c = tms a b c (2 * ea) (2 * eb) (2 * ec) k := by
  refine Int.tdiv_mul_cancel ?_
  have e : tms a b c (2 * ea) (2 * eb) (2 * ec) k = 2 * tms a b c ea eb ec k := by unfold tms; grind
  have h2 := dt_2 a ha b hb c hc
  rw [e]
  refine Int.dvd_mul_of_dvd_left ?_
  have : dt a b c = -2 ∨ dt a b c = -1 ∨ dt a b c = 1 ∨ dt a b c = 2 := by omega
  rcases this with q | q | q | q <;> rw [q] <;> decide
theorem pt_r3 {a b c : Nat} (ha : a < 8) (hb : b < 8) (hc : c < 8) (h0 : dt a b c ≠ 0) (ea eb ec tot : Int) (s : Nat) : r3 s (pt a b c (2 * ea) (2 * eb) (2 * ec) tot) * dt a b c = r3 s (tms a b c (2 * ea) (2 * eb) (2 * ec)) := by
  have k0 := pt_dv ha hb hc h0 ea eb ec 0
  have k1 := pt_dv ha hb hc h0 ea eb ec 1
  have k2 := pt_dv ha hb hc h0 ea eb ec 2
  unfold r3 pt
  simp only [Nat.reduceLT, if_true]
  grind
theorem pt_sol {a b c : Nat} (ha : a < 8) (hb : b < 8) (hc : c < 8) (h0 : dt a b c ≠ 0) (ea eb ec tot : Int) : r3 a (pt a b c (2 * ea) (2 * eb) (2 * ec) tot) = 2 * ea ∧ r3 b (pt a b c (2 * ea) (2 * eb) (2 * ec) tot) = 2 * eb ∧ r3 c (pt a b c (2 * ea) (2 * eb) (2 * ec) tot) = 2 * ec := by
  obtain ⟨⟨a1, a2⟩, ⟨b1, b2, b3⟩, ⟨c1, c2, c3⟩⟩ := dt_rows a ha b hb c hc
  have f := fun s => pt_r3 ha hb hc h0 ea eb ec tot s
  refine ⟨Int.eq_of_mul_eq_mul_right h0 ?_, Int.eq_of_mul_eq_mul_right h0 ?_, Int.eq_of_mul_eq_mul_right h0 ?_⟩
  · rw [f, tms_r3, a1, a2, show r3 a (cr b c) = dt a b c from rfl]; grind
  · rw [f, tms_r3, b1, b2, b3]; grind
  · rw [f, tms_r3, c1, c2, c3]; grind
theorem tri_ker {a b c : Nat} (ha : a < 8) (hb : b < 8) (hc : c < 8) (h0 : dt a b c ≠ 0) {x : Nat → Int} (xa : r3 a x = 0) (xb : r3 b x = 0) (xc : r3 c x = 0) : ∀ k, k < 3 → x k = 0 := by
  intro k hk
  have f := dt_cols a ha b hb c hc k hk
  have f0 := f 0 (by decide)
  have f1 := f 1 (by decide)
  have f2 := f 2 (by decide)
  have e : cr b c k * r3 a x + cr c a k * r3 b x + cr a b k * r3 c x = (cr b c k * bt a 0 + cr c a k * bt b 0 + cr a b k * bt c 0) * x 0 + (cr b c k * bt a 1 + cr c a k * bt b 1 + cr a b k * bt c 1) * x 1 + (cr b c k * bt a 2 + cr c a k * bt b 2 + cr a b k * bt c 2) * x 2 := by
    unfold r3
    grind
  rw [xa, xb, xc, f0, f1, f2] at e
  have e2 : dt a b c * x k = 0 := by
    have : k = 0 ∨ k = 1 ∨ k = 2 := by omega
    rcases this with q | q | q <;> subst q <;> simpa using e.symm
  rcases Int.mul_eq_zero.mp e2 with q | q
  · exact absurd q h0
  · exact q
def v3 (x y z : Int) : Nat → Int := fun k => if k = 0 then x else if k = 1 then y else if k = 2 then z else 0
def kerL : List (Int × Int × Int) := [(1, 0, 0), (0, 1, 0), (0, 0, 1), (1, -1, 0), (1, 0, -1), (0, 1, -1), (1, 1, -1), (1, -1, 1), (-1, 1, 1)]
theorem tri_sing : ∀ a, a < 8 → ∀ b, b < 8 → ∀ c, c < 8 → dt a b c = 0 → (kerL.any fun x => decide (r3 a (v3 x.1 x.2.1 x.2.2) = 0 ∧ r3 b (v3 x.1 x.2.1 x.2.2) = 0 ∧ r3 c (v3 x.1 x.2.1 x.2.2) = 0)) = true := by decide +kernel
theorem tri_bad {a b c : Nat} (ha : a < 8) (hb : b < 8) (hc : c < 8) (h0 : dt a b c = 0) : ∃ x y z : Int, (x ≠ 0 ∨ y ≠ 0 ∨ z ≠ 0) ∧ r3 a (v3 x y z) = 0 ∧ r3 b (v3 x y z) = 0 ∧ r3 c (v3 x y z) = 0 := by
  have h := tri_sing a ha b hb c hc h0
  rw [List.any_eq_true] at h
  obtain ⟨⟨x, y, z⟩, hm, hd⟩ := h
  refine ⟨x, y, z, ?_, of_decide_eq_true hd⟩
  simp only [kerL, List.mem_cons, Prod.mk.injEq, List.not_mem_nil, or_false] at hm
  omega
theorem pt_b {a b c : Nat} (ha : a < 8) (hb : b < 8) (hc : c < 8) {ea eb ec tot : Int} (e1 : bd 32000000 ea) (e2 : bd 32000000 eb) (e3 : bd 32000000 ec) (e4 : bd 32000000 tot) (k : Nat) : bd 400000000 (pt a b c ea eb ec tot k) := by
  have f : ∀ k, k < 3 → bd 96000000 ((tms a b c ea eb ec k).tdiv (dt a b c)) := by
    intro k hk
    refine bd_tdiv _ ?_
    have g1 := bd_mul (show bd 1 (cr b c k) from cr_b b hb c hc k hk) e1
    have g2 := bd_mul (show bd 1 (cr c a k) from cr_b c hc a ha k hk) e2
    have g3 := bd_mul (show bd 1 (cr a b k) from cr_b a ha b hb k hk) e3
    unfold tms
    unfold bd at *
    omega
  have f0 := f 0 (by decide)
  have f1 := f 1 (by decide)
  have f2 := f 2 (by decide)
  unfold pt
  split
  · next hk =>
    have := f k hk
    unfold bd at *; omega
  · split
    · unfold bd at *; omega
    · unfold bd; omega
