/-! ===== the reference: corners as points in halves ===== -/

theorem low2 (q : Int) : ∃ g : Int, (g = 1 ∨ g = 2) ∧ lowZ q 2 0 * g = q ∧ lowZ q 2 1 * g = 2 := by
  refine ⟨(Int.gcd q 2 : Nat), ?_, ?_, ?_⟩
  · have h1 : Int.gcd q 2 ∣ 2 := Int.gcd_dvd_natAbs_right q 2
    have h2 : Int.gcd q 2 ≤ 2 := Nat.le_of_dvd (by decide) h1
    have h3 : Int.gcd q 2 ≠ 0 := fun q => by rw [q] at h1; omega
    omega
  · unfold lowZ
    rw [if_pos rfl]
    exact Int.tdiv_mul_cancel (Int.gcd_dvd_left q 2)
  · unfold lowZ
    rw [if_neg (by decide)]
    exact Int.tdiv_mul_cancel (Int.gcd_dvd_right q 2)
/-- below 0, 0, above 0: the first partner that tells two points apart, from k on -/
def cmpP (p q : Nat → Int) (n : Nat) : Nat → Int
  | 0 => 0
  | d + 1 => if p (n - (d + 1)) < q (n - (d + 1)) then -1 else if q (n - (d + 1)) < p (n - (d + 1)) then 1 else cmpP p q n d
theorem sgn_d {a b p q : Int} (hb : 1 ≤ b) (hp : 2 * a = p * b) : (a * lowZ q 2 1 - lowZ q 2 0 * b = 0 ↔ p = q) ∧ (0 ≤ a * lowZ q 2 1 - lowZ q 2 0 * b ↔ q ≤ p) := by
  obtain ⟨g, hg, h0, h1⟩ := low2 q
  have e : (a * lowZ q 2 1 - lowZ q 2 0 * b) * g = (p - q) * b := by
    rw [Int.sub_mul, Int.mul_assoc, h1, Int.mul_comm a 2, hp, Int.mul_comm (lowZ q 2 0) b, Int.mul_assoc, h0, Int.sub_mul, Int.mul_comm b q]
  generalize a * lowZ q 2 1 - lowZ q 2 0 * b = d at *
  have hb0 : b ≠ 0 := by omega
  have k0 : d = 0 ↔ p = q := by
    constructor
    · intro z
      rw [z, Int.zero_mul] at e
      rcases Int.mul_eq_zero.mp e.symm with q | q <;> omega
    · intro z
      rw [z, Int.sub_self, Int.zero_mul] at e
      rcases Int.mul_eq_zero.mp e with q | q
      · exact q
      · omega
  refine ⟨k0, ?_⟩
  constructor
  · intro z
    have h2 : 0 ≤ (p - q) * b := by rw [← e]; exact Int.mul_nonneg z (by omega)
    have := Int.nonneg_of_mul_nonneg_left h2 (by omega)
    omega
  · intro z
    have h2 : 0 ≤ d * g := by rw [e]; exact Int.mul_nonneg (by omega) (by omega)
    exact Int.nonneg_of_mul_nonneg_left h2 (by omega)
