/-! ===== the reference: its small methods ===== -/
/-- 1 or 0 -/
def tf (p : Prop) [Decidable p] : Int32 := if p then 1 else 0
theorem tf_t {p : Prop} [Decidable p] (h : p) : tf p = 1 := if_pos h
theorem tf_f {p : Prop} [Decidable p] (h : ¬ p) : tf p = 0 := if_neg h
theorem tf_0 {p : Prop} [Decidable p] : tf p = 0 ↔ ¬ p := by unfold tf; split <;> simp_all
theorem tf_n0 {p : Prop} [Decidable p] : ¬ tf p = 0 ↔ p := by unfold tf; split <;> simp_all
theorem tf_01 {p : Prop} [Decidable p] : tf p = 0 ∨ tf p = 1 := by unfold tf; split <;> simp
theorem tf_c {p q : Prop} [Decidable p] [Decidable q] (h : p ↔ q) : tf p = tf q := by unfold tf; simp only [h]
/-- venture i of the reference: n partners, the worths w -/
def MV (h : mH) (i n : Nat) (w : Nat → Int) : Prop := i < 11 ∧ (1 ≤ n ∧ n ≤ 4) ∧ (∀ s, bd 16000 (w s)) ∧ ∃ (v cor : Int32) (bA bB : Int64) (rw_ bo : Int32) (sz : Nat → Int32) (g : Nat → Int64), h[14]? = some (oM v cor bA bB rw_ bo) ∧ h[16]? = some (aI 11 sz) ∧ h[17]? = some (aL 176 g) ∧ sz i = iZ n ∧ ∀ s, s < 16 → g (16 * i + s) = lZ (w s)
section ML
variable {h : mH} {Q : Option Value → mH → Prop} {i n : Nat} {w : Nat → Int}
theorem c137 {a b d : Int} (ha : i32 a) (hb : i32 b) (hd : i32 d) (hq : Q (some (.int (tf (b ≤ a ∧ a ≤ d)))) h) : mCt mCd 137 [.ref 14, .int (iZ a), .int (iZ b), .int (iZ d)] h Q := by
  refine en137 (b137_0 (fun q => b137_14 ?_) (fun q => b137_5 (fun q2 => b137_14 ?_) (fun q2 => b137_10 ?_)))
  · rw [iZ_lt ha hb] at q
    rwa [tf_f (by omega)] at hq
  · rw [iZ_lt hd ha] at q2
    rwa [tf_f (by omega)] at hq
  · rw [iZ_lt ha hb] at q
    rw [iZ_lt hd ha] at q2
    rwa [tf_t (by omega)] at hq
theorem c138 {cor : Int32} {bA bB : Int64} {rw_ bo : Int32} {c : Nat} (hc : c ≤ 11) (e1 : h[14]? = some (oM (iZ c) cor bA bB rw_ bo)) {a : Int} (ha : i32 a) (hq : Q (some (.int (tf (0 ≤ a ∧ a < c)))) h) : mCt mCd 138 [.ref 14, .int (iZ a)] h Q := by
  refine en138 (b138_0 e1 ?_)
  rw [iZ_sub]
  refine c137 ha ⟨by omega, by omega⟩ ⟨by omega, by omega⟩ (b138_12 tf_01 ?_)
  rw [tf_c (q := 0 ≤ a ∧ a < c) (by omega)]
  exact hq
theorem c139 (hv : MV h i n w) (hq : Q (some (.int (iZ (al n)))) h) : mCt mCd 139 [.ref 14, .int (iZ i)] h Q := by
  obtain ⟨hi, ⟨hn1, hn4⟩, -, v, cor, bA, bB, rw_, bo, sz, g, e1, e2, -, hg, -⟩ := hv
  refine en139 (b139_0 e1 e2 (iZ_in (by omega) (by omega) (by decide)) ?_)
  rw [iZ_nat (by omega) (by omega), Int.toNat_natCast, hg, iZ_shl _ (by omega), iZ_sub]
  have : ((2 ^ n : Nat) : Int) - 1 = (al n : Nat) := by
    have := two_pow_pos n
    unfold al; omega
  rw [this]
  exact hq
theorem c140 {s : Nat} (hs : s < 16) (hq : Q (some (.int (iZ (ones s)))) h) : mCt mCd 140 [.ref 14, .int (iZ s)] h Q := by
  refine en140 (b140_0 ?_)
  have : ∀ s, s < 16 → ((iZ (s : Nat) &&& iZ 1) + ((iZ (s : Nat) >>> (iZ 1 &&& 31)) &&& iZ 1)) + ((iZ (s : Nat) >>> (iZ 2 &&& 31)) &&& iZ 1) + ((iZ (s : Nat) >>> (iZ 3 &&& 31)) &&& iZ 1) = iZ (ones s) := by decide +kernel
  rw [this s hs]
  exact hq
theorem c141 (hv : MV h i n w) {a : Int} (ha : i32 a) (hq : Q (some (.int (tf (0 ≤ a ∧ a ≤ al n)))) h) : mCt mCd 141 [.ref 14, .int (iZ i), .int (iZ a)] h Q := by
  have hv' := hv
  obtain ⟨hi, ⟨hn1, hn4⟩, -, v, cor, bA, bB, rw_, bo, sz, g, e1, e2, -, hg, -⟩ := hv'
  have := al_lt hn4
  exact en141 (b141_0 e1 (c139 hv (b141_8 e1 (c137 ha ⟨by omega, by omega⟩ ⟨by omega, by omega⟩ (b141_11 tf_01 hq)))))
theorem c142 (hv : MV h i n w) {a : Int} (ha : i32 a) (hq : Q (some (.int (tf (1 ≤ a ∧ a < al n)))) h) : mCt mCd 142 [.ref 14, .int (iZ i), .int (iZ a)] h Q := by
  have hv' := hv
  obtain ⟨hi, ⟨hn1, hn4⟩, -, v, cor, bA, bB, rw_, bo, sz, g, e1, e2, -, hg, -⟩ := hv'
  have := al_lt hn4
  refine en142 (b142_0 e1 (c139 hv (b142_8 e1 ?_)))
  rw [iZ_sub]
  refine c137 ha ⟨by omega, by omega⟩ ⟨by omega, by omega⟩ (b142_13 tf_01 ?_)
  rw [tf_c (q := 1 ≤ a ∧ a < al n) (by omega)]
  exact hq
theorem c143 (hv : MV h i n w) {a : Int} (ha : i32 a) (hq : Q (some (.int (tf (0 ≤ a ∧ a < n)))) h) : mCt mCd 143 [.ref 14, .int (iZ i), .int (iZ a)] h Q := by
  obtain ⟨hi, ⟨hn1, hn4⟩, -, v, cor, bA, bB, rw_, bo, sz, g, e1, e2, -, hg, -⟩ := hv
  refine en143 (b143_0 e1 e2 (iZ_in (by omega) (by omega) (by decide)) ?_)
  rw [iZ_nat (by omega) (by omega), Int.toNat_natCast, hg, iZ_sub]
  refine c137 ha ⟨by omega, by omega⟩ ⟨by omega, by omega⟩ (b143_14 tf_01 ?_)
  rw [tf_c (q := 0 ≤ a ∧ a < n) (by omega)]
  exact hq
theorem c144 (hv : MV h i n w) {s : Nat} (hs : s < 16) (hq : Q (some (.long (lZ (w s)))) h) : mCt mCd 144 [.ref 14, .int (iZ i), .int (iZ s)] h Q := by
  obtain ⟨hi, -, -, v, cor, bA, bB, rw_, bo, sz, g, e1, -, e2, -, hg⟩ := hv
  have e : iZ 16 * iZ i + iZ s = iZ ((16 * i + s : Nat) : Int) := by
    rw [iZ_mul, iZ_add]; congr 1
  refine en144 (b144_0 e1 e2 ?_ ?_)
  · rw [e]; exact iZ_in (by omega) (by omega) (by decide)
  · rw [e, iZ_nat (by omega) (by omega), Int.toNat_natCast, hg s hs]; exact hq
/-- raised: a power, as ints wrap -/
theorem l149 {b : Int} {n : Nat} (hn : n ≤ 4) : ∀ k, k ≤ n → ∀ p : Int, Q (some (.int (iZ (p * b ^ (n - k))))) h → mWp mCd 149 (5, [none, some (.int (iZ b)), some (.int (iZ n)), some (.int (iZ p)), some (.int (iZ k))], [], h, 0, 0) Q := by
  refine lp_up n ?_ ?_
  · intro p hq
    refine b149_5 (fun q => b149_21 ?_) (fun q => absurd (Int32.le_refl _) q)
    simpa using hq
  · intro k hk ih p hq
    refine b149_5 (fun q => ?_) (fun q => b149_11 ?_)
    · rw [iZ_le ⟨by omega, by omega⟩ ⟨by omega, by omega⟩] at q; omega
    · rw [iZ_mul, iZ_add]
      refine ih (p * b) ?_
      rw [show n - k = (n - (k + 1)) + 1 by omega, Int.pow_succ] at hq
      rwa [Int.mul_assoc, Int.mul_comm b]
theorem c149 {b : Int} {n : Nat} (hn : n ≤ 4) (hq : Q (some (.int (iZ (b ^ n)))) h) : mCt mCd 149 [.ref 14, .int (iZ b), .int (iZ n)] h Q := by
  refine en149 (b149_0 ?_)
  exact l149 hn 0 (Nat.zero_le n) 1 (by simpa using hq)
/-- the greatest common divisor -/
theorem l160 : ∀ (y x : Nat), x < 4611686018427387904 → y < 4611686018427387904 → Q (some (.long (lZ (Nat.gcd x y)))) h → mWp mCd 160 (28, [none, none, none, none, none, some (.long (lZ x)), none, some (.long (lZ y)), none, none, none], [], h, 0, 0) Q := by
  intro y
  induction y using Nat.strongRecOn with
  | ind y ih =>
    intro x hx hy hq
    have hyb : i64 (y : Int) := ⟨by omega, by omega⟩
    have hxb : i64 (x : Int) := ⟨by omega, by omega⟩
    refine b160_28 (fun q => b160_53 ?_) (fun q => b160_35 ?_ ?_)
    · rw [cmp_eq0 hyb ⟨by omega, by omega⟩] at q
      have : y = 0 := by omega
      subst this
      simpa using hq
    · rw [cmp_eq0 hyb ⟨by omega, by omega⟩] at q
      rw [lZ_eq0 hyb]; exact q
    · rw [cmp_eq0 hyb ⟨by omega, by omega⟩] at q
      have hy0 : 0 < y := by omega
      rw [lZ_rem hxb hyb (by omega)]
      have e : (x : Int).tmod (y : Int) = ((x % y : Nat) : Int) := by
        rw [Int.tmod_eq_emod_of_nonneg (by omega)]; exact (Int.natCast_emod x y).symm
      rw [e]
      have hm := Nat.mod_lt x hy0
      refine ih (x % y) hm y hy (by omega) ?_
      rw [Nat.gcd_comm] at hq
      rw [Nat.gcd_rec] at hq
      rwa [Nat.gcd_comm] at hq
theorem c160 {a b : Int} (ha : bd 4611686018427387903 a) (hb : bd 4611686018427387903 b) (hq : Q (some (.long (lZ (Int.gcd a b)))) h) : mCt mCd 160 [.ref 14, .long (lZ a), .long (lZ b)] h Q := by
  have hai : i64 a := ⟨by unfold bd at *; omega, by unfold bd at *; omega⟩
  have hbi : i64 b := ⟨by unfold bd at *; omega, by unfold bd at *; omega⟩
  have h0 : i64 0 := ⟨by omega, by omega⟩
  have fin : ∀ (x y : Int), x = a.natAbs → y = b.natAbs → mWp mCd 160 (28, [none, none, none, none, none, some (.long (lZ x)), none, some (.long (lZ y)), none, none, none], [], h, 0, 0) Q := by
    intro x y hx hy
    subst hx; subst hy
    exact l160 _ _ (by unfold bd at *; omega) (by unfold bd at *; omega) hq
  have mid : ∀ x : Int, x = a.natAbs → mWp mCd 160 (12, [none, none, none, some (.long (lZ b)), none, none, none, none, none, none, none], [.long (lZ x)], h, 0, 0) Q := by
    intro x hx
    refine b160_12 (fun q => b160_25 (b160_26 ?_)) (fun q => b160_20 (b160_26 ?_))
    · rw [cmp_ge0 hbi h0] at q
      exact fin x b hx (by omega)
    · rw [cmp_ge0 hbi h0] at q
      rw [lZ_neg]
      exact fin x (-b) hx (by omega)
  refine en160 (b160_0 (fun q => b160_11 ?_) (fun q => b160_6 ?_))
  · rw [cmp_ge0 hai h0] at q
    exact mid a (by omega)
  · rw [cmp_ge0 hai h0] at q
    rw [lZ_neg]
    exact mid (-a) (by omega)
theorem c161 {v cor : Int32} {bA bB : Int64} {rw_ bo : Int32} (e1 : h[14]? = some (oM v cor bA bB rw_ bo)) {a b : Int} {k : Nat} (hk : k < 2) (ha : bd 4611686018427387903 a) (hb : bd 4611686018427387903 b) (hb0 : 0 < b) (hq : Q (some (.long (lZ (lowZ a b k)))) h) : mCt mCd 161 [.ref 14, .long (lZ a), .long (lZ b), .int (iZ k)] h Q := by
  have hai : i64 a := ⟨by unfold bd at *; omega, by unfold bd at *; omega⟩
  have hbi : i64 b := ⟨by unfold bd at *; omega, by unfold bd at *; omega⟩
  have h0 : i64 0 := ⟨by omega, by omega⟩
  have hkb : i32 (k : Int) := ⟨by omega, by omega⟩
  have hg0 : 0 < Int.gcd a b := Nat.pos_of_ne_zero fun z => by
    have := (Int.gcd_eq_zero_iff.mp z).2
    omega
  have hgb : Int.gcd a b ≤ b.natAbs := Int.gcd_le_natAbs_right a (by omega)
  have hgi : i64 (Int.gcd a b : Int) := ⟨by omega, by unfold bd at *; omega⟩
  refine en161 (b161_0 (fun q => b161_17 (fun q2 => b161_33 e1 (c160 ha hb (b161_39 (fun q3 => b161_53 ?_ ?_) (fun q3 => b161_46 ?_ ?_)))) (fun q2 => ?_)) (fun q => b161_6 (fun q3 => b161_15 ?_) (fun q3 => b161_11 ?_)))
  · rw [lZ_eq0 hgi]; omega
  · rw [iZ_eq0 hkb] at q3
    rw [lZ_div hbi hgi (by unfold bd at *; omega)]
    rwa [lowZ, if_neg (by omega)] at hq
  · rw [lZ_eq0 hgi]; omega
  · rw [iZ_eq0 hkb] at q3
    rw [lZ_div hai hgi (by unfold bd at *; omega)]
    rwa [lowZ, if_pos (by omega)] at hq
  · rw [cmp_ge0 hbi h0] at q2; omega
  · rw [cmp_eq0 hai h0] at q
    have : a = 0 := by omega
    subst this
    rw [iZ_eq0 hkb] at q3
    rw [lowZ, if_neg (by omega), Int.gcd_zero_left] at hq
    have e : b.tdiv (b.natAbs : Int) = 1 := by
      rw [show ((b.natAbs : Nat) : Int) = b by omega]
      exact Int.tdiv_self (by omega)
    rwa [e] at hq
  · rw [cmp_eq0 hai h0] at q
    have : a = 0 := by omega
    subst this
    rw [iZ_eq0 hkb] at q3
    rw [lowZ, if_pos (by omega), Int.zero_tdiv] at hq
    exact hq
theorem MV.o {h : mH} {i n : Nat} {w : Nat → Int} (hv : MV h i n w) : ∃ (v cor : Int32) (bA bB : Int64) (rw_ bo : Int32), h[14]? = some (oM v cor bA bB rw_ bo) := by
  obtain ⟨-, -, -, v, cor, bA, bB, rw_, bo, sz, g, e1, -⟩ := hv
  exact ⟨v, cor, bA, bB, rw_, bo, e1⟩
theorem c162 (hv : MV h i n w) {p s : Nat} (hp : p < 4) (hs : s < 16) (hq : Q (some (.long (lZ (ad w p s)))) h) : mCt mCd 162 [.ref 14, .int (iZ i), .int (iZ p), .int (iZ s)] h Q := by
  obtain ⟨v, cor, bA, bB, rw_, bo, e1⟩ := hv.o
  refine en162 (b162_0 e1 ?_)
  rw [iZ_or s hs p hp]
  refine c144 hv (or_lt16 s hs p hp) (b162_10 e1 (c144 hv hs (b162_16 ?_)))
  rw [lZ_sub]
  exact hq
theorem l165 {n : Nat} (hn : n ≤ 4) : ∀ k, k ≤ n + 1 → 1 ≤ k → Q (some (.long (lZ (fac n)))) h → mWp mCd 165 (5, [none, some (.int (iZ n)), some (.long (lZ (fac (k - 1)))), none, some (.int (iZ k))], [], h, 0, 0) Q := by
  refine lp_up (n + 1) ?_ ?_
  · intro _ hq
    refine b165_5 (fun q => b165_23 ?_) (fun q => ?_)
    · simpa using hq
    · rw [iZ_lt ⟨by omega, by omega⟩ ⟨by omega, by omega⟩] at q; omega
  · intro k hk ih h1 hq
    refine b165_5 (fun q => ?_) (fun q => b165_11 ?_)
    · rw [iZ_lt ⟨by omega, by omega⟩ ⟨by omega, by omega⟩] at q; omega
    · rw [iZ_l ⟨by omega, by omega⟩, lZ_mul, iZ_add]
      have := ih (by omega) hq
      have e : fac (k + 1 - 1) = fac (k - 1) * (k : Int) := by
        rw [show k + 1 - 1 = (k - 1) + 1 by omega]
        show fac (k - 1) * (((k - 1 : Nat) : Int) + 1) = _
        congr 1
        omega
      rw [e] at this
      exact this
theorem c165 {n : Nat} (hn : n ≤ 4) (hq : Q (some (.long (lZ (fac n)))) h) : mCt mCd 165 [.ref 14, .int (iZ n)] h Q := by
  refine en165 (b165_0 ?_)
  rcases Nat.lt_or_ge n 1 with h1 | h1
  · have : n = 0 := by omega
    subst this
    refine b165_5 (fun q => b165_23 hq) (fun q => ?_)
    exact absurd (by decide +kernel) q
  · exact l165 hn 2 (by omega) (by omega) hq
end ML
