/-! ===== whole numbers behind ints and longs ===== -/
theorem iZ_add (a b : Int) : iZ a + iZ b = iZ (a + b) := by
  unfold iZ; apply Int32.toInt.inj; simp [Int32.toInt_add]
theorem iZ_sub (a b : Int) : iZ a - iZ b = iZ (a - b) := by
  unfold iZ; apply Int32.toInt.inj; simp [Int32.toInt_sub]
theorem iZ_mul (a b : Int) : iZ a * iZ b = iZ (a * b) := by
  unfold iZ; apply Int32.toInt.inj; simp [Int32.toInt_mul]
theorem iZ_neg (a : Int) : - iZ a = iZ (-a) := by
  unfold iZ; apply Int32.toInt.inj; simp [Int32.toInt_neg]
theorem lZ_add (a b : Int) : lZ a + lZ b = lZ (a + b) := by
  unfold lZ; apply Int64.toInt.inj; simp [Int64.toInt_add]
theorem lZ_sub (a b : Int) : lZ a - lZ b = lZ (a - b) := by
  unfold lZ; apply Int64.toInt.inj; simp [Int64.toInt_sub]
theorem lZ_mul (a b : Int) : lZ a * lZ b = lZ (a * b) := by
  unfold lZ; apply Int64.toInt.inj; simp [Int64.toInt_mul]
theorem lZ_neg (a : Int) : - lZ a = lZ (-a) := by
  unfold lZ; apply Int64.toInt.inj; simp [Int64.toInt_neg]
/-- fits an int, a long -/
def i32 (z : Int) : Prop := -2147483648 ≤ z ∧ z < 2147483648
def i64 (z : Int) : Prop := -9223372036854775808 ≤ z ∧ z < 9223372036854775808
theorem iZ_toInt {z : Int} (h : i32 z) : (iZ z).toInt = z := Int32.toInt_ofInt_of_le (by unfold i32 at h; omega) (by unfold i32 at h; omega)
theorem lZ_toInt {z : Int} (h : i64 z) : (lZ z).toInt = z := Int64.toInt_ofInt_of_le (by unfold i64 at h; omega) (by unfold i64 at h; omega)
theorem iZ_of (x : Int32) : iZ x.toInt = x := Int32.ofInt_toInt x
theorem lZ_of (x : Int64) : lZ x.toInt = x := Int64.ofInt_toInt x
theorem i32_of (x : Int32) : i32 x.toInt := by
  have h1 := Int32.le_toInt x
  have h2 := Int32.toInt_lt x
  unfold i32; omega
theorem i64_of (x : Int64) : i64 x.toInt := by
  have h1 := Int64.le_toInt x
  have h2 := Int64.toInt_lt x
  unfold i64; omega
theorem iZ_ex (x : Int32) : ∃ z : Int, i32 z ∧ x = iZ z := ⟨x.toInt, i32_of x, (iZ_of x).symm⟩
theorem lZ_ex (x : Int64) : ∃ z : Int, i64 z ∧ x = lZ z := ⟨x.toInt, i64_of x, (lZ_of x).symm⟩
theorem iZ_lt {a b : Int} (ha : i32 a) (hb : i32 b) : iZ a < iZ b ↔ a < b := by
  rw [Int32.lt_iff_toInt_lt, iZ_toInt ha, iZ_toInt hb]
theorem iZ_le {a b : Int} (ha : i32 a) (hb : i32 b) : iZ a ≤ iZ b ↔ a ≤ b := by
  rw [Int32.le_iff_toInt_le, iZ_toInt ha, iZ_toInt hb]
theorem iZ_eq {a b : Int} (ha : i32 a) (hb : i32 b) : iZ a = iZ b ↔ a = b := by
  rw [← Int32.toInt_inj, iZ_toInt ha, iZ_toInt hb]
theorem lZ_lt {a b : Int} (ha : i64 a) (hb : i64 b) : lZ a < lZ b ↔ a < b := by
  rw [Int64.lt_iff_toInt_lt, lZ_toInt ha, lZ_toInt hb]
theorem lZ_le {a b : Int} (ha : i64 a) (hb : i64 b) : lZ a ≤ lZ b ↔ a ≤ b := by
  rw [Int64.le_iff_toInt_le, lZ_toInt ha, lZ_toInt hb]
theorem lZ_eq {a b : Int} (ha : i64 a) (hb : i64 b) : lZ a = lZ b ↔ a = b := by
  rw [← Int64.toInt_inj, lZ_toInt ha, lZ_toInt hb]
theorem iZ_nat {z : Int} (h0 : 0 ≤ z) (h : z < 2147483648) : (iZ z).toNatClampNeg = z.toNat := by
  show (iZ z).toInt.toNat = _
  rw [iZ_toInt ⟨by omega, h⟩]
theorem iZ_in {z : Int} {n : Nat} (h0 : 0 ≤ z) (hn : z < n) (hb : n < 2147483648) : ¬ (iZ z < 0 ∨ n ≤ (iZ z).toNatClampNeg) := by
  rw [iZ_nat h0 (by omega)]
  intro h
  rcases h with h | h
  · rw [show (0 : Int32) = iZ 0 from rfl, iZ_lt ⟨by omega, by omega⟩ ⟨by omega, by omega⟩] at h
    omega
  · omega
theorem iZ_l {z : Int} (h : i32 z) : (iZ z).toInt64 = lZ z := by
  rw [← Int64.ofInt_int32ToInt, iZ_toInt h]; rfl
theorem lZ_i (z : Int) : (lZ z).toInt32 = iZ z := Int64.toInt32_ofInt
theorem iZ_b {z : Int} (h : i32 z) : iZ z = nI z.toNat ∨ z < 0 := by
  rcases Int.lt_or_le z 0 with q | q
  · exact Or.inr q
  · refine Or.inl ?_
    show Int32.ofInt z = Int32.ofNat z.toNat
    rw [← Int32.ofInt_eq_ofNat, Int.toNat_of_nonneg q]
theorem iZ_nI (k : Nat) : nI k = iZ k := Int32.ofInt_eq_ofNat.symm
theorem lZ_lN (k : Nat) : lN k = lZ k := Int64.ofInt_eq_ofNat.symm
theorem iZ_div {a b : Int} (ha : i32 a) (hb : i32 b) (h : a ≠ -2147483648) : iZ a / iZ b = iZ (a.tdiv b) := by
  apply Int32.toInt.inj
  rw [Int32.toInt_div_of_ne_left _ _ (fun q => h (by have := congrArg Int32.toInt q; rw [iZ_toInt ha] at this; exact this)), iZ_toInt ha, iZ_toInt hb]
  have hd : (a.tdiv b).natAbs ≤ a.natAbs := by rw [Int.natAbs_tdiv]; exact Nat.div_le_self _ _
  rw [iZ_toInt]
  unfold i32 at *; omega
theorem lZ_div {a b : Int} (ha : i64 a) (hb : i64 b) (h : a ≠ -9223372036854775808) : lZ a / lZ b = lZ (a.tdiv b) := by
  apply Int64.toInt.inj
  rw [Int64.toInt_div_of_ne_left _ _ (fun q => h (by have := congrArg Int64.toInt q; rw [lZ_toInt ha] at this; exact this)), lZ_toInt ha, lZ_toInt hb]
  have hd : (a.tdiv b).natAbs ≤ a.natAbs := by rw [Int.natAbs_tdiv]; exact Nat.div_le_self _ _
  rw [lZ_toInt]
  unfold i64 at *; omega
theorem iZ_rem {a b : Int} (ha : i32 a) (hb : i32 b) (h : a ≠ -2147483648) : iZ a - iZ a / iZ b * iZ b = iZ (a.tmod b) := by
  rw [iZ_div ha hb h, iZ_mul, iZ_sub]
  congr 1
  have := Int.tmod_def a b
  rw [this, Int.mul_comm]
theorem lZ_rem {a b : Int} (ha : i64 a) (hb : i64 b) (h : a ≠ -9223372036854775808) : lZ a - lZ a / lZ b * lZ b = lZ (a.tmod b) := by
  rw [lZ_div ha hb h, lZ_mul, lZ_sub]
  congr 1
  have := Int.tmod_def a b
  rw [this, Int.mul_comm]
theorem lZ_cmp {a b : Int} (ha : i64 a) (hb : i64 b) : lg_cmp (lZ a) (lZ b) = if b < a then 1 else if a = b then 0 else -1 := by
  unfold lg_cmp
  simp only [gt_iff_lt, lZ_lt hb ha, lZ_eq ha hb]
theorem iZ_eq0 {a : Int} (ha : i32 a) : iZ a = 0 ↔ a = 0 := iZ_eq ha (b := 0) ⟨by omega, by omega⟩
theorem iZ_lt0 {a : Int} (ha : i32 a) : iZ a < 0 ↔ a < 0 := iZ_lt ha (b := 0) ⟨by omega, by omega⟩
theorem iZ_le0 {a : Int} (ha : i32 a) : iZ a ≤ 0 ↔ a ≤ 0 := iZ_le ha (b := 0) ⟨by omega, by omega⟩
theorem iZ_gt0 {a : Int} (ha : i32 a) : 0 < iZ a ↔ 0 < a := iZ_lt (a := 0) ⟨by omega, by omega⟩ ha
theorem iZ_ge0 {a : Int} (ha : i32 a) : 0 ≤ iZ a ↔ 0 ≤ a := iZ_le (a := 0) ⟨by omega, by omega⟩ ha
theorem lZ_eq0 {a : Int} (ha : i64 a) : lZ a = 0 ↔ a = 0 := lZ_eq ha (b := 0) ⟨by omega, by omega⟩
theorem cmp_eq0 {a b : Int} (ha : i64 a) (hb : i64 b) : lg_cmp (lZ a) (lZ b) = 0 ↔ a = b := by
  rw [lZ_cmp ha hb]
  split
  · simp; omega
  · split
    · simp_all
    · simp_all
theorem cmp_lt0 {a b : Int} (ha : i64 a) (hb : i64 b) : lg_cmp (lZ a) (lZ b) < 0 ↔ a < b := by
  rw [lZ_cmp ha hb]
  split
  · simp; omega
  · split
    · simp; omega
    · simp; omega
theorem cmp_le0 {a b : Int} (ha : i64 a) (hb : i64 b) : lg_cmp (lZ a) (lZ b) ≤ 0 ↔ a ≤ b := by
  rw [lZ_cmp ha hb]
  split
  · simp; omega
  · split
    · simp; omega
    · simp; omega
theorem cmp_ge0 {a b : Int} (ha : i64 a) (hb : i64 b) : 0 ≤ lg_cmp (lZ a) (lZ b) ↔ b ≤ a := by
  rw [lZ_cmp ha hb]
  split
  · simp; omega
  · split
    · simp; omega
    · simp; omega
theorem cmp_gt0 {a b : Int} (ha : i64 a) (hb : i64 b) : 0 < lg_cmp (lZ a) (lZ b) ↔ b < a := by
  rw [lZ_cmp ha hb]
  split
  · simp; omega
  · split
    · simp; omega
    · simp; omega
/-- a bit of a small number -/
theorem iZ_bit : ∀ s, s < 16 → ∀ i, i < 4 → (iZ (s : Nat) >>> (iZ (i : Nat) &&& 31)) &&& iZ 1 = iZ ((s / 2 ^ i % 2 : Nat) : Int) := by decide +kernel
theorem iZ_shl : ∀ i, i < 5 → iZ 1 <<< (iZ (i : Nat) &&& 31) = iZ ((2 ^ i : Nat) : Int) := by decide +kernel
/-- loops: the state is a function of the counter -/
theorem lp_up {W : Nat → Prop} (e : Nat) (hx : W e) (hs : ∀ k, k < e → W (k + 1) → W k) : ∀ k, k ≤ e → W k := by
  intro k hk
  have : ∀ d k, k + d = e → W k := by
    intro d
    induction d with
    | zero => intro k h; rw [Nat.add_zero] at h; rw [h]; exact hx
    | succ d ih => intro k h; exact hs k (by omega) (ih (k + 1) (by omega))
  exact this (e - k) k (by omega)
