/-! ===== the reference: what is asked of ventures ===== -/

/-- the first number below n at which P says something -/
def fst1 (P : Nat → Option Int) : Nat → Option Int
  | 0 => none
  | n + 1 => (fst1 P n).or (P n)
theorem fst1_go {P : Nat → Option Int} {k : Nat} (h : fst1 P k = none) (h2 : P k = none) : fst1 P (k + 1) = none := by
  unfold fst1; rw [h, h2]; rfl
theorem fst1_at {P : Nat → Option Int} {k e : Nat} {x : Int} (h : fst1 P k = none) (h2 : P k = some x) (hk : k < e) : fst1 P e = some x := by
  induction e with
  | zero => omega
  | succ e ih =>
    unfold fst1
    rcases Nat.lt_or_ge k e with q | q
    · rw [ih q]; rfl
    · have : k = e := by omega
      subst this
      rw [h, h2]; rfl
theorem fst1_0 {P : Nat → Option Int} {k : Nat} (h : ∀ j, j < k → P j = none) : fst1 P k = none := by
  induction k with
  | zero => rfl
  | succ k ih => exact fst1_go (ih fun j hj => h j (by omega)) (h k (by omega))
theorem fst1_c {P R : Nat → Option Int} {k : Nat} (h : ∀ j, j < k → P j = R j) : fst1 P k = fst1 R k := by
  induction k with
  | zero => rfl
  | succ k ih => unfold fst1; rw [ih fun j hj => h j (by omega), h k (by omega)]
def allB (P : Nat → Bool) : Nat → Bool
  | 0 => true
  | n + 1 => allB P n && P n
theorem allB_f {P : Nat → Bool} {k e : Nat} (h : P k = false) (hk : k < e) : allB P e = false := by
  induction e with
  | zero => omega
  | succ e ih =>
    unfold allB
    rcases Nat.lt_or_ge k e with q | q
    · rw [ih q]; rfl
    · have : k = e := by omega
      subst this
      rw [h, Bool.and_false]
theorem allB_s {P : Nat → Bool} {k : Nat} (h : allB P k = true) (h2 : P k = true) : allB P (k + 1) = true := by
  unfold allB; rw [h, h2]; rfl
def orTo (f : Nat → Nat) : Nat → Nat
  | 0 => 0
  | n + 1 => orTo f n ||| f n
def bZ (b : Bool) : Int := if b then 1 else 0
theorem bZ_b (b : Bool) : i32 (bZ b) := by cases b <;> (unfold bZ i32; decide)
def andn (a b : Nat) : Nat := a - (a &&& b)
theorem iZ_andn : ∀ a, a < 16 → ∀ b, b < 16 → iZ (a : Nat) &&& (iZ (b : Nat) ^^^ iZ (-1)) = iZ (andn a b : Nat) := by decide +kernel
theorem iZ_ior : ∀ a, a < 16 → ∀ b, b < 16 → iZ (a : Nat) ||| iZ (b : Nat) = iZ ((a ||| b : Nat) : Int) := by decide +kernel
theorem iZ_iand : ∀ a, a < 16 → ∀ b, b < 16 → iZ (a : Nat) &&& iZ (b : Nat) = iZ ((a &&& b : Nat) : Int) := by decide +kernel
theorem andn_0 : ∀ a, a < 16 → ∀ b, b < 16 → (andn a b = 0 ↔ a &&& b = a) := by decide +kernel
theorem andn_lt (a b : Nat) : andn a b ≤ a := Nat.sub_le _ _
theorem or_16 {a b : Nat} (ha : a < 16) (hb : b < 16) : a ||| b < 16 := Nat.or_lt_two_pow (n := 4) ha hb
def NOz : Int := -4611686018427387904
/-- all ventures of the reference -/
def RV (h : mH) (c : Nat) (kd sz : Nat → Nat) (w : Nat → Nat → Int) : Prop := c ≤ 10 ∧ (∀ i, i < c → kd i ≤ 4 ∧ (1 ≤ sz i ∧ sz i ≤ 4) ∧ ∀ s, bd 16000 (w i s)) ∧ ∃ (cor : Int32) (bA bB : Int64) (rw_ bo : Int32) (fk fs : Nat → Int32) (g : Nat → Int64), h[14]? = some (oM (iZ c) cor bA bB rw_ bo) ∧ h[15]? = some (aI 11 fk) ∧ h[16]? = some (aI 11 fs) ∧ h[17]? = some (aL 176 g) ∧ ∀ i, i < c → fk i = iZ (kd i) ∧ fs i = iZ (sz i) ∧ ∀ s, s < 16 → g (16 * i + s) = lZ (w i s)
def whereP (w : Nat → Int) (p a b : Nat) : Option Int := if a < b ∧ a &&& b = a ∧ bt b p = 0 ∧ ad w p b < ad w p a then some (256 * p + 16 * a + b) else none
def whereZ (w : Nat → Int) (n : Nat) : Int := (fst1 (fun p => fst1 (fun a => fst1 (whereP w p a) (2 ^ n)) (2 ^ n)) n).getD (-1)
def dumB (w : Nat → Int) (p s : Nat) : Bool := decide (bt s p = 1 ∨ ad w p s = w (2 ^ p))
def dumN (w : Nat → Int) (n p : Nat) : Nat := if allB (dumB w p) (2 ^ n) then 2 ^ p else 0
def dumZ (w : Nat → Int) (n : Nat) : Nat := orTo (dumN w n) n
def losF (w : Nat → Int) (n p : Nat) : Int := if ad w p (andn (al n) (2 ^ p)) < 0 then 1 else 0
def losZ (w : Nat → Int) (n : Nat) : Int := sumTo (losF w n) n
def likB (w : Nat → Int) (a b s : Nat) : Bool := decide (bt s a = 1 ∨ bt s b = 1 ∨ ad w a s = ad w b s)
def likZ (w : Nat → Int) (n a b : Nat) : Int := bZ (allB (likB w a b) (2 ^ n))
def powF (w : Nat → Int) (n p way s : Nat) : Int := if bt s p = 0 ∧ ad w p s = 1 then (if way = 0 then 1 else fac (ones s) * fac (n - ones s - 1)) else 0
def powZ (w : Nat → Int) (n p way : Nat) : Int := sumTo (powF w n p way) (2 ^ n)
/-- the first set of those that lack the most -/
def worN (w : Nat → Int) (n way : Nat) : Nat → Int
  | 0 => -1
  | s + 1 => if s = 0 then -1 else if worN w n way s < 0 ∨ lacksZ w n way s > lacksZ w n way (worN w n way s).toNat then s else worN w n way s
section MQ
variable {h : mH} {Q : Option Value → mH → Prop} {i n c : Nat} {w : Nat → Int} {kd sz : Nat → Nat} {W : Nat → Nat → Int}
theorem RV.mv (hr : RV h c kd sz W) (hi : i < c) : MV h i (sz i) (W i) := by
  obtain ⟨hc, hb, cor, bA, bB, rw_, bo, fk, fs, g, e1, e2, e3, e4, hf⟩ := hr
  exact ⟨by omega, (hb i hi).2.1, (hb i hi).2.2, iZ c, cor, bA, bB, rw_, bo, fs, g, e1, e3, e4, (hf i hi).2.1, (hf i hi).2.2⟩
theorem RV.o (hr : RV h c kd sz W) : ∃ (cor : Int32) (bA bB : Int64) (rw_ bo : Int32), h[14]? = some (oM (iZ c) cor bA bB rw_ bo) := by
  obtain ⟨hc, hb, cor, bA, bB, rw_, bo, fk, fs, g, e1, e2, e3, e4, hf⟩ := hr
  exact ⟨cor, bA, bB, rw_, bo, e1⟩
theorem r138 (hr : RV h c kd sz W) {a : Int} (ha : i32 a) (hq : Q (some (.int (tf (0 ≤ a ∧ a < c)))) h) : mCt mCd 138 [.ref 14, .int (iZ a)] h Q := by
  obtain ⟨cor, bA, bB, rw_, bo, e1⟩ := hr.o
  exact c138 (by have := hr.1; omega) e1 ha hq
theorem bd_i64 {z : Int} (h : bd 1300000000 z) : i64 z := ⟨by unfold bd at h; omega, by unfold bd at h; omega⟩
theorem bd_i64a {z : Int} (h : bd 32000 z) : i64 z := ⟨by unfold bd at h; omega, by unfold bd at h; omega⟩
theorem bd_i64w {z : Int} (h : bd 16000 z) : i64 z := ⟨by unfold bd at h; omega, by unfold bd at h; omega⟩
theorem l171 (hv : MV h i n w) {way s : Nat} (hy : way < 2) (hs16 : s < 16) (hq : Q (some (.long (lZ (lacksZ w n way s)))) h) : ∀ k, k ≤ n → mWp mCd 171 (18, [some (.ref 14), some (.int (iZ i)), some (.int (iZ way)), some (.int (iZ s)), some (.long (lZ (belowZ n way * w s - sumTo (lacksF w n way s) k))), none, some (.int (iZ k))], [], h, 0, 0) Q := by
  obtain ⟨hi, ⟨hn1, hn4⟩, hw, v, cor, bA, bB, rw_, bo, sz, g, e1, e2, e3, hs, hg⟩ := id hv
  refine lp_up n ?_ ?_
  · repeat' (first
    | refine en171 ?_
    | exact hq
    | exact iZ_in (by omega) (by omega) (by decide)
    | simp (disch := (first | assumption | omega | (unfold i32; omega) | (unfold i64; omega))) only [iZ_add, iZ_sub, iZ_mul, iZ_neg, lZ_add, lZ_sub, lZ_mul, lZ_neg, lZ_i, iZ_l, iZ_nat, Int.toNat_natCast, iZ_bit, iZ_shl, iZ_or, iZ_lt, iZ_le, iZ_eq, iZ_lt0, iZ_le0, iZ_gt0, iZ_ge0, iZ_eq0, cmp_eq0, cmp_lt0, cmp_le0, cmp_ge0, cmp_gt0, tf_0, tf_n0, Decidable.not_not, hs]
    | refine b171_0 (by assumption) ?_
    | refine b171_6 (by assumption) ?_
    | refine b171_12 ?_
    | (refine b171_18 (by assumption) (by assumption) ?_ (fun q => ?_) (fun q => ?_) <;> (try simp (disch := (first | assumption | omega | (unfold i32; omega) | (unfold i64; omega))) only [iZ_add, iZ_sub, iZ_mul, iZ_neg, lZ_add, lZ_sub, lZ_mul, lZ_neg, lZ_i, iZ_l, iZ_nat, Int.toNat_natCast, iZ_bit, iZ_shl, iZ_or, iZ_lt, iZ_le, iZ_eq, iZ_lt0, iZ_le0, iZ_gt0, iZ_ge0, iZ_eq0, cmp_eq0, cmp_lt0, cmp_le0, cmp_ge0, cmp_gt0, tf_0, tf_n0, Decidable.not_not, hs] at q) <;> (try (exfalso; omega)))
    | refine b171_58 ?_
    | (refine b171_29 (fun q => ?_) (fun q => ?_) <;> (try simp (disch := (first | assumption | omega | (unfold i32; omega) | (unfold i64; omega))) only [iZ_add, iZ_sub, iZ_mul, iZ_neg, lZ_add, lZ_sub, lZ_mul, lZ_neg, lZ_i, iZ_l, iZ_nat, Int.toNat_natCast, iZ_bit, iZ_shl, iZ_or, iZ_lt, iZ_le, iZ_eq, iZ_lt0, iZ_le0, iZ_gt0, iZ_ge0, iZ_eq0, cmp_eq0, cmp_lt0, cmp_le0, cmp_ge0, cmp_gt0, tf_0, tf_n0, Decidable.not_not, hs] at q) <;> (try (exfalso; omega)))
    | refine b171_52 ?_
    | refine b171_39 (by assumption) ?_
    | refine b171_49 ?_)
  · intro k hk ih
    have he : belowZ n way * w s - sumTo (lacksF w n way s) (k + 1) = belowZ n way * w s - sumTo (lacksF w n way s) k - lacksF w n way s k := by
      show _ - (sumTo (lacksF w n way s) k + lacksF w n way s k) = _
      omega
    rw [he, lacksF] at ih
    have e0 : s / 2 ^ k % 2 = bt s k := rfl
    have hk4 : k < 4 := by omega
    rcases bt_01 s k with hb | hb
    · rw [if_neg (by omega), Int.sub_zero] at ih
      
      repeat' (first
    | refine en171 ?_
    | exact ih
    | exact iZ_in (by omega) (by omega) (by decide)
    | simp (disch := (first | assumption | omega | (unfold i32; omega) | (unfold i64; omega))) only [iZ_add, iZ_sub, iZ_mul, iZ_neg, lZ_add, lZ_sub, lZ_mul, lZ_neg, lZ_i, iZ_l, iZ_nat, Int.toNat_natCast, iZ_bit, iZ_shl, iZ_or, iZ_lt, iZ_le, iZ_eq, iZ_lt0, iZ_le0, iZ_gt0, iZ_ge0, iZ_eq0, cmp_eq0, cmp_lt0, cmp_le0, cmp_ge0, cmp_gt0, tf_0, tf_n0, Decidable.not_not, hs, e0, hb]
    | refine b171_0 (by assumption) ?_
    | refine b171_6 (by assumption) ?_
    | refine b171_12 ?_
    | (refine b171_18 (by assumption) (by assumption) ?_ (fun q => ?_) (fun q => ?_) <;> (try simp (disch := (first | assumption | omega | (unfold i32; omega) | (unfold i64; omega))) only [iZ_add, iZ_sub, iZ_mul, iZ_neg, lZ_add, lZ_sub, lZ_mul, lZ_neg, lZ_i, iZ_l, iZ_nat, Int.toNat_natCast, iZ_bit, iZ_shl, iZ_or, iZ_lt, iZ_le, iZ_eq, iZ_lt0, iZ_le0, iZ_gt0, iZ_ge0, iZ_eq0, cmp_eq0, cmp_lt0, cmp_le0, cmp_ge0, cmp_gt0, tf_0, tf_n0, Decidable.not_not, hs, e0, hb] at q) <;> (try (exfalso; omega)))
    | refine b171_58 ?_
    | (refine b171_29 (fun q => ?_) (fun q => ?_) <;> (try simp (disch := (first | assumption | omega | (unfold i32; omega) | (unfold i64; omega))) only [iZ_add, iZ_sub, iZ_mul, iZ_neg, lZ_add, lZ_sub, lZ_mul, lZ_neg, lZ_i, iZ_l, iZ_nat, Int.toNat_natCast, iZ_bit, iZ_shl, iZ_or, iZ_lt, iZ_le, iZ_eq, iZ_lt0, iZ_le0, iZ_gt0, iZ_ge0, iZ_eq0, cmp_eq0, cmp_lt0, cmp_le0, cmp_ge0, cmp_gt0, tf_0, tf_n0, Decidable.not_not, hs, e0, hb] at q) <;> (try (exfalso; omega)))
    | refine b171_52 ?_
    | refine b171_39 (by assumption) ?_
    | refine b171_49 ?_)
    · rw [if_pos hb] at ih
      repeat' (first
    | refine en171 ?_
    | exact ih
    | refine c169 hv hy hk ?_
    | exact iZ_in (by omega) (by omega) (by decide)
    | simp (disch := (first | assumption | omega | (unfold i32; omega) | (unfold i64; omega))) only [iZ_add, iZ_sub, iZ_mul, iZ_neg, lZ_add, lZ_sub, lZ_mul, lZ_neg, lZ_i, iZ_l, iZ_nat, Int.toNat_natCast, iZ_bit, iZ_shl, iZ_or, iZ_lt, iZ_le, iZ_eq, iZ_lt0, iZ_le0, iZ_gt0, iZ_ge0, iZ_eq0, cmp_eq0, cmp_lt0, cmp_le0, cmp_ge0, cmp_gt0, tf_0, tf_n0, Decidable.not_not, hs, e0, hb]
    | refine b171_0 (by assumption) ?_
    | refine b171_6 (by assumption) ?_
    | refine b171_12 ?_
    | (refine b171_18 (by assumption) (by assumption) ?_ (fun q => ?_) (fun q => ?_) <;> (try simp (disch := (first | assumption | omega | (unfold i32; omega) | (unfold i64; omega))) only [iZ_add, iZ_sub, iZ_mul, iZ_neg, lZ_add, lZ_sub, lZ_mul, lZ_neg, lZ_i, iZ_l, iZ_nat, Int.toNat_natCast, iZ_bit, iZ_shl, iZ_or, iZ_lt, iZ_le, iZ_eq, iZ_lt0, iZ_le0, iZ_gt0, iZ_ge0, iZ_eq0, cmp_eq0, cmp_lt0, cmp_le0, cmp_ge0, cmp_gt0, tf_0, tf_n0, Decidable.not_not, hs, e0, hb] at q) <;> (try (exfalso; omega)))
    | refine b171_58 ?_
    | (refine b171_29 (fun q => ?_) (fun q => ?_) <;> (try simp (disch := (first | assumption | omega | (unfold i32; omega) | (unfold i64; omega))) only [iZ_add, iZ_sub, iZ_mul, iZ_neg, lZ_add, lZ_sub, lZ_mul, lZ_neg, lZ_i, iZ_l, iZ_nat, Int.toNat_natCast, iZ_bit, iZ_shl, iZ_or, iZ_lt, iZ_le, iZ_eq, iZ_lt0, iZ_le0, iZ_gt0, iZ_ge0, iZ_eq0, cmp_eq0, cmp_lt0, cmp_le0, cmp_ge0, cmp_gt0, tf_0, tf_n0, Decidable.not_not, hs, e0, hb] at q) <;> (try (exfalso; omega)))
    | refine b171_52 ?_
    | refine b171_39 (by assumption) ?_
    | refine b171_49 ?_)

theorem c171 (hv : MV h i n w) {way s : Nat} (hy : way < 2) (hs16 : s < 16) (hq : Q (some (.long (lZ (lacksZ w n way s)))) h) : mCt mCd 171 [.ref 14, .int (iZ i), .int (iZ way), .int (iZ s)] h Q := by
  obtain ⟨v, cor, bA, bB, rw_, bo, e1⟩ := hv.o
  refine en171 (b171_0 e1 (c168 hv hy (b171_6 e1 (c144 hv hs16 (b171_12 ?_)))))
  rw [lZ_mul]
  have := l171 hv hy hs16 hq 0 (Nat.zero_le n)
  rw [show belowZ n way * w s - sumTo (lacksF w n way s) 0 = belowZ n way * w s from Int.sub_zero _] at this
  exact this
end MQ
