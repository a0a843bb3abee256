/-! ===== what the numbers are: the words of the document, over whole numbers ===== -/
def bt (s i : Nat) : Nat := s / 2 ^ i % 2
def al (n : Nat) : Nat := 2 ^ n - 1
def ones (s : Nat) : Nat := s % 2 + s / 2 % 2 + s / 4 % 2 + s / 8 % 2
def ad (w : Nat → Int) (p s : Nat) : Int := w (s ||| 2 ^ p) - w s
def fac : Nat → Int
  | 0 => 1
  | n + 1 => fac n * (n + 1)
def sumTo (f : Nat → Int) : Nat → Int
  | 0 => 0
  | n + 1 => sumTo f n + f n
def turnsF (w : Nat → Int) (n p s : Nat) : Int := if bt s p = 0 then fac (ones s) * fac (n - ones s - 1) * ad w p s else 0
def turnsZ (w : Nat → Int) (n p : Nat) : Int := sumTo (turnsF w n p) (2 ^ n)
def ownsZ (w : Nat → Int) (n : Nat) : Int := sumTo (fun i => w (2 ^ i)) n
def belowZ (n way : Nat) : Int := if way = 0 then fac n else n
def getsZ (w : Nat → Int) (n way p : Nat) : Int := if way = 0 then turnsZ w n p else n * w (2 ^ p) + w (al n) - ownsZ w n
def lacksF (w : Nat → Int) (n way s i : Nat) : Int := if bt s i = 1 then getsZ w n way i else 0
def lacksZ (w : Nat → Int) (n way s : Nat) : Int := belowZ n way * w s - sumTo (lacksF w n way s) n
/-- one of both numbers of a fraction in lowest terms -/
def lowZ (a b : Int) (what : Nat) : Int := if what = 0 then a.tdiv (Int.gcd a b) else b.tdiv (Int.gcd a b)
theorem bt_01 (s i : Nat) : bt s i = 0 ∨ bt s i = 1 := by unfold bt; omega
theorem bt_lt (s i : Nat) : bt s i < 2 := by unfold bt; omega
theorem two_pow_le4 {n : Nat} (h : n ≤ 4) : 2 ^ n ≤ 16 := Nat.pow_le_pow_right (by decide) h
theorem two_pow_pos (n : Nat) : 0 < 2 ^ n := Nat.two_pow_pos n
theorem p2_lt {p n : Nat} (h : p < n) : 2 ^ p < 2 ^ n := Nat.pow_lt_pow_right (by decide) h
theorem p2_lt16 {p : Nat} (h : p < 4) : 2 ^ p < 16 := p2_lt (n := 4) h
theorem al_lt {n : Nat} (h : n ≤ 4) : al n < 16 := by
  have := two_pow_le4 h
  have := two_pow_pos n
  unfold al; omega
theorem or_lt16 : ∀ s, s < 16 → ∀ p, p < 4 → s ||| 2 ^ p < 16 := by decide +kernel
theorem ones_le : ∀ s, s < 16 → ones s ≤ 4 := by decide +kernel
theorem ones_bt : ∀ n, n ≤ 4 → ∀ s, s < 2 ^ n → ∀ p, p < n → bt s p = 0 → ones s + 1 ≤ n := by decide +kernel
theorem iZ_or : ∀ s, s < 16 → ∀ p, p < 4 → iZ (s : Nat) ||| (iZ 1 <<< (iZ (p : Nat) &&& 31)) = iZ ((s ||| 2 ^ p : Nat) : Int) := by decide +kernel
theorem sumTo_b {f : Nat → Int} {B : Int} {n : Nat} (h : ∀ i, i < n → -B ≤ f i ∧ f i ≤ B) : -(n * B) ≤ sumTo f n ∧ sumTo f n ≤ n * B := by
  induction n with
  | zero => simp [sumTo]
  | succ n ih =>
    have h1 := ih (fun i hi => h i (by omega))
    have h2 := h n (by omega)
    have e : ((n + 1 : Nat) : Int) * B = n * B + B := by rw [Int.natCast_succ, Int.add_mul, Int.one_mul]
    rw [e]
    unfold sumTo
    omega
theorem sumTo_congr {f g : Nat → Int} {n : Nat} (h : ∀ i, i < n → f i = g i) : sumTo f n = sumTo g n := by
  induction n with
  | zero => rfl
  | succ n ih => unfold sumTo; rw [ih (fun i hi => h i (by omega)), h n (by omega)]
/-- a bound of a whole number -/
def bd (B : Int) (z : Int) : Prop := -B ≤ z ∧ z ≤ B
theorem bd_mul {A B a b : Int} (ha : bd A a) (hb : bd B b) : bd (A * B) (a * b) := by
  unfold bd at *
  have hA : 0 ≤ A := by omega
  have hB : 0 ≤ B := by omega
  have h1 : a.natAbs ≤ A.natAbs := by omega
  have h2 : b.natAbs ≤ B.natAbs := by omega
  have h3 : (a * b).natAbs ≤ (A * B).natAbs := by
    rw [Int.natAbs_mul, Int.natAbs_mul]
    exact Nat.mul_le_mul h1 h2
  have h4 : 0 ≤ A * B := Int.mul_nonneg hA hB
  omega
theorem fac_b : ∀ n, n ≤ 4 → 1 ≤ fac n ∧ fac n ≤ 24 := by decide +kernel
theorem ad_b {w : Nat → Int} {B : Int} (hw : ∀ s, bd B (w s)) (p s : Nat) : bd (2 * B) (ad w p s) := by
  have h1 := hw (s ||| 2 ^ p)
  have h2 := hw s
  unfold bd ad at *
  omega
theorem turnsF_b {w : Nat → Int} (hw : ∀ s, bd 16000 (w s)) {n p s : Nat} (hn : n ≤ 4) (hs : s < 2 ^ n) : bd (24 * 24 * 32000) (turnsF w n p s) := by
  unfold turnsF
  split
  · have h1 := fac_b (ones s) (ones_le s (by have := two_pow_le4 hn; omega))
    have h2 := fac_b (n - ones s - 1) (by omega)
    exact bd_mul (bd_mul (A := 24) (B := 24) ⟨by omega, by omega⟩ ⟨by omega, by omega⟩) (ad_b hw p s)
  · exact ⟨by decide, by decide⟩
theorem turnsZ_b {w : Nat → Int} (hw : ∀ s, bd 16000 (w s)) {n p : Nat} (hn : n ≤ 4) : bd 300000000 (turnsZ w n p) := by
  have h := sumTo_b (f := turnsF w n p) (B := 24 * 24 * 32000) (n := 2 ^ n) (fun i hi => turnsF_b hw hn hi)
  have h2 := two_pow_le4 hn
  have h3 : ((2 ^ n : Nat) : Int) * (24 * 24 * 32000) ≤ 16 * (24 * 24 * 32000) := Int.mul_le_mul_of_nonneg_right (by omega) (by decide)
  unfold bd turnsZ
  omega
theorem ownsZ_b {w : Nat → Int} (hw : ∀ s, bd 16000 (w s)) {n : Nat} (hn : n ≤ 4) : bd 64000 (ownsZ w n) := by
  have h := sumTo_b (f := fun i => w (2 ^ i)) (B := 16000) (n := n) (fun i _ => hw _)
  unfold bd ownsZ
  omega
theorem getsZ_b {w : Nat → Int} (hw : ∀ s, bd 16000 (w s)) {n way p : Nat} (hn : n ≤ 4) : bd 300000000 (getsZ w n way p) := by
  unfold getsZ
  split
  · exact turnsZ_b hw hn
  · have h1 := ownsZ_b hw hn
    have h2 := hw (al n)
    have h3 : bd (4 * 16000) (n * w (2 ^ p)) := bd_mul ⟨by omega, by omega⟩ (hw _)
    unfold bd at *
    omega
theorem belowZ_b {n way : Nat} (h1 : 1 ≤ n) (hn : n ≤ 4) : 1 ≤ belowZ n way ∧ belowZ n way ≤ 24 := by
  unfold belowZ
  split
  · exact fac_b n hn
  · omega
theorem lacksZ_b {w : Nat → Int} (hw : ∀ s, bd 16000 (w s)) {n way s : Nat} (h1 : 1 ≤ n) (hn : n ≤ 4) : bd 1300000000 (lacksZ w n way s) := by
  have hb := belowZ_b (way := way) h1 hn
  have h2 : bd (24 * 16000) (belowZ n way * w s) := bd_mul ⟨by omega, by omega⟩ (hw s)
  have h3 := sumTo_b (f := lacksF w n way s) (B := 300000000) (n := n) (fun i _ => by
    unfold lacksF
    split
    · exact getsZ_b hw hn
    · exact ⟨by decide, by decide⟩)
  unfold bd lacksZ at *
  omega
