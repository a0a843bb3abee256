/-! ===== LEAN weights: a set in the upper digit of a byte, six times its weight in the lower one ===== -/
def leanC (n : Nat) : List Nat := if n = 2 then [5670] else if n = 3 then [1451590, 13894, 9814, 5734, 3363683] else if n = 4 then [371607174, 3556998, 2512518, 1468038, 861102982, 30342, 2508438, 26262, 1459878, 22182, 860263331, 1131647907, 18102, 1399030707, 1451718, 14022, 643011523, 594777027, 375628739, 326345667, 1955766978, 592688067, 325301187, 1382200514, 7582659, 9942, 862159827, 860070867, 325297107, 845325012, 7578579, 6534099, 5862, 861111267, 860066787, 592679907, 844272356, 7574499, 5485539, 3396579, 1924322018] else []
def lS (c k : Nat) : Nat := c / 2 ^ (8 * k + 4) % 16
def lW (c k : Nat) : Nat := c / 2 ^ (8 * k) % 16
def lSets (c : Nat) : List Nat := [lS c 3, lS c 2, lS c 1, lS c 0].filter (fun s => decide (s ≠ 0))
def wOf (c s : Nat) : Nat := if lS c 0 = s then lW c 0 else if lS c 1 = s then lW c 1 else if lS c 2 = s then lW c 2 else if lS c 3 = s then lW c 3 else 0
def lTot (c : Nat) : Int := lW c 0 + lW c 1 + lW c 2 + lW c 3
def lExc (w : Nat → Int) (n c : Nat) : Int := -6 * w (al n) + lW c 0 * w (lS c 0) + lW c 1 * w (lS c 1) + lW c 2 * w (lS c 2) + lW c 3 * w (lS c 3)
def ud (u : Int × Int × Int × Int) (s : Nat) : Int := u.1 * bt s 0 + u.2.1 * bt s 1 + u.2.2.1 * bt s 2 + u.2.2.2 * bt s 3
def us (u : Int × Int × Int × Int) : Int := u.1 + u.2.1 + u.2.2.1 + u.2.2.2
def csum (S : List Nat) (x : Nat → Int) (i : Nat) : Int := bt (S.getD 0 0) i * x 0 + bt (S.getD 1 0) i * x 1 + bt (S.getD 2 0) i * x 2 + bt (S.getD 3 0) i * x 3
def v4 (u : Int × Int × Int × Int) (k : Nat) : Int := if k = 0 then u.1 else if k = 1 then u.2.1 else if k = 2 then u.2.2.1 else if k = 3 then u.2.2.2 else 0
def b2 (S : List Nat) (u : Int × Int × Int × Int) : Bool := decide (0 ≤ ud u (S.getD 0 0)) && (decide (0 ≤ ud u (S.getD 1 0)) && (decide (0 ≤ ud u (S.getD 2 0)) && (decide (0 ≤ ud u (S.getD 3 0)) && (decide (us u ≤ 0) && (decide (us u < 0) || decide (0 < ud u (S.getD 0 0) + ud u (S.getD 1 0) + ud u (S.getD 2 0) + ud u (S.getD 3 0)))))))
def b1 (S : List Nat) (y : Int × Int × Int × Int) : Bool := decide (csum S (v4 y) 0 = 0) && (decide (csum S (v4 y) 1 = 0) && (decide (csum S (v4 y) 2 = 0) && (decide (csum S (v4 y) 3 = 0) && (decide (0 < S.length ∧ v4 y 0 ≠ 0) || (decide (1 < S.length ∧ v4 y 1 ≠ 0) || (decide (2 < S.length ∧ v4 y 2 ≠ 0) || decide (3 < S.length ∧ v4 y 3 ≠ 0)))))))
def uL (n : Nat) : List (Int × Int × Int × Int) := if n = 2 then [(-2, 0, 0, 0), (0, -2, 0, 0)] else if n = 3 then [(-2, 0, 2, 0), (1, 0, -1, 0), (-2, 2, 0, 0), (0, -2, 2, 0), (0, 1, -1, 0), (1, -1, 0, 0)] else if n = 4 then [(-2, 0, 0, 2), (1, 0, 0, -1), (0, -2, 2, 0), (0, 1, -1, 0), (-2, 2, 2, -2), (1, -1, -1, 1), (-2, 0, 2, 0), (0, 0, -2, 2), (0, 1, 0, -1), (1, -1, 0, 0), (-2, 2, 0, 0), (0, -2, 0, 2), (0, 0, 1, -1), (1, 0, -1, 0)] else []
def yL : List (Int × Int × Int × Int) := [(-2, 2, 2, -2), (-2, -2, 2, 0), (-2, 0, -2, 2), (-2, 1, -1, 1), (-2, 1, 1, -1), (-1, -2, 1, 1), (0, -2, -2, 2)]
def iL : List (Int × Int × Int × Int) := [(-2, 0, 0, 0), (-2, 2, 2, 0), (0, -2, 0, 0), (0, -2, 2, 2), (-2, -2, 2, 0), (-2, 0, -2, 2), (-2, 0, 2, -2), (-2, 2, 0, 2), (-2, 2, -2, 0), (-2, -2, 0, 2), (-2, 0, 2, 2), (-2, 2, 0, -2), (0, -2, -2, 2), (0, -2, 2, -2), (0, 0, -2, 0), (-2, -1, 1, 1), (-2, 1, -1, 1), (-2, 1, 1, -1), (-1, -2, 1, 1), (-1, -1, 1, 2), (-1, -1, 2, 1), (-1, 1, -2, 1), (-1, 1, -1, 2), (-1, 1, 1, -2), (-1, 1, 2, -1), (-1, 2, -1, 1), (-1, 2, 1, -1), (0, 0, 0, -2), (-2, -2, -2, 2), (-2, -2, 2, -2), (-2, 1, 1, 1), (-2, 2, -2, -2), (-2, 2, 2, 2), (-1, -1, -1, 2), (-1, -1, 2, -1), (-1, 2, -1, -1)]
def barOK (n : Nat) (S : List Nat) : Bool := (uL n).any (b2 S) || (((leanC n).any fun c => decide (lSets c = S)) || yL.any (b1 S))
theorem bar41 : ∀ a, a < 15 → 1 ≤ a → barOK 4 [a] = true := by decide +kernel
theorem bar42 : ∀ b, b < 15 → ∀ a, a < b → 1 ≤ a → barOK 4 [a, b] = true := by decide +kernel
theorem bar43 : ∀ c, c < 15 → ∀ b, b < c → ∀ a, a < b → 1 ≤ a → barOK 4 [a, b, c] = true := by decide +kernel
theorem bar44 : ∀ d, d < 15 → ∀ c, c < d → ∀ b, b < c → ∀ a, a < b → 1 ≤ a → barOK 4 [a, b, c, d] = true := by decide +kernel
theorem bar31 : ∀ a, a < 7 → 1 ≤ a → barOK 3 [a] = true := by decide +kernel
theorem bar32 : ∀ b, b < 7 → ∀ a, a < b → 1 ≤ a → barOK 3 [a, b] = true := by decide +kernel
theorem bar33 : ∀ c, c < 7 → ∀ b, b < c → ∀ a, a < b → 1 ≤ a → barOK 3 [a, b, c] = true := by decide +kernel
theorem bar21 : ∀ a, a < 3 → 1 ≤ a → barOK 2 [a] = true := by decide +kernel
theorem bar22 : ∀ b, b < 3 → ∀ a, a < b → 1 ≤ a → barOK 2 [a, b] = true := by decide +kernel
theorem uL_z : ∀ n, n ≤ 4 → ∀ u, u ∈ uL n → ∀ i, i < 4 → n ≤ i → v4 u i = 0 := by decide +kernel
/-- what a code says, by the places of its sets -/
def lx4 (c k : Nat) : Nat := wOf c ((lSets c).getD k 0)
def keyS : List Nat → Nat
  | [] => 0
  | s :: t => 2 ^ (s - 1) + keyS t
theorem lean_row : ∀ n, n ≤ 4 → ∀ c, c ∈ leanC n → ∀ i, i < n → csum (lSets c) (fun k => (lx4 c k : Int)) i = 6 := by decide +kernel
theorem lean_len : ∀ n, n ≤ 4 → ∀ c, c ∈ leanC n → 1 ≤ (lSets c).length ∧ (lSets c).length ≤ n := by decide +kernel
theorem lean_pos : ∀ n, n ≤ 4 → ∀ c, c ∈ leanC n → ∀ k, k < (lSets c).length → 1 ≤ lx4 c k ∧ lx4 c k ≤ 6 := by decide +kernel
theorem lean_set : ∀ n, n ≤ 4 → ∀ c, c ∈ leanC n → ∀ k, k < (lSets c).length → 1 ≤ (lSets c).getD k 0 ∧ (lSets c).getD k 0 < al n := by decide +kernel
theorem lean_byte : ∀ n, n ≤ 4 → ∀ c, c ∈ leanC n → ∀ k, k < 4 → if k < (lSets c).length then lS c k = (lSets c).getD ((lSets c).length - 1 - k) 0 ∧ lW c k = lx4 c ((lSets c).length - 1 - k) else lS c k = 0 ∧ lW c k = 0 := by decide +kernel
theorem lean_inv : ∀ n, n ≤ 4 → ∀ c, c ∈ leanC n → ∀ k, k < (lSets c).length → (iL.any fun u => decide (ud u ((lSets c).getD k 0) ≠ 0) && ((decide (k = 0) || decide (ud u ((lSets c).getD 0 0) = 0)) && ((decide (k = 1) || decide (ud u ((lSets c).getD 1 0) = 0)) && ((decide (k = 2) || decide (ud u ((lSets c).getD 2 0) = 0)) && ((decide (k = 3) || decide (ud u ((lSets c).getD 3 0) = 0)) && (decide (n = 4 ∨ v4 u 3 = 0) && decide (3 ≤ n ∨ v4 u 2 = 0))))))) = true := by decide +kernel
theorem lean_key : ∀ n, n ≤ 4 → (leanC n).Pairwise (fun a b => keyS (lSets a) < keyS (lSets b)) := by decide +kernel
theorem lean_kb : ∀ n, n ≤ 4 → ∀ c, c ∈ leanC n → 1 ≤ keyS (lSets c) ∧ keyS (lSets c) < 2 ^ (al n - 1) := by decide +kernel
theorem lean_ne : ∀ n, n ≤ 4 → 2 ≤ n → 1 ≤ (leanC n).length ∧ (leanC n).length ≤ 41 := by decide +kernel
theorem lean_tot : ∀ n, n ≤ 4 → ∀ c, c ∈ leanC n → 1 ≤ lTot c ∧ lTot c ≤ 24 := by decide +kernel
