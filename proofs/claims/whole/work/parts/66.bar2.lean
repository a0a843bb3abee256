/-! ===== LEAN weights: what the solver finds for a choice ===== -/
theorem bt_0 (i : Nat) : bt 0 i = 0 := by unfold bt; rw [Nat.zero_div]
theorem getD_0 {S : List Nat} {k : Nat} (h : S.length ≤ k) : S.getD k 0 = 0 := by
  rw [List.getD_eq_getElem?_getD, List.getElem?_eq_none h]; rfl
theorem csum_s {S : List Nat} (hl : S.length ≤ 4) (x : Nat → Int) (i : Nat) : sumTo (fun k => (bt (S.getD k 0) i : Int) * x k) S.length = csum S x i := by
  have f : ∀ k, S.length ≤ k → (bt (S.getD k 0) i : Int) * x k = 0 := fun k h => by rw [getD_0 h, bt_0]; exact Int.zero_mul _
  unfold csum
  have : S.length = 0 ∨ S.length = 1 ∨ S.length = 2 ∨ S.length = 3 ∨ S.length = 4 := by omega
  rcases this with e | e | e | e | e <;> rw [e] at f ⊢ <;> simp only [sumTo]
  · rw [f 0 (by decide), f 1 (by decide), f 2 (by decide), f 3 (by decide)]; omega
  · rw [f 1 (by decide), f 2 (by decide), f 3 (by decide)]; omega
  · rw [f 2 (by decide), f 3 (by decide)]; omega
  · rw [f 3 (by decide)]; omega
  · omega
theorem csum_u (S : List Nat) (x : Nat → Int) (u : Int × Int × Int × Int) : v4 u 0 * csum S x 0 + v4 u 1 * csum S x 1 + v4 u 2 * csum S x 2 + v4 u 3 * csum S x 3 = ud u (S.getD 0 0) * x 0 + ud u (S.getD 1 0) * x 1 + ud u (S.getD 2 0) * x 2 + ud u (S.getD 3 0) * x 3 := by
  unfold csum ud
  rw [show v4 u 0 = u.1 from rfl, show v4 u 1 = u.2.1 from rfl, show v4 u 2 = u.2.2.1 from rfl, show v4 u 3 = u.2.2.2 from rfl]
  grind
theorem us_v (u : Int × Int × Int × Int) : us u = v4 u 0 + v4 u 1 + v4 u 2 + v4 u 3 := rfl
theorem ud_0 (u : Int × Int × Int × Int) : ud u 0 = 0 := by
  unfold ud
  rw [bt_0, bt_0, bt_0, bt_0]
  simp
/-- no weights above 0 -/
theorem bar_u {n : Nat} (hn : n ≤ 4) {S : List Nat} (hl : S.length ≤ 4) {u : Int × Int × Int × Int} (hu : u ∈ uL n) (hb : b2 S u = true) {x : Nat → Int} {t : Int} (ht : 0 < t) (hx : ∀ i, i < n → csum S x i = t) (hp : ∀ k, k < S.length → 0 < x k) : False := by
  unfold b2 at hb
  simp only [Bool.and_eq_true, Bool.or_eq_true, decide_eq_true_eq] at hb
  obtain ⟨d0, d1, d2, d3, hs, ho⟩ := hb
  have hz := uL_z n hn u hu
  have r : ∀ i, i < 4 → v4 u i * csum S x i = v4 u i * t := by
    intro i hi
    by_cases q : i < n
    · rw [hx i q]
    · rw [hz i hi (by omega), Int.zero_mul, Int.zero_mul]
  have e := csum_u S x u
  rw [r 0 (by decide), r 1 (by decide), r 2 (by decide), r 3 (by decide), ← Int.add_mul, ← Int.add_mul, ← Int.add_mul, ← us_v] at e
  have f : ∀ k, 0 ≤ ud u (S.getD k 0) → 0 ≤ ud u (S.getD k 0) * x k ∧ (0 < ud u (S.getD k 0) → 0 < ud u (S.getD k 0) * x k) := by
    intro k hk
    by_cases q : k < S.length
    · have := hp k q
      exact ⟨Int.mul_nonneg hk (by omega), fun h => Int.mul_pos h this⟩
    · rw [getD_0 (by omega), ud_0]
      exact ⟨by omega, fun h => absurd h (by omega)⟩
  have f0 := f 0 d0
  have f1 := f 1 d1
  have f2 := f 2 d2
  have f3 := f 3 d3
  have h1 : us u * t ≤ 0 := by
    have := Int.mul_nonneg (show 0 ≤ - us u by omega) (show 0 ≤ t by omega)
    rw [Int.neg_mul] at this
    omega
  rcases ho with o | o
  · have := Int.mul_pos (show 0 < - us u by omega) ht
    rw [Int.neg_mul] at this
    omega
  · have : 0 < ud u (S.getD 0 0) ∨ 0 < ud u (S.getD 1 0) ∨ 0 < ud u (S.getD 2 0) ∨ 0 < ud u (S.getD 3 0) := by omega
    rcases this with q | q | q | q
    · have := f0.2 q; omega
    · have := f1.2 q; omega
    · have := f2.2 q; omega
    · have := f3.2 q; omega
theorem bar_y {S : List Nat} {y : Int × Int × Int × Int} (hb : b1 S y = true) : (∃ k, k < S.length ∧ v4 y k ≠ 0) ∧ ∀ i, i < 4 → csum S (v4 y) i = 0 := by
  unfold b1 at hb
  simp only [Bool.and_eq_true, Bool.or_eq_true, decide_eq_true_eq] at hb
  obtain ⟨c0, c1, c2, c3, ho⟩ := hb
  refine ⟨?_, fun i hi => ?_⟩
  · rcases ho with q | q | q | q
    · exact ⟨0, q⟩
    · exact ⟨1, q⟩
    · exact ⟨2, q⟩
    · exact ⟨3, q⟩
  · have : i = 0 ∨ i = 1 ∨ i = 2 ∨ i = 3 := by omega
    rcases this with q | q | q | q <;> subst q <;> assumption
theorem lean_2 : ∀ n, n ≤ 1 → leanC n = [] := by decide +kernel
theorem lean_ker {n c : Nat} (hn : n ≤ 4) (hc : c ∈ leanC n) {y : Nat → Int} (hy : ∀ i, i < n → csum (lSets c) y i = 0) : ∀ k, k < (lSets c).length → y k = 0 := by
  intro k hk
  have hl := lean_len n hn c hc
  have h := lean_inv n hn c hc k hk
  rw [List.any_eq_true] at h
  obtain ⟨u, _, h⟩ := h
  simp only [Bool.and_eq_true, Bool.or_eq_true, decide_eq_true_eq] at h
  obtain ⟨h0, k0, k1, k2, k3, z3, z2⟩ := h
  have hn2 : 2 ≤ n := by
    by_cases q : 2 ≤ n
    · exact q
    · rw [lean_2 n (by omega)] at hc
      exact absurd hc List.not_mem_nil
  have r0 : v4 u 0 * csum (lSets c) y 0 = 0 := by rw [hy 0 (by omega), Int.mul_zero]
  have r1 : v4 u 1 * csum (lSets c) y 1 = 0 := by rw [hy 1 (by omega), Int.mul_zero]
  have r2 : v4 u 2 * csum (lSets c) y 2 = 0 := by
    rcases z2 with q | q
    · rw [hy 2 (by omega), Int.mul_zero]
    · rw [q, Int.zero_mul]
  have r3 : v4 u 3 * csum (lSets c) y 3 = 0 := by
    rcases z3 with q | q
    · rw [hy 3 (by omega), Int.mul_zero]
    · rw [q, Int.zero_mul]
  have e := csum_u (lSets c) y u
  rw [r0, r1, r2, r3] at e
  have e2 : ud u ((lSets c).getD k 0) * y k = 0 := by
    have hk4 : k = 0 ∨ k = 1 ∨ k = 2 ∨ k = 3 := by omega
    rcases hk4 with q | q | q | q <;> subst q
    · rw [k1.resolve_left (by decide), k2.resolve_left (by decide), k3.resolve_left (by decide)] at e; omega
    · rw [k0.resolve_left (by decide), k2.resolve_left (by decide), k3.resolve_left (by decide)] at e; omega
    · rw [k0.resolve_left (by decide), k1.resolve_left (by decide), k3.resolve_left (by decide)] at e; omega
    · rw [k0.resolve_left (by decide), k1.resolve_left (by decide), k2.resolve_left (by decide)] at e; omega
  exact (Int.mul_eq_zero.mp e2).resolve_left h0
/-- sums over a code, by its places -/
theorem lean_sum {n c : Nat} (hn : n ≤ 4) (hc : c ∈ leanC n) (w : Nat → Int) : sumTo (fun k => (lx4 c k : Int)) (lSets c).length = lTot c ∧ -6 * w (al n) + sumTo (fun k => (lx4 c k : Int) * w ((lSets c).getD k 0)) (lSets c).length = lExc w n c := by
  have hl := lean_len n hn c hc
  have hb := lean_byte n hn c hc
  have b0 := hb 0 (by decide)
  have b1 := hb 1 (by decide)
  have b2 := hb 2 (by decide)
  have b3 := hb 3 (by decide)
  unfold lTot lExc
  generalize hm : (lSets c).length = m at *
  have : m = 1 ∨ m = 2 ∨ m = 3 ∨ m = 4 := by omega
  rcases this with e | e | e | e <;> subst e <;> simp only [sumTo]
  · rw [if_pos (by decide)] at b0
    rw [if_neg (by decide)] at b1 b2 b3
    rw [b0.1, b0.2, b1.2, b2.2, b3.2]
    constructor
    · simp
    · simp
  · rw [if_pos (by decide)] at b0 b1
    rw [if_neg (by decide)] at b2 b3
    rw [b0.1, b0.2, b1.1, b1.2, b2.2, b3.2]
    constructor
    · simp; omega
    · simp; omega
  · rw [if_pos (by decide)] at b0 b1 b2
    rw [if_neg (by decide)] at b3
    rw [b0.1, b0.2, b1.1, b1.2, b2.1, b2.2, b3.2]
    constructor
    · simp; omega
    · simp; omega
  · rw [if_pos (by decide)] at b0 b1 b2 b3
    rw [b0.1, b0.2, b1.1, b1.2, b2.1, b2.2, b3.1, b3.2]
    constructor
    · simp; omega
    · simp; omega
/-- a solved system of a code -/
theorem lean_res {n c : Nat} (hn : n ≤ 4) (hc : c ∈ leanC n) {z : Nat → Nat → Int} (hz : ∀ k, k < (lSets c).length → 0 < z k k ∧ Int.gcd (z k k) (z k 4) = 1) (hx : ∀ k, k < (lSets c).length → z k k * (lx4 c k : Int) = z k 4 * 6) : smW z (lSets c).length := by
  intro k hk
  obtain ⟨h1, h2⟩ := hz k hk
  have h3 := hx k hk
  have hp := lean_pos n hn c hc k hk
  have h6 : z k k ≤ 6 := by
    have d1 : z k k ∣ z k 4 * 6 := ⟨(lx4 c k : Int), h3.symm⟩
    have d2 : (z k k).natAbs ∣ (z k 4).natAbs * 6 := by
      have := Int.natAbs_dvd_natAbs.mpr d1
      rwa [Int.natAbs_mul] at this
    have d3 : (z k k).natAbs ∣ 6 := Nat.Coprime.dvd_of_dvd_mul_left (show Nat.Coprime (z k k).natAbs (z k 4).natAbs from h2) d2
    have := Nat.le_of_dvd (by decide) d3
    omega
  have m1 := Int.mul_le_mul (show (1 : Int) ≤ z k k by omega) (show (1 : Int) ≤ (lx4 c k : Int) by omega) (by omega) (by omega)
  have m2 := Int.mul_le_mul h6 (show (lx4 c k : Int) ≤ 6 by omega) (by omega) (by omega)
  omega
theorem lean_wt {n c : Nat} (hn : n ≤ 4) (hc : c ∈ leanC n) {z : Nat → Nat → Int} (hx : ∀ k, k < (lSets c).length → z k k * (lx4 c k : Int) = z k 4 * 6) (w : Nat → Int) : wSum z w n (lSets c).length (lSets c) (lSets c).length * 6 = lExc w n c * zB z (lSets c).length ∧ wTot z (lSets c).length (lSets c).length * 6 = lTot c * zB z (lSets c).length := by
  have hs := lean_sum hn hc w
  have e : ∀ k, k < (lSets c).length → 6 * wtF z (lSets c).length k = zB z (lSets c).length * (lx4 c k : Int) := by
    intro k hk
    have h3 := hx k hk
    have hd : z k k ∣ zB z (lSets c).length := prd_dvd (fun k => z k k) hk
    have h2 := Int.mul_tdiv_cancel' hd
    unfold wtF
    generalize (zB z (lSets c).length).tdiv (z k k) = y at *
    grind
  have e1 : 6 * wTot z (lSets c).length (lSets c).length = zB z (lSets c).length * lTot c := by
    rw [← hs.1]
    unfold wTot
    rw [sumTo_cm, sumTo_cm]
    exact sumTo_congr e
  have e2 : 6 * sumTo (fun j => wtF z (lSets c).length j * w ((lSets c).getD j 0)) (lSets c).length = zB z (lSets c).length * sumTo (fun k => (lx4 c k : Int) * w ((lSets c).getD k 0)) (lSets c).length := by
    rw [sumTo_cm, sumTo_cm]
    refine sumTo_congr fun k hk => ?_
    have := e k hk
    generalize wtF z (lSets c).length k = y at *
    grind
  refine ⟨?_, by rw [Int.mul_comm, e1, Int.mul_comm]⟩
  rw [← hs.2]
  unfold wSum
  generalize sumTo (fun j => wtF z (lSets c).length j * w ((lSets c).getD j 0)) (lSets c).length = X at *
  generalize sumTo (fun k => (lx4 c k : Int) * w ((lSets c).getD k 0)) (lSets c).length = Y at *
  generalize zB z (lSets c).length = B at *
  grind
theorem wOf_0 {c s : Nat} (h1 : 1 ≤ s) (hs : s ∉ lSets c) : wOf c s = 0 := by
  have f : ∀ k, k < 4 → lS c k ≠ s := by
    intro k hk e
    refine hs ?_
    unfold lSets
    rw [List.mem_filter]
    refine ⟨?_, decide_eq_true (by omega)⟩
    have : k = 0 ∨ k = 1 ∨ k = 2 ∨ k = 3 := by omega
    rcases this with q | q | q | q <;> subst q <;> simp [e]
  unfold wOf
  rw [if_neg (f 0 (by decide)), if_neg (f 1 (by decide)), if_neg (f 2 (by decide)), if_neg (f 3 (by decide))]
theorem chs_bit (ch : Nat) : ∀ {N s : Nat}, s < N → (s + 1 ∈ chs ch N ↔ bt ch s = 1) := by
  intro N
  induction N with
  | zero => intro s h; exact absurd h (Nat.not_lt_zero _)
  | succ N ih =>
    intro s h
    have e : chs ch (N + 1) = if bt ch N = 1 then chs ch N ++ [N + 1] else chs ch N := rfl
    rw [e]
    by_cases q : s = N
    · subst q
      have hn : s + 1 ∉ chs ch s := fun h => by have := chs_b ch s _ h; omega
      split
      · next hb => exact ⟨fun _ => hb, fun _ => List.mem_append_right _ (List.mem_singleton.mpr rfl)⟩
      · next hb => exact ⟨fun h => absurd h hn, fun h => absurd h hb⟩
    · have i1 := ih (show s < N by omega)
      split
      · rw [List.mem_append, i1, List.mem_singleton]
        exact ⟨fun h => h.elim id (fun h => by omega), Or.inl⟩
      · exact i1
theorem keyS_app (S : List Nat) (s : Nat) : keyS (S ++ [s]) = keyS S + 2 ^ (s - 1) := by
  induction S with
  | nil => show 2 ^ (s - 1) + 0 = 0 + 2 ^ (s - 1); omega
  | cons a t ih => show 2 ^ (a - 1) + keyS (t ++ [s]) = 2 ^ (a - 1) + keyS t + 2 ^ (s - 1); rw [ih]; omega
theorem keyS_chs (ch : Nat) : ∀ N, keyS (chs ch N) = ch % 2 ^ N
  | 0 => by rw [Nat.pow_zero, Nat.mod_one]; rfl
  | N + 1 => by
    have ih := keyS_chs ch N
    have e : chs ch (N + 1) = if bt ch N = 1 then chs ch N ++ [N + 1] else chs ch N := rfl
    have e2 : ch % 2 ^ (N + 1) = ch % 2 ^ N + 2 ^ N * (ch / 2 ^ N % 2) := by rw [Nat.pow_succ, Nat.mod_mul]
    rw [e, e2, show ch / 2 ^ N % 2 = bt ch N from rfl]
    split
    · next hb => rw [keyS_app, ih, hb, Nat.mul_one]; rfl
    · next hb =>
      have := bt_01 ch N
      rw [ih, show bt ch N = 0 by omega, Nat.mul_zero]; rfl
