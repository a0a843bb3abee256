/-! ===== small systems: what stays true ===== -/
def Kb : Nat → Int
  | 0 => 1
  | c + 1 => 2 * Kb c * Kb c
theorem Kb_v : Kb 0 = 1 ∧ Kb 1 = 2 ∧ Kb 2 = 8 ∧ Kb 3 = 128 ∧ Kb 4 = 32768 := by decide
theorem Kb_1 : ∀ c, c ≤ 4 → 1 ≤ Kb c ∧ Kb c ≤ 32768 := by decide
theorem Kb_m : ∀ c, c < 4 → Kb c ≤ Kb (c + 1) := by decide
def bdR (K : Int) (f : Nat → Int) : Prop := (∀ k, k < 4 → bd K (f k)) ∧ bd (K * 16000) (f 4)
theorem bdR_m {K K' : Int} {f : Nat → Int} (h : K ≤ K') (hf : bdR K f) : bdR K' f := ⟨fun k hk => bd_mono h (hf.1 k hk), bd_mono (by omega) hf.2⟩
theorem bd_tdiv {K x : Int} (d : Int) (h : bd K x) : bd K (x.tdiv d) := by
  have h1 : (x.tdiv d).natAbs ≤ x.natAbs := by rw [Int.natAbs_tdiv]; exact Nat.div_le_self _ _
  unfold bd at *
  omega
theorem bd_sub2 {A a b : Int} (ha : bd A a) (hb : bd A b) : bd (2 * A) (a - b) := by
  unfold bd at *
  omega
theorem redF_at (f : Nat → Int) {k : Nat} (hk : k < 5) : redF f k = (f k).tdiv (gR f 5) := if_pos hk
theorem redF_z (f : Nat → Int) {k : Nat} (hk : k < 5) (h : f k = 0) : redF f k = 0 := by
  rw [redF_at f hk, h]; exact Int.zero_tdiv _
theorem redF_nz (f : Nat → Int) {k : Nat} (hk : k < 5) (h : f k ≠ 0) : redF f k ≠ 0 := fun q => h (by rw [redF_d f hk, q, Int.mul_zero])
theorem elz_at (z : Nat → Nat → Int) (c i : Nat) {k : Nat} (hk : k < 5) : elz z c i i k = (z i k * z c c - z c k * z i c).tdiv (gR (mix 5 (elm z c i) (z i)) 5) := by
  unfold elz
  rw [set1_e, redF_at _ hk]
  unfold mix elm
  rw [if_pos hk]
theorem elz_z (z : Nat → Nat → Int) (c i : Nat) {k : Nat} (hk : k < 5) (h : z i k * z c c - z c k * z i c = 0) : elz z c i i k = 0 := by
  rw [elz_at z c i hk, h]; exact Int.zero_tdiv _
theorem elz_nz (z : Nat → Nat → Int) (c i : Nat) {k : Nat} (hk : k < 5) (h : z i k * z c c - z c k * z i c ≠ 0) : elz z c i i k ≠ 0 := by
  unfold elz
  rw [set1_e]
  refine redF_nz _ hk ?_
  unfold mix elm
  rw [if_pos hk]
  exact h
theorem elz_b (z : Nat → Nat → Int) {c i : Nat} (hc : c < 4) (h1 : bdR (Kb c) (z i)) (h2 : bdR (Kb c) (z c)) : bdR (Kb (c + 1)) (elz z c i i) := by
  have hp := h2.1 c hc
  have hf := h1.1 c hc
  have e : Kb (c + 1) = 2 * (Kb c * Kb c) := by
    show 2 * Kb c * Kb c = _
    rw [Int.mul_assoc]
  refine ⟨fun k hk => ?_, ?_⟩
  · rw [elz_at z c i (by omega), e]
    exact bd_tdiv _ (bd_sub2 (bd_mul (h1.1 k hk) hp) (bd_mul (h2.1 k hk) hf))
  · rw [elz_at z c i (by omega), e]
    have a1 := bd_mul h1.2 hp
    have a2 := bd_mul h2.2 hf
    have e2 : Kb c * 16000 * Kb c = Kb c * Kb c * 16000 := by rw [Int.mul_assoc, Int.mul_comm 16000, ← Int.mul_assoc]
    rw [e2] at a1 a2
    have := bd_tdiv (gR (mix 5 (elm z c i) (z i)) 5 : Int) (bd_sub2 a1 a2)
    exact bd_mono (by omega) this
/-- the state of solving: columns below c are done; in column c, rows below i -/
def Inv (z0 z : Nat → Nat → Int) (u m c i : Nat) : Prop := (∀ x t, Sol z u m x t ↔ Sol z0 u m x t) ∧ (∀ r k, r < m → k < c → r ≠ k → z r k = 0) ∧ (∀ k, k < c → z k k ≠ 0) ∧ (∀ r, r < m → prim (z r)) ∧ (∀ r, r < m → bdR (if r < i ∧ r ≠ c then Kb (c + 1) else Kb c) (z r)) ∧ (∀ r k, r < m → u ≤ k → k < 4 → z r k = 0) ∧ (∀ r, r < i → r < m → r ≠ c → z r c = 0)
theorem Inv.skip {z0 z : Nat → Nat → Int} {u m c i : Nat} (h : Inv z0 z u m c i) (hc : c < 4) (hz : i = c ∨ z i c = 0) : Inv z0 z u m c (i + 1) := by
  obtain ⟨a1, a2, a3, a4, a5, a6, a7⟩ := h
  refine ⟨a1, a2, a3, a4, fun r hr => ?_, a6, fun r h1 h2 h3 => ?_⟩
  · have h5 := a5 r hr
    have := Kb_m c hc
    by_cases q : r < i ∧ r ≠ c
    · rw [if_pos q] at h5
      rw [if_pos (by omega)]; exact h5
    · rw [if_neg q] at h5
      split
      · exact bdR_m this h5
      · exact h5
  · by_cases q : r = i
    · subst q
      rcases hz with hz | hz
      · omega
      · exact hz
    · exact a7 r (by omega) h2 h3
theorem Inv.el {z0 z : Nat → Nat → Int} {u m c i : Nat} (h : Inv z0 z u m c i) (hu : u ≤ 4) (hm : m ≤ 4) (hc : c < u) (hcm : c < m) (hi : i < m) (hne : i ≠ c) (hp : z c c ≠ 0) : Inv z0 (elz z c i) u m c (i + 1) ∧ elz z c i c c ≠ 0 := by
  obtain ⟨a1, a2, a3, a4, a5, a6, a7⟩ := h
  refine ⟨⟨fun x t => (elz_sol z hu hcm hi hne hp x t).trans (a1 x t), fun r k hr hk hrk => ?_, fun k hk => ?_, fun r hr => ?_, fun r hr => ?_, fun r k hr h1 h2 => ?_, fun r h1 h2 h3 => ?_⟩, ?_⟩
  · by_cases q : r = i
    · subst q
      refine elz_z z c r (by omega) ?_
      rw [a2 r k hr hk hrk, a2 c k hcm hk (by omega), Int.zero_mul, Int.zero_mul]
      rfl
    · rw [elz_n z q]; exact a2 r k hr hk hrk
  · by_cases q : k = i
    · subst q
      refine elz_nz z c k (by omega) ?_
      rw [a2 c k hcm hk (by omega), Int.zero_mul, Int.sub_zero]
      exact fun q => by
        rcases Int.mul_eq_zero.mp q with q | q
        · exact a3 k hk q
        · exact hp q
    · rw [elz_n z q]; exact a3 k hk
  · by_cases q : r = i
    · subst q
      unfold elz
      rw [set1_e]
      exact redF_p _
    · rw [elz_n z q]; exact a4 r hr
  · by_cases q : r = i
    · subst q
      rw [if_pos (by omega)]
      have h1 := a5 r hr
      have h2 := a5 c hcm
      rw [if_neg (by omega)] at h1 h2
      exact elz_b z (by omega) h1 h2
    · rw [elz_n z q]
      have h5 := a5 r hr
      by_cases q2 : r < i ∧ r ≠ c
      · rw [if_pos q2] at h5; rw [if_pos (by omega)]; exact h5
      · rw [if_neg q2] at h5; rw [if_neg (by omega)]; exact h5
  · by_cases q : r = i
    · subst q
      refine elz_z z c r (by omega) ?_
      rw [a6 r k hr h1 h2, a6 c k hcm h1 h2, Int.zero_mul, Int.zero_mul]
      rfl
    · rw [elz_n z q]; exact a6 r k hr h1 h2
  · by_cases q : r = i
    · subst q
      refine elz_z z c r (by omega) ?_
      rw [Int.mul_comm, Int.sub_self]
    · rw [elz_n z q]; exact a7 r (by omega) h2 h3
  · rw [elz_n z (Ne.symm hne)]; exact hp
theorem Inv.next {z0 z : Nat → Nat → Int} {u m c : Nat} (h : Inv z0 z u m c m) (hc : c < 4) (hp : z c c ≠ 0) : Inv z0 z u m (c + 1) 0 := by
  obtain ⟨a1, a2, a3, a4, a5, a6, a7⟩ := h
  refine ⟨a1, fun r k hr hk hrk => ?_, fun k hk => ?_, a4, fun r hr => ?_, a6, fun r h1 => absurd h1 (Nat.not_lt_zero _)⟩
  · by_cases q : k = c
    · subst q; exact a7 r hr hr hrk
    · exact a2 r k hr (by omega) hrk
  · by_cases q : k = c
    · subst q; exact hp
    · exact a3 k (by omega)
  · rw [if_neg (by omega)]
    have h5 := a5 r hr
    split at h5
    · exact h5
    · exact bdR_m (Kb_m c hc) h5
theorem Inv.ex {z0 z : Nat → Nat → Int} {u m c r0 : Nat} (h : Inv z0 z u m c 0) (hu : u ≤ 4) (hc : c < m) (hr0 : r0 < m) (hcr : c ≤ r0) (hc4 : c < 4) : Inv z0 (exc z c r0 5) u m c 0 := by
  obtain ⟨a1, a2, a3, a4, a5, a6, a7⟩ := h
  have hrow : ∀ r, r < m → ∃ r', r' < m ∧ (∀ k, k < 5 → exc z c r0 5 r k = z r' k) ∧ (r < c → r' = r) ∧ (c ≤ r → c ≤ r') := fun r hr => by
    by_cases q : r = c
    · subst q; exact ⟨r0, hr0, fun k hk => exc_a z hk, by omega, by omega⟩
    · by_cases q2 : r = r0
      · subst q2; exact ⟨c, hc, fun k hk => exc_b z hk, by omega, by omega⟩
      · exact ⟨r, hr, fun k hk => by rw [exc_n z q q2], by omega, by omega⟩
  refine ⟨fun x t => (exc_sol z hu hc hr0 x t).trans (a1 x t), fun r k hr hk hrk => ?_, fun k hk => ?_, fun r hr => ?_, fun r hr => ?_, fun r k hr h1 h2 => ?_, fun r h1 => absurd h1 (Nat.not_lt_zero _)⟩
  · obtain ⟨r', h1, h2, h3, h4⟩ := hrow r hr
    rw [h2 k (by omega)]
    refine a2 r' k h1 hk ?_
    by_cases q : r < c
    · rw [h3 q]; exact hrk
    · have := h4 (by omega); omega
  · obtain ⟨r', h1, h2, h3, h4⟩ := hrow k (by omega)
    rw [h2 k (by omega), h3 hk]
    exact a3 k hk
  · obtain ⟨r', h1, h2, h3, h4⟩ := hrow r hr
    rcases a4 r' h1 with q | q
    · exact Or.inl (by rw [gR_c h2]; exact q)
    · exact Or.inr fun k hk => by rw [h2 k hk]; exact q k hk
  · obtain ⟨r', h1, h2, h3, h4⟩ := hrow r hr
    rw [if_neg (by omega)]
    have h5 := a5 r' h1
    rw [if_neg (by omega)] at h5
    refine ⟨fun k hk => ?_, ?_⟩
    · rw [h2 k (by omega)]; exact h5.1 k hk
    · rw [h2 4 (by omega)]; exact h5.2
  · obtain ⟨r', h3, h4, -, -⟩ := hrow r hr
    rw [h4 k (by omega)]
    exact a6 r' k h3 h1 h2
