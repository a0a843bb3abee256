/-! ===== corners: at most 24 ===== -/
def dot (s : Nat) (p : Nat → Int) : Int := r3 s p + bt s 3 * p 3
def core4 (w p : Nat → Int) : Prop := (∀ s, s < 16 → 2 * w s ≤ dot s p) ∧ dot 15 p = 2 * w 15 ∧ ∀ i, 4 ≤ i → p i = 0
def endV (w : Nat → Int) (s e : Nat) : Int := if e = 0 then 2 * w s else 2 * (w 15 - w (15 - s))
def vtx (w : Nat → Int) (a b c e : Nat) : Nat → Int := pt a b c (endV w a (bt e 0)) (endV w b (bt e 1)) (endV w c (bt e 2)) (2 * w 15)
def cone (a b c e : Nat) : Prop := a < b ∧ b < c ∧ c < 8 ∧ e < 8 ∧ dt a b c ≠ 0
def Vtx (w p : Nat → Int) : Prop := core4 w p ∧ ∃ a b c e, cone a b c e ∧ p = vtx w a b c e
def d3 (d : Int × Int × Int) (x : Nat → Int) : Int := d.1 * x 0 + d.2.1 * x 1 + d.2.2 * x 2
def sg (e : Nat) : Int := if e = 0 then 1 else -1
def owns (a b c e : Nat) (d : Int × Int × Int) : Bool := decide (0 < sg (bt e 0) * (dt a b c * d3 d (cr b c)) ∧ 0 < sg (bt e 1) * (dt a b c * d3 d (cr c a)) ∧ 0 < sg (bt e 2) * (dt a b c * d3 d (cr a b)))
def dL : List (Int × Int × Int) := [(-4, -3, -2), (-2, -1, 2), (-4, -2, -3), (-1, 1, 3), (-2, 2, -1), (-1, 3, 1), (-3, -4, -2), (-1, -2, 2), (-3, -2, -4), (1, 2, 4), (-1, 2, -2), (1, 4, 2), (-2, -4, -3), (1, -1, 3), (-2, -3, -4), (2, 1, 4), (1, 3, -1), (2, 4, 1), (2, -2, -1), (3, -1, 1), (2, -1, -2), (4, 1, 2), (3, 1, -1), (4, 2, 1), (-4, -2, -1), (-3, -1, 1), (-4, -1, -2), (-2, 1, 2), (-3, 1, -1), (-2, 2, 1), (-2, -4, -1), (-1, -3, 1), (-2, -1, -4), (2, 3, 4), (-1, 1, -3), (2, 4, 3), (-1, -4, -2), (1, -2, 2), (-1, -2, -4), (3, 2, 4), (1, 2, -2), (3, 4, 2), (1, -3, -1), (2, -2, 1), (1, -1, -3), (4, 2, 3), (2, 1, -2), (4, 3, 2)]
theorem dL_nd : dL.Nodup := by decide +kernel
theorem own2 : ∀ c, c < 8 → ∀ b, b < c → ∀ a, a < b → dt a b c ≠ 0 → ∀ e, e < 8 → 2 ≤ (dL.filter (owns a b c e)).length := by decide +kernel
theorem endV_2 (w : Nat → Int) (s e : Nat) : ∃ x, endV w s e = 2 * x := by
  unfold endV
  split
  · exact ⟨_, rfl⟩
  · exact ⟨_, rfl⟩
theorem vtx_r3 {w : Nat → Int} {a b c e : Nat} (h : cone a b c e) : r3 a (vtx w a b c e) = endV w a (bt e 0) ∧ r3 b (vtx w a b c e) = endV w b (bt e 1) ∧ r3 c (vtx w a b c e) = endV w c (bt e 2) := by
  obtain ⟨h1, h2, h3, _, h0⟩ := h
  obtain ⟨ea, qa⟩ := endV_2 w a (bt e 0)
  obtain ⟨eb, qb⟩ := endV_2 w b (bt e 1)
  obtain ⟨ec, qc⟩ := endV_2 w c (bt e 2)
  unfold vtx
  rw [qa, qb, qc]
  exact pt_sol (by omega) (by omega) h3 h0 ea eb ec _
theorem dot_not : ∀ s, s < 8 → (bt (15 - s) 0 : Int) = 1 - bt s 0 ∧ (bt (15 - s) 1 : Int) = 1 - bt s 1 ∧ (bt (15 - s) 2 : Int) = 1 - bt s 2 ∧ (bt (15 - s) 3 : Int) = 1 ∧ (bt s 3 : Int) = 0 := by decide +kernel
theorem dot_lo {s : Nat} (h : s < 8) (p : Nat → Int) : dot s p = r3 s p := by
  have := (dot_not s h).2.2.2.2
  unfold dot
  rw [this, Int.zero_mul, Int.add_zero]
theorem dot_hi {s : Nat} (h : s < 8) (p : Nat → Int) : dot (15 - s) p = dot 15 p - r3 s p := by
  obtain ⟨h0, h1, h2, h3, _⟩ := dot_not s h
  have e : dot 15 p = p 0 + p 1 + p 2 + p 3 := by
    unfold dot r3
    rw [show bt 15 0 = 1 from rfl, show bt 15 1 = 1 from rfl, show bt 15 2 = 1 from rfl, show bt 15 3 = 1 from rfl]
    grind
  rw [e]
  unfold dot r3
  rw [h0, h1, h2, h3]
  grind
theorem core_lo {w p : Nat → Int} (h : core4 w p) {s : Nat} (hs : s < 8) : 2 * w s ≤ r3 s p ∧ r3 s p ≤ 2 * (w 15 - w (15 - s)) := by
  have h1 := h.1 s (by omega)
  have h2 := h.1 (15 - s) (by omega)
  rw [dot_lo hs] at h1
  rw [dot_hi hs, h.2.1] at h2
  omega
/-- how far a set is from its end, with the sign of the end -/
theorem end_sg {w p : Nat → Int} (h : core4 w p) {s : Nat} (hs : s < 8) (e : Nat) : 0 ≤ sg e * (r3 s p - endV w s e) := by
  have := core_lo h hs
  unfold sg endV
  split <;> omega
theorem sg_pos {g l u : Int} {e : Nat} (h1 : 0 < sg e * (g * l)) (h2 : 0 ≤ sg e * u) : 0 ≤ g * (l * u) ∧ (g * (l * u) = 0 → u = 0) := by
  have e1 : g * (l * u) = (sg e * (g * l)) * (sg e * u) := by
    have : sg e * sg e = 1 := by unfold sg; split <;> rfl
    grind
  rw [e1]
  refine ⟨Int.mul_nonneg (by omega) h2, fun q => ?_⟩
  rcases Int.mul_eq_zero.mp q with q | q
  · omega
  · unfold sg at q
    split at q <;> omega
theorem own_eq {a b c : Nat} (ha : a < 8) (hb : b < 8) (hc : c < 8) (d : Int × Int × Int) (x : Nat → Int) : dt a b c * d3 d x = d3 d (cr b c) * r3 a x + d3 d (cr c a) * r3 b x + d3 d (cr a b) * r3 c x := by
  have f := dt_cols a ha b hb c hc
  have f00 := f 0 (by decide) 0 (by decide)
  have f01 := f 0 (by decide) 1 (by decide)
  have f02 := f 0 (by decide) 2 (by decide)
  have f10 := f 1 (by decide) 0 (by decide)
  have f11 := f 1 (by decide) 1 (by decide)
  have f12 := f 1 (by decide) 2 (by decide)
  have f20 := f 2 (by decide) 0 (by decide)
  have f21 := f 2 (by decide) 1 (by decide)
  have f22 := f 2 (by decide) 2 (by decide)
  rw [if_pos rfl] at f00
  rw [if_neg (by decide)] at f01
  rw [if_neg (by decide)] at f02
  rw [if_neg (by decide)] at f10
  rw [if_pos rfl] at f11
  rw [if_neg (by decide)] at f12
  rw [if_neg (by decide)] at f20
  rw [if_neg (by decide)] at f21
  rw [if_pos rfl] at f22
  have e : d3 d (cr b c) * r3 a x + d3 d (cr c a) * r3 b x + d3 d (cr a b) * r3 c x = d.1 * ((cr b c 0 * bt a 0 + cr c a 0 * bt b 0 + cr a b 0 * bt c 0) * x 0 + (cr b c 0 * bt a 1 + cr c a 0 * bt b 1 + cr a b 0 * bt c 1) * x 1 + (cr b c 0 * bt a 2 + cr c a 0 * bt b 2 + cr a b 0 * bt c 2) * x 2) + d.2.1 * ((cr b c 1 * bt a 0 + cr c a 1 * bt b 0 + cr a b 1 * bt c 0) * x 0 + (cr b c 1 * bt a 1 + cr c a 1 * bt b 1 + cr a b 1 * bt c 1) * x 1 + (cr b c 1 * bt a 2 + cr c a 1 * bt b 2 + cr a b 1 * bt c 2) * x 2) + d.2.2 * ((cr b c 2 * bt a 0 + cr c a 2 * bt b 0 + cr a b 2 * bt c 0) * x 0 + (cr b c 2 * bt a 1 + cr c a 2 * bt b 1 + cr a b 2 * bt c 1) * x 1 + (cr b c 2 * bt a 2 + cr c a 2 * bt b 2 + cr a b 2 * bt c 2) * x 2) := by
    unfold r3 d3
    grind
  rw [e, f00, f01, f02, f10, f11, f12, f20, f21, f22]
  unfold d3
  grind
theorem core_eq {w p y : Nat → Int} (h1 : core4 w p) (h2 : core4 w y) (h : ∀ k, k < 3 → y k - p k = 0) : y = p := by
  funext i
  by_cases h4 : 4 ≤ i
  · rw [h1.2.2 i h4, h2.2.2 i h4]
  · have k0 := h 0 (by decide)
    have k1 := h 1 (by decide)
    have k2 := h 2 (by decide)
    have e := h1.2.1.trans h2.2.1.symm
    unfold dot r3 at e
    rw [show bt 15 0 = 1 from rfl, show bt 15 1 = 1 from rfl, show bt 15 2 = 1 from rfl, show bt 15 3 = 1 from rfl] at e
    have : i = 0 ∨ i = 1 ∨ i = 2 ∨ i = 3 := by omega
    rcases this with q | q | q | q <;> subst q <;> omega
theorem own_lt {w p y : Nat → Int} {a b c e : Nat} {d : Int × Int × Int} (hc : cone a b c e) (hp : p = vtx w a b c e) (h1 : core4 w p) (h2 : core4 w y) (hd : owns a b c e d = true) (hne : y ≠ p) : d3 d p < d3 d y := by
  obtain ⟨g1, g2, g3⟩ := of_decide_eq_true hd
  obtain ⟨va, vb, vc⟩ := vtx_r3 (w := w) hc
  rw [← hp] at va vb vc
  obtain ⟨o1, o2, o3, _, o5⟩ := hc
  have sa := end_sg h2 (show a < 8 by omega) (bt e 0)
  have sb := end_sg h2 (show b < 8 by omega) (bt e 1)
  have sc := end_sg h2 o3 (bt e 2)
  rw [← va] at sa
  rw [← vb] at sb
  rw [← vc] at sc
  have pa := sg_pos g1 sa
  have pb := sg_pos g2 sb
  have pc := sg_pos g3 sc
  have e1 := own_eq (show a < 8 by omega) (show b < 8 by omega) o3 d y
  have e2 := own_eq (show a < 8 by omega) (show b < 8 by omega) o3 d p
  have e3 : dt a b c * (dt a b c * (d3 d y - d3 d p)) = dt a b c * (d3 d (cr b c) * (r3 a y - r3 a p)) + dt a b c * (d3 d (cr c a) * (r3 b y - r3 b p)) + dt a b c * (d3 d (cr a b) * (r3 c y - r3 c p)) := by
    grind
  have hpos : 0 < dt a b c * dt a b c := by
    have : 0 ≤ dt a b c * dt a b c := by
      have := Int.natAbs_mul_self (a := dt a b c)
      omega
    have h3 : dt a b c * dt a b c ≠ 0 := fun q => by
      rcases Int.mul_eq_zero.mp q with q | q <;> exact o5 q
    omega
  have h4 : 0 ≤ dt a b c * (dt a b c * (d3 d y - d3 d p)) := by rw [e3]; omega
  rw [← Int.mul_assoc] at h4
  have h5 := Int.nonneg_of_mul_nonneg_right h4 hpos
  by_cases h6 : d3 d y - d3 d p = 0
  · rw [h6, Int.mul_zero, Int.mul_zero] at e3
    have ua := pa.2 (by omega)
    have ub := pb.2 (by omega)
    have uc := pc.2 (by omega)
    have lin : ∀ s, r3 s (fun k => y k - p k) = r3 s y - r3 s p := fun s => by unfold r3; grind
    exact absurd (core_eq h1 h2 (tri_ker (show a < 8 by omega) (show b < 8 by omega) o3 o5 (x := fun k => y k - p k) (by rw [lin]; exact ua) (by rw [lin]; exact ub) (by rw [lin]; exact uc))) hne
  · omega
theorem cap_J {w : Nat → Int} : ∀ L : List (Nat → Int), L.Nodup → (∀ p, p ∈ L → Vtx w p) → ∃ J : List (Int × Int × Int), J.Nodup ∧ (∀ d, d ∈ J → d ∈ dL) ∧ 2 * L.length ≤ J.length ∧ ∀ d, d ∈ J → ∃ p, p ∈ L ∧ ∀ y, core4 w y → y ≠ p → d3 d p < d3 d y
  | [], _, _ => ⟨[], List.nodup_nil, fun d h => absurd h List.not_mem_nil, Nat.le_refl 0, fun d h => absurd h List.not_mem_nil⟩
  | p :: L, hn, hv => by
    obtain ⟨n1, n2⟩ := List.nodup_cons.mp hn
    obtain ⟨J, j1, j2, j3, j4⟩ := cap_J L n2 (fun q hq => hv q (List.mem_cons_of_mem _ hq))
    obtain ⟨hc, a, b, c, e, hcn, hp⟩ := hv p List.mem_cons_self
    have own := fun d hd y hy hne => own_lt (d := d) (y := y) hcn hp hc hy hd hne
    have h2 := own2 c hcn.2.2.1 b hcn.2.1 a hcn.1 hcn.2.2.2.2 e hcn.2.2.2.1
    refine ⟨dL.filter (owns a b c e) ++ J, ?_, ?_, ?_, ?_⟩
    · rw [List.nodup_append]
      refine ⟨dL_nd.filter _, j1, fun d hd d' hd' he => ?_⟩
      subst he
      obtain ⟨q, hq, hq2⟩ := j4 d hd'
      have hne : q ≠ p := fun z => n1 (z ▸ hq)
      have k1 := own d (List.mem_filter.mp hd).2 q (hv q (List.mem_cons_of_mem _ hq)).1 hne
      have k2 := hq2 p hc (Ne.symm hne)
      omega
    · intro d hd
      rcases List.mem_append.mp hd with q | q
      · exact (List.mem_filter.mp q).1
      · exact j2 d q
    · rw [List.length_append, List.length_cons]
      omega
    · intro d hd
      rcases List.mem_append.mp hd with q | q
      · exact ⟨p, List.mem_cons_self, fun y hy hne => own d (List.mem_filter.mp q).2 y hy hne⟩
      · obtain ⟨r, hr, hr2⟩ := j4 d q
        exact ⟨r, List.mem_cons_of_mem _ hr, hr2⟩
theorem cap24 {w : Nat → Int} {L : List (Nat → Int)} (h1 : L.Nodup) (h2 : ∀ p, p ∈ L → Vtx w p) : L.length ≤ 24 := by
  obtain ⟨J, j1, j2, j3, _⟩ := cap_J L h1 h2
  have := List.Nodup.length_le_of_subset j1 (show J ⊆ dL from fun d hd => j2 d hd)
  have h : dL.length = 48 := by decide
  omega
