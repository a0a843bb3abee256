/-! ===== corners: those of the reference are the vertices, the end ===== -/
theorem allB_iff (P : Nat → Bool) : ∀ e, allB P e = true ↔ ∀ k, k < e → P k = true
  | 0 => ⟨fun _ k h => absurd h (Nat.not_lt_zero _), fun _ => rfl⟩
  | e + 1 => by
    have ih := allB_iff P e
    show (allB P e && P e) = true ↔ _
    rw [Bool.and_eq_true, ih]
    constructor
    · intro h k hk
      by_cases q : k = e
      · rw [q]; exact h.2
      · exact h.1 k (by omega)
    · intro h
      exact ⟨fun k hk => h k (by omega), h e (by omega)⟩
theorem w4_z {n : Nat} {w : Nat → Int} {s : Nat} (hw : w 0 = 0) (h : s &&& al n = 0) : w4 n w s = 0 := by unfold w4; rw [h, hw]
theorem w4_e {n : Nat} {w : Nat → Int} {s t : Nat} (h : s &&& al n = t &&& al n) : w4 n w s = w4 n w t := by unfold w4; rw [h]
theorem w4_i {n : Nat} (hn : n ≤ 4) {w : Nat → Int} {s : Nat} (h : s ≤ al n) : w4 n w s = w s := by unfold w4; rw [and_al n hn s h]
theorem core_z {n : Nat} (h1 : 1 ≤ n) (h4 : n ≤ 4) {w p : Nat → Int} (hw : w 0 = 0) (h : core4 (w4 n w) p) : ∀ i, n ≤ i → p i = 0 := by
  intro i hi
  by_cases h5 : 4 ≤ i
  · exact h.2.2 i h5
  · have q1 := h.1 1 (by decide)
    have q2 := h.1 2 (by decide)
    have q3 := h.1 3 (by decide)
    have q4 := h.1 4 (by decide)
    have q7 := h.1 7 (by decide)
    have q8 := h.1 8 (by decide)
    have q15 := h.2.1
    rw [dot_1] at q1
    rw [dot_2] at q2
    rw [dot_3] at q3
    rw [dot_4] at q4
    rw [dot_7] at q7
    rw [dot_8] at q8
    rw [dot_15] at q15
    have : n = 1 ∨ n = 2 ∨ n = 3 := by omega
    rcases this with e | e | e <;> subst e
    · rw [w4_z hw (by decide)] at q2 q4 q8
      rw [w4_e (show 1 &&& al 1 = 15 &&& al 1 by decide)] at q1
      have : i = 1 ∨ i = 2 ∨ i = 3 := by omega
      rcases this with e | e | e <;> subst e <;> omega
    · rw [w4_z hw (by decide)] at q4 q8
      rw [w4_e (show 3 &&& al 2 = 15 &&& al 2 by decide)] at q3
      have : i = 2 ∨ i = 3 := by omega
      rcases this with e | e <;> subst e <;> omega
    · rw [w4_z hw (by decide)] at q8
      rw [w4_e (show 7 &&& al 3 = 15 &&& al 3 by decide)] at q7
      have : i = 3 := by omega
      subst this
      omega
theorem tQ_lt {n : Nat} (h1 : 1 ≤ n) (h4 : n ≤ 4) {S : List Nat} (hl : S.length = n - 1) (hb : ∀ s, s ∈ S → 1 ≤ s ∧ s ≤ al n - 1) : tQ n S 0 < 16 ∧ tQ n S 1 < 16 ∧ tQ n S 2 < 16 := by
  rcases S_case h1 h4 hl hb with ⟨e, a, b, c, eS, ha, hb, hc⟩ | ⟨e, a, b, eS, ha, hb⟩ | ⟨e, a, eS, ha⟩ | ⟨e, eS⟩ <;> subst e <;> subst eS
  · exact ⟨show a < 16 by omega, show b < 16 by omega, show c < 16 by omega⟩
  · exact ⟨show a < 16 by omega, show b < 16 by omega, show 7 < 16 by omega⟩
  · exact ⟨show a < 16 by omega, show 3 < 16 by omega, show 4 < 16 by omega⟩
  · exact ⟨show 1 < 16 by omega, show 2 < 16 by omega, show 4 < 16 by omega⟩
theorem cB_core {n : Nat} (h1 : 1 ≤ n) (h4 : n ≤ 4) {w p : Nat → Int} (hw : w 0 = 0) (hz : ∀ i, n ≤ i → p i = 0) (h15 : dot 15 p = 2 * w (al n)) : cB n w p = true ↔ core4 (w4 n w) p := by
  have e15 : w4 n w 15 = w (al n) := by unfold w4; rw [and_15 n h4]
  unfold cB
  rw [allB_iff]
  constructor
  · intro h
    refine ⟨fun s hs => ?_, by rw [e15]; exact h15, fun i hi => hz i (by omega)⟩
    rw [← dot_and h4 hz hs]
    show 2 * w (s &&& al n) ≤ _
    have hl := and_le n h4 s hs
    by_cases q0 : s &&& al n = 0
    · rw [q0, hw, dot_0]; omega
    · by_cases q1 : s &&& al n = al n
      · have e := dot_and h4 hz (show 15 < 16 by decide)
        rw [and_15 n h4, h15] at e
        rw [q1, e]
        omega
      · have := of_decide_eq_true (h (s &&& al n) (by omega))
        omega
  · intro h s hs
    refine decide_eq_true (Or.inr ?_)
    have := h.1 s (by have := al_lt h4; omega)
    rwa [w4_i h4 (by omega)] at this
theorem chs_4 : ∀ c, c < 15 → ∀ b, b < c → ∀ a, a < b → 1 ≤ a → chs (2 ^ (a - 1) + 2 ^ (b - 1) + 2 ^ (c - 1)) 14 = [a, b, c] ∧ 2 ^ (a - 1) + 2 ^ (b - 1) + 2 ^ (c - 1) < 2 ^ 14 := by decide +kernel
theorem chs_3 : ∀ b, b < 7 → ∀ a, a < b → 1 ≤ a → chs (2 ^ (a - 1) + 2 ^ (b - 1)) 6 = [a, b] ∧ 2 ^ (a - 1) + 2 ^ (b - 1) < 2 ^ 6 := by decide +kernel
theorem dt_3b : ∀ a, a < 8 → ∀ b, b < 8 → ∀ c, c < 8 → (decide (dt a b c = 0) || (decide (dt a b 7 ≠ 0) || (decide (dt b c 7 ≠ 0) || decide (dt a c 7 ≠ 0)))) = true := by decide +kernel
theorem dt_3 (a : Nat) (ha : a < 8) (b : Nat) (hb : b < 8) (c : Nat) (hc : c < 8) (h : dt a b c ≠ 0) : dt a b 7 ≠ 0 ∨ dt b c 7 ≠ 0 ∨ dt a c 7 ≠ 0 := by
  have := dt_3b a ha b hb c hc
  simp only [Bool.or_eq_true, decide_eq_true_eq] at this
  exact this.resolve_left h
theorem dt_37 : ∀ a, a < 8 → ∀ b, b < 8 → dt (7 - a) b 7 = - dt a b 7 ∧ dt a (7 - b) 7 = - dt a b 7 := by decide +kernel
theorem dt_21b : ∀ a, a < 8 → ∀ b, b < 8 → ∀ c, c < 8 → (decide (a % 4 = 1 ∨ a % 4 = 2) || (decide (b % 4 = 1 ∨ b % 4 = 2) || (decide (c % 4 = 1 ∨ c % 4 = 2) || decide (dt a b c = 0)))) = true := by decide +kernel
theorem dt_21 (a : Nat) (ha : a < 8) (b : Nat) (hb : b < 8) (c : Nat) (hc : c < 8) (h1 : ¬ (a % 4 = 1 ∨ a % 4 = 2)) (h2 : ¬ (b % 4 = 1 ∨ b % 4 = 2)) (h3 : ¬ (c % 4 = 1 ∨ c % 4 = 2)) : dt a b c = 0 := by
  have := dt_21b a ha b hb c hc
  simp only [Bool.or_eq_true, decide_eq_true_eq] at this
  exact ((this.resolve_left h1).resolve_left h2).resolve_left h3
theorem and_not3 : ∀ a, a < 8 → (15 - a) &&& al 3 = (7 - a) &&& al 3 := by decide +kernel
theorem and_2 : ∀ a, a < 16 → a &&& al 2 = (a % 4) &&& al 2 ∧ a &&& al 2 = a % 4 := by decide +kernel
theorem cL_fin {n : Nat} (h1 : 1 ≤ n) (h4 : n ≤ 4) {w p : Nat → Int} (hw : w 0 = 0) (hc : core4 (w4 n w) p) {ch : Nat} {S : List Nat} (hch : ch < 2 ^ (al n - 1)) (hS : chs ch (al n - 1) = S) (hl : S.length = n - 1) (hd : dS n S ≠ 0) (hp : p = pS n w S) : p ∈ cL n w (2 ^ (al n - 1)) := by
  rw [cL_mem]
  refine ⟨ch, hch, ?_, by rw [hS]; exact hp⟩
  unfold cS
  rw [hS, Bool.and_eq_true]
  refine ⟨decide_eq_true ⟨hl, hd⟩, ?_⟩
  rw [← hp]
  exact (cB_core h1 h4 hw (core_z h1 h4 hw hc) (by have := hc.2.1; unfold w4 at this; rwa [and_15 n h4] at this)).mpr hc
theorem cL_V {n : Nat} (h1 : 1 ≤ n) (h4 : n ≤ 4) {w : Nat → Int} (hw : w 0 = 0) (p : Nat → Int) : p ∈ cL n w (2 ^ (al n - 1)) ↔ Vtx (w4 n w) p := by
  constructor
  · intro h
    obtain ⟨ch, _, hc, rfl⟩ := (cL_mem n w p _).mp h
    unfold cS at hc
    rw [Bool.and_eq_true] at hc
    obtain ⟨hl, hd⟩ := of_decide_eq_true hc.1
    have hb := chs_b ch (al n - 1)
    obtain ⟨s1, s2, s3, s4⟩ := S_sol h1 h4 hw hl hb hd
    have co := (cB_core h1 h4 hw s3 s2).mp hc.2
    obtain ⟨t0, t1, t2⟩ := tQ_lt h1 h4 hl hb
    obtain ⟨q0, q1, q2, _, _⟩ := p3_sol (w := w4 n w) t0 t1 t2 hd
    exact V_any co t0 t1 t2 hd q0 q1 q2
  · rintro ⟨hc, a, b, c, e, hcn, hp⟩
    have pz := core_z h1 h4 hw hc
    obtain ⟨va, vb, vc⟩ := vtx_r3 (w := w4 n w) hcn
    rw [← hp] at va vb vc
    obtain ⟨o1, o2, o3, _, o5⟩ := hcn
    have ti : ∀ s e, s < 8 → r3 s p = endV (w4 n w) s e → ∃ t, t < 16 ∧ fr t = s ∧ (t = s ∨ t = 15 - s) ∧ dot t p = 2 * w4 n w t := by
      intro s e hs h
      unfold endV at h
      split at h
      · exact ⟨s, by omega, if_pos hs, Or.inl rfl, by rw [dot_lo hs]; exact h⟩
      · refine ⟨15 - s, by omega, ?_, Or.inr rfl, ?_⟩
        · unfold fr; rw [if_neg (by omega)]; omega
        · rw [dot_hi hs, hc.2.1]; omega
    obtain ⟨ta, a1, a2, a3, a4⟩ := ti a _ (by omega) va
    obtain ⟨tb, b1, b2, b3, b4⟩ := ti b _ (by omega) vb
    obtain ⟨tc, c1, c2, c3, c4⟩ := ti c _ o3 vc
    have : n = 1 ∨ n = 2 ∨ n = 3 ∨ n = 4 := by omega
    rcases this with e | e | e | e <;> subst e
    · refine cL_fin (S := []) (ch := 0) (by decide) (by decide) hw hc (by decide) rfl rfl (by decide) ?_
      refine p3_uq (t0 := 1) (t1 := 2) (t2 := 4) (by decide) (by decide) (by decide) (by decide) ?_ ?_ ?_ hc.2.1 hc.2.2
      · have q15 := hc.2.1
        rw [dot_15, pz 1 (by decide), pz 2 (by decide), pz 3 (by decide)] at q15
        rw [dot_1, w4_e (show 1 &&& al 1 = 15 &&& al 1 by decide)]
        omega
      · rw [dot_2, pz 1 (by decide), w4_z hw (by decide)]; rfl
      · rw [dot_4, pz 2 (by decide), w4_z hw (by decide)]; rfl
    · -- two partners
      have ex : ∃ t, t < 16 ∧ (t % 4 = 1 ∨ t % 4 = 2) ∧ dot t p = 2 * w4 2 w t := by
        by_cases qa : a % 4 = 1 ∨ a % 4 = 2
        · exact ⟨ta, a1, by omega, a4⟩
        · by_cases qb : b % 4 = 1 ∨ b % 4 = 2
          · exact ⟨tb, b1, by omega, b4⟩
          · by_cases qc : c % 4 = 1 ∨ c % 4 = 2
            · exact ⟨tc, c1, by omega, c4⟩
            · exact absurd (dt_21 a (by omega) b (by omega) c o3 qa qb qc) o5
      obtain ⟨t, t1, t2, t3⟩ := ex
      have e1 := dot_and (n := 2) (by decide) pz t1
      have e2 : w4 2 w t = w4 2 w (t % 4) := w4_e (and_2 t t1).1
      rw [← e1, (and_2 t t1).2, e2] at t3
      have q15 : dot 15 p = 2 * w4 2 w 15 := hc.2.1
      have u3 : dot 3 p = 2 * w4 2 w 3 := by
        rw [dot_15, pz 2 (by decide), pz 3 (by decide)] at q15
        rw [dot_3, w4_e (show 3 &&& al 2 = 15 &&& al 2 by decide)]
        omega
      have u4 : dot 4 p = 2 * w4 2 w 4 := by
        rw [dot_4, pz 2 (by decide), w4_z hw (by decide)]; rfl
      rcases t2 with q | q <;> rw [q] at t3
      · exact cL_fin (S := [1]) (ch := 1) (by decide) (by decide) hw hc (by decide) (by decide) rfl (by decide) (p3_uq (t0 := 1) (t1 := 3) (t2 := 4) (by decide) (by decide) (by decide) (by decide) t3 u3 u4 q15 hc.2.2)
      · exact cL_fin (S := [2]) (ch := 2) (by decide) (by decide) hw hc (by decide) (by decide) rfl (by decide) (p3_uq (t0 := 2) (t1 := 3) (t2 := 4) (by decide) (by decide) (by decide) (by decide) t3 u3 u4 q15 hc.2.2)
    · -- three partners
      have q15 : dot 15 p = 2 * w4 3 w 15 := hc.2.1
      have u7 : dot 7 p = 2 * w4 3 w 7 := by
        rw [dot_15, pz 3 (by decide)] at q15
        rw [dot_7, w4_e (show 7 &&& al 3 = 15 &&& al 3 by decide)]
        omega
      have tj : ∀ s t, s < 8 → (t = s ∨ t = 15 - s) → dot t p = 2 * w4 3 w t → ∃ u, u < 8 ∧ (u = s ∨ u = 7 - s) ∧ dot u p = 2 * w4 3 w u := by
        intro s t hs ht h
        rcases ht with q | q
        · exact ⟨s, hs, Or.inl rfl, by rw [← q]; exact h⟩
        · refine ⟨7 - s, by omega, Or.inr rfl, ?_⟩
          have e1 := dot_and (n := 3) (by decide) pz (show 15 - s < 16 by omega)
          have e2 := dot_and (n := 3) (by decide) pz (show 7 - s < 16 by omega)
          rw [and_not3 s hs] at e1
          rw [w4_e (and_not3 s hs).symm, ← e2, e1, ← q]
          exact h
      obtain ⟨ua, a5, a6, a7⟩ := tj a ta (by omega) a3 a4
      obtain ⟨ub, b5, b6, b7⟩ := tj b tb (by omega) b3 b4
      obtain ⟨uc, c5, c6, c7⟩ := tj c tc o3 c3 c4
      have fx : ∀ s u v t, s < 8 → t < 8 → (u = s ∨ u = 7 - s) → (v = t ∨ v = 7 - t) → dt s t 7 ≠ 0 → dt u v 7 ≠ 0 := by
        intro s u v t hs ht h1 h2 h
        have k1 := dt_37 s hs t ht
        have k2 := dt_37 (7 - s) (by omega) t ht
        rcases h1 with e | e <;> rcases h2 with e2 | e2 <;> subst e <;> subst e2 <;> omega
      have ex : ∃ u v, u < 8 ∧ v < 8 ∧ dt u v 7 ≠ 0 ∧ dot u p = 2 * w4 3 w u ∧ dot v p = 2 * w4 3 w v := by
        rcases dt_3 a (by omega) b (by omega) c o3 o5 with q | q | q
        · exact ⟨ua, ub, a5, b5, fx a ua ub b (by omega) (by omega) a6 b6 q, a7, b7⟩
        · exact ⟨ub, uc, b5, c5, fx b ub uc c (by omega) o3 b6 c6 q, b7, c7⟩
        · exact ⟨ua, uc, a5, c5, fx a ua uc c (by omega) o3 a6 c6 q, a7, c7⟩
      have ex2 : ∃ u v, u < v ∧ v < 8 ∧ dt u v 7 ≠ 0 ∧ dot u p = 2 * w4 3 w u ∧ dot v p = 2 * w4 3 w v := by
        obtain ⟨u, v, k1, k2, k3, k4, k5⟩ := ex
        have hn := (dt_ne u k1 v k2 7 (by decide) k3).1
        by_cases q : u < v
        · exact ⟨u, v, q, k2, k3, k4, k5⟩
        · exact ⟨v, u, by omega, k1, by rw [(dt_sym u k1 v k2 7 (by decide)).1]; omega, k5, k4⟩
      obtain ⟨u, v, k1, k2, k3, k4, k5⟩ := ex2
      have hn := dt_ne u (by omega) v k2 7 (by decide) k3
      obtain ⟨g1, g2⟩ := chs_3 v (by omega) u k1 (by omega)
      have fe : ∀ s, s < 8 → fr s = s := fun s hs => if_pos hs
      have hd : dt (fr u) (fr v) (fr 7) ≠ 0 := by rw [fe u (by omega), fe v k2, fe 7 (by decide)]; exact k3
      exact cL_fin (S := [u, v]) (by decide) (by decide) hw hc g2 g1 rfl hd (p3_uq (t0 := u) (t1 := v) (t2 := 7) (by omega) (by omega) (by decide) hd k4 k5 u7 q15 hc.2.2)
    · -- four partners
      have q15 : dot 15 p = 2 * w4 4 w 15 := hc.2.1
      obtain ⟨x, y, z, k1, k2, x1, y1, z1, k3, k4, k5, k6⟩ := srt3 (P := fun x y z => x < 16 ∧ y < 16 ∧ z < 16 ∧ dt (fr x) (fr y) (fr z) ≠ 0 ∧ dot x p = 2 * w4 4 w x ∧ dot y p = 2 * w4 4 w y ∧ dot z p = 2 * w4 4 w z) (fun x y z ⟨q1, q2, q3, q4, q5, q6, q7⟩ => ⟨q2, q1, q3, by rw [(dt_sym _ (fr_lt q1) _ (fr_lt q2) _ (fr_lt q3)).1]; omega, q6, q5, q7⟩) (fun x y z ⟨q1, q2, q3, q4, q5, q6, q7⟩ => ⟨q1, q3, q2, by rw [(dt_sym _ (fr_lt q1) _ (fr_lt q2) _ (fr_lt q3)).2]; omega, q5, q7, q6⟩) (fun x y z ⟨q1, q2, q3, q4, _⟩ => by
        have := (dt_ne _ (fr_lt q1) _ (fr_lt q2) _ (fr_lt q3) q4).1
        refine ⟨fun e => this.1 (by rw [e]), fun e => this.2.1 (by rw [e]), fun e => this.2.2 (by rw [e])⟩) (show ta < 16 ∧ tb < 16 ∧ tc < 16 ∧ dt (fr ta) (fr tb) (fr tc) ≠ 0 ∧ dot ta p = 2 * w4 4 w ta ∧ dot tb p = 2 * w4 4 w tb ∧ dot tc p = 2 * w4 4 w tc from ⟨a1, b1, c1, by rw [a2, b2, c2]; exact o5, a4, b4, c4⟩)
      have hn := (dt_ne _ (fr_lt x1) _ (fr_lt y1) _ (fr_lt z1) k3).2
      have x0 : 1 ≤ x := by
        have := hn.1
        unfold fr at this
        split at this <;> omega
      have z0 : z < 15 := by
        have := hn.2.2
        unfold fr at this
        split at this <;> omega
      obtain ⟨g1, g2⟩ := chs_4 z z0 y k2 x k1 x0
      exact cL_fin (S := [x, y, z]) (by decide) (by decide) hw hc g2 g1 rfl k3 (p3_uq (t0 := x) (t1 := y) (t2 := z) x1 y1 z1 k3 k4 k5 k6 q15 hc.2.2)
theorem cL_24 {n : Nat} (h1 : 1 ≤ n) (h4 : n ≤ 4) {w : Nat → Int} (hw : w 0 = 0) {N : Nat} (hN : N ≤ 2 ^ (al n - 1)) : (cL n w N).length ≤ 24 := by
  refine cap24 (w := w4 n w) (srt_nd (cL_srt n w N)) (fun p hp => ?_)
  rw [← cL_V h1 h4 hw]
  obtain ⟨ch, h, r⟩ := (cL_mem n w p N).mp hp
  exact (cL_mem n w p _).mpr ⟨ch, by omega, r⟩
