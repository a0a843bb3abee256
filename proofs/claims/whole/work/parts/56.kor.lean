/-! ===== corners: the choices of the reference ===== -/
def w4 (n : Nat) (w : Nat → Int) (s : Nat) : Int := w (s &&& al n)
def fr (s : Nat) : Nat := if s < 8 then s else 15 - s
def en (w : Nat → Int) (s : Nat) : Int := if s < 8 then 2 * w s else 2 * (w 15 - w s)
def exS (n : Nat) : List Nat := if n = 4 then [] else if n = 3 then [7] else if n = 2 then [3, 4] else [1, 2, 4]
def tQ (n : Nat) (S : List Nat) (i : Nat) : Nat := (S ++ exS n).getD i 0
def dS (n : Nat) (S : List Nat) : Int := dt (fr (tQ n S 0)) (fr (tQ n S 1)) (fr (tQ n S 2))
def p3 (w : Nat → Int) (t0 t1 t2 : Nat) : Nat → Int := pt (fr t0) (fr t1) (fr t2) (en w t0) (en w t1) (en w t2) (2 * w 15)
def pS (n : Nat) (w : Nat → Int) (S : List Nat) : Nat → Int := p3 (w4 n w) (tQ n S 0) (tQ n S 1) (tQ n S 2)
theorem fr_lt {s : Nat} (h : s < 16) : fr s < 8 := by unfold fr; split <;> omega
theorem en_2 (w : Nat → Int) (s : Nat) : ∃ x, en w s = 2 * x := by
  unfold en
  split
  · exact ⟨_, rfl⟩
  · exact ⟨_, rfl⟩
theorem dot_15 (p : Nat → Int) : dot 15 p = p 0 + p 1 + p 2 + p 3 := by
  unfold dot r3
  rw [show bt 15 0 = 1 from rfl, show bt 15 1 = 1 from rfl, show bt 15 2 = 1 from rfl, show bt 15 3 = 1 from rfl]
  grind
theorem dot_en {w p : Nat → Int} {s : Nat} (hs : s < 16) (h : dot 15 p = 2 * w 15) : dot s p = 2 * w s ↔ r3 (fr s) p = en w s := by
  unfold fr en
  by_cases h8 : s < 8
  · rw [if_pos h8, if_pos h8, dot_lo h8]
  · rw [if_neg h8, if_neg h8]
    have e := dot_hi (show 15 - s < 8 by omega) p
    rw [show 15 - (15 - s) = s by omega, h] at e
    omega
theorem pt_15 (a b c : Nat) (ea eb ec tot : Int) : dot 15 (pt a b c ea eb ec tot) = tot := by
  rw [dot_15]
  unfold pt
  simp only [Nat.reduceLT, if_true, if_false, Nat.lt_irrefl]
  omega
theorem pt_zb (a b c : Nat) (ea eb ec tot : Int) : zb (pt a b c ea eb ec tot) := by
  intro i hi
  unfold pt
  rw [if_neg (by omega), if_neg (by omega)]
theorem pt_uq {a b c : Nat} (ha : a < 8) (hb : b < 8) (hc : c < 8) (h0 : dt a b c ≠ 0) {ea eb ec tot : Int} {p : Nat → Int} (xa : r3 a p = 2 * ea) (xb : r3 b p = 2 * eb) (xc : r3 c p = 2 * ec) (ht : dot 15 p = tot) (hz : zb p) : p = pt a b c (2 * ea) (2 * eb) (2 * ec) tot := by
  obtain ⟨ya, yb, yc⟩ := pt_sol ha hb hc h0 ea eb ec tot
  have y15 := pt_15 a b c (2 * ea) (2 * eb) (2 * ec) tot
  have yz := pt_zb a b c (2 * ea) (2 * eb) (2 * ec) tot
  generalize pt a b c (2 * ea) (2 * eb) (2 * ec) tot = y at *
  have lin : ∀ s, r3 s (fun k => p k - y k) = r3 s p - r3 s y := fun s => by unfold r3; grind
  have k := tri_ker ha hb hc h0 (x := fun k => p k - y k) (by rw [lin, xa, ya, Int.sub_self]) (by rw [lin, xb, yb, Int.sub_self]) (by rw [lin, xc, yc, Int.sub_self])
  have k0 : p 0 - y 0 = 0 := k 0 (by decide)
  have k1 : p 1 - y 1 = 0 := k 1 (by decide)
  have k2 : p 2 - y 2 = 0 := k 2 (by decide)
  rw [← y15, dot_15, dot_15] at ht
  funext i
  by_cases h4 : 4 ≤ i
  · rw [hz i h4, yz i h4]
  · have : i = 0 ∨ i = 1 ∨ i = 2 ∨ i = 3 := by omega
    rcases this with q | q | q | q <;> subst q <;> omega
theorem p3_sol {w : Nat → Int} {t0 t1 t2 : Nat} (h0 : t0 < 16) (h1 : t1 < 16) (h2 : t2 < 16) (hd : dt (fr t0) (fr t1) (fr t2) ≠ 0) : dot t0 (p3 w t0 t1 t2) = 2 * w t0 ∧ dot t1 (p3 w t0 t1 t2) = 2 * w t1 ∧ dot t2 (p3 w t0 t1 t2) = 2 * w t2 ∧ dot 15 (p3 w t0 t1 t2) = 2 * w 15 ∧ zb (p3 w t0 t1 t2) := by
  obtain ⟨x0, q0⟩ := en_2 w t0
  obtain ⟨x1, q1⟩ := en_2 w t1
  obtain ⟨x2, q2⟩ := en_2 w t2
  have e15 : dot 15 (p3 w t0 t1 t2) = 2 * w 15 := pt_15 _ _ _ _ _ _ _
  obtain ⟨ya, yb, yc⟩ := pt_sol (fr_lt h0) (fr_lt h1) (fr_lt h2) hd x0 x1 x2 (2 * w 15)
  rw [← q0, ← q1, ← q2] at ya yb yc
  exact ⟨(dot_en h0 e15).mpr ya, (dot_en h1 e15).mpr yb, (dot_en h2 e15).mpr yc, e15, pt_zb _ _ _ _ _ _ _⟩
theorem p3_uq {w p : Nat → Int} {t0 t1 t2 : Nat} (h0 : t0 < 16) (h1 : t1 < 16) (h2 : t2 < 16) (hd : dt (fr t0) (fr t1) (fr t2) ≠ 0) (y0 : dot t0 p = 2 * w t0) (y1 : dot t1 p = 2 * w t1) (y2 : dot t2 p = 2 * w t2) (y3 : dot 15 p = 2 * w 15) (hz : zb p) : p = p3 w t0 t1 t2 := by
  obtain ⟨x0, q0⟩ := en_2 w t0
  obtain ⟨x1, q1⟩ := en_2 w t1
  obtain ⟨x2, q2⟩ := en_2 w t2
  have z0 := (dot_en h0 y3).mp y0
  have z1 := (dot_en h1 y3).mp y1
  have z2 := (dot_en h2 y3).mp y2
  unfold p3
  rw [q0] at z0
  rw [q1] at z1
  rw [q2] at z2
  rw [q0, q1, q2]
  exact pt_uq (fr_lt h0) (fr_lt h1) (fr_lt h2) hd z0 z1 z2 y3 hz
theorem srt3 {P : Nat → Nat → Nat → Prop} (s1 : ∀ a b c, P a b c → P b a c) (s2 : ∀ a b c, P a b c → P a c b) (ne : ∀ a b c, P a b c → a ≠ b ∧ b ≠ c ∧ a ≠ c) {a b c : Nat} (h : P a b c) : ∃ a' b' c', a' < b' ∧ b' < c' ∧ P a' b' c' := by
  have hn := ne a b c h
  by_cases h1 : a < b
  · by_cases h2 : b < c
    · exact ⟨a, b, c, h1, h2, h⟩
    · by_cases h3 : a < c
      · exact ⟨a, c, b, h3, by omega, s2 _ _ _ h⟩
      · exact ⟨c, a, b, by omega, h1, s1 _ _ _ (s2 _ _ _ h)⟩
  · by_cases h2 : a < c
    · exact ⟨b, a, c, by omega, h2, s1 _ _ _ h⟩
    · by_cases h3 : b < c
      · exact ⟨b, c, a, h3, by omega, s2 _ _ _ (s1 _ _ _ h)⟩
      · exact ⟨c, b, a, by omega, by omega, s1 _ _ _ (s2 _ _ _ (s1 _ _ _ h))⟩
theorem dt_sym : ∀ a, a < 8 → ∀ b, b < 8 → ∀ c, c < 8 → dt b a c = - dt a b c ∧ dt a c b = - dt a b c := by decide +kernel
theorem dt_z1 : ∀ a, a < 8 → ∀ c, c < 8 → dt a a c = 0 ∧ dt a c a = 0 ∧ dt c a a = 0 := by decide +kernel
theorem dt_z2 : ∀ a, a < 8 → ∀ c, c < 8 → dt 0 a c = 0 ∧ dt a 0 c = 0 ∧ dt a c 0 = 0 := by decide +kernel
theorem dt_ne (a : Nat) (ha : a < 8) (b : Nat) (hb : b < 8) (c : Nat) (hc : c < 8) (h : dt a b c ≠ 0) : (a ≠ b ∧ b ≠ c ∧ a ≠ c) ∧ a ≠ 0 ∧ b ≠ 0 ∧ c ≠ 0 := by
  refine ⟨⟨?_, ?_, ?_⟩, ?_, ?_, ?_⟩ <;> intro e <;> subst e <;> refine h ?_
  · exact (dt_z1 _ ha _ hc).1
  · exact (dt_z1 _ hb _ ha).2.2
  · exact (dt_z1 _ ha _ hb).2.1
  · exact (dt_z2 _ hb _ hc).1
  · exact (dt_z2 _ ha _ hc).2.1
  · exact (dt_z2 _ ha _ hb).2.2
theorem bt_e : ∀ x, x < 2 → ∀ y, y < 2 → ∀ z, z < 2 → bt (x + 2 * y + 4 * z) 0 = x ∧ bt (x + 2 * y + 4 * z) 1 = y ∧ bt (x + 2 * y + 4 * z) 2 = z := by decide +kernel
theorem V_any {w p : Nat → Int} (h : core4 w p) {t0 t1 t2 : Nat} (h0 : t0 < 16) (h1 : t1 < 16) (h2 : t2 < 16) (hd : dt (fr t0) (fr t1) (fr t2) ≠ 0) (y0 : dot t0 p = 2 * w t0) (y1 : dot t1 p = 2 * w t1) (y2 : dot t2 p = 2 * w t2) : Vtx w p := by
  have ti : ∀ t, t < 16 → dot t p = 2 * w t → ∃ e, e < 2 ∧ r3 (fr t) p = endV w (fr t) e := by
    intro t ht hy
    have := (dot_en ht h.2.1).mp hy
    unfold en at this
    unfold endV
    unfold fr at this ⊢
    by_cases h8 : t < 8
    · refine ⟨0, by omega, ?_⟩
      rw [if_pos h8] at this ⊢
      rw [if_pos h8] at this
      rw [if_pos rfl]
      exact this
    · refine ⟨1, by omega, ?_⟩
      rw [if_neg h8] at this ⊢
      rw [if_neg h8] at this
      rw [if_neg (by decide), show 15 - (15 - t) = t by omega]
      exact this
  obtain ⟨a, b, c, hab, hbc, ha, hb, hc, hdd, ⟨ea, ea2, xa⟩, ⟨eb, eb2, xb⟩, ⟨ec, ec2, xc⟩⟩ := srt3 (P := fun a b c => a < 8 ∧ b < 8 ∧ c < 8 ∧ dt a b c ≠ 0 ∧ (∃ e, e < 2 ∧ r3 a p = endV w a e) ∧ (∃ e, e < 2 ∧ r3 b p = endV w b e) ∧ (∃ e, e < 2 ∧ r3 c p = endV w c e)) (fun a b c ⟨q1, q2, q3, q4, q5, q6, q7⟩ => ⟨q2, q1, q3, by rw [(dt_sym a q1 b q2 c q3).1]; omega, q6, q5, q7⟩) (fun a b c ⟨q1, q2, q3, q4, q5, q6, q7⟩ => ⟨q1, q3, q2, by rw [(dt_sym a q1 b q2 c q3).2]; omega, q5, q7, q6⟩) (fun a b c ⟨q1, q2, q3, q4, _⟩ => (dt_ne a q1 b q2 c q3 q4).1) ⟨fr_lt h0, fr_lt h1, fr_lt h2, hd, ti t0 h0 y0, ti t1 h1 y1, ti t2 h2 y2⟩
  obtain ⟨b0, b1, b2⟩ := bt_e ea ea2 eb eb2 ec ec2
  refine ⟨h, a, b, c, ea + 2 * eb + 4 * ec, ⟨hab, hbc, hc, by omega, hdd⟩, ?_⟩
  unfold vtx
  rw [b0, b1, b2]
  obtain ⟨x0, q0⟩ := endV_2 w a ea
  obtain ⟨x1, q1⟩ := endV_2 w b eb
  obtain ⟨x2, q2⟩ := endV_2 w c ec
  rw [q0] at xa
  rw [q1] at xb
  rw [q2] at xc
  rw [q0, q1, q2]
  exact pt_uq ha hb hc hdd xa xb xc h.2.1 h.2.2
/-- the sets of a choice -/
def chs (ch : Nat) : Nat → List Nat
  | 0 => []
  | k + 1 => if bt ch k = 1 then chs ch k ++ [k + 1] else chs ch k
theorem chs_b (ch : Nat) : ∀ k, ∀ s, s ∈ chs ch k → 1 ≤ s ∧ s ≤ k
  | 0, s, h => absurd h List.not_mem_nil
  | k + 1, s, h => by
    unfold chs at h
    split at h
    · rcases List.mem_append.mp h with q | q
      · have := chs_b ch k s q; omega
      · have := List.mem_singleton.mp q; omega
    · have := chs_b ch k s h; omega
def cB (n : Nat) (w p : Nat → Int) : Bool := allB (fun s => decide (s = 0 ∨ 2 * w s ≤ dot s p)) (al n)
def cS (n : Nat) (w : Nat → Int) (ch : Nat) : Bool := decide ((chs ch (al n - 1)).length = n - 1 ∧ dS n (chs ch (al n - 1)) ≠ 0) && cB n w (pS n w (chs ch (al n - 1)))
def cL (n : Nat) (w : Nat → Int) : Nat → List (Nat → Int)
  | 0 => []
  | N + 1 => if cS n w N = true then insL 4 (pS n w (chs N (al n - 1))) (cL n w N) else cL n w N
theorem pS_zb (n : Nat) (w : Nat → Int) (S : List Nat) : zb (pS n w S) := pt_zb _ _ _ _ _ _ _
theorem cL_zb (n : Nat) (w : Nat → Int) : ∀ N, ∀ p, p ∈ cL n w N → zb p
  | 0, p, h => absurd h List.not_mem_nil
  | N + 1, p, h => by
    unfold cL at h
    split at h
    · rcases ins_sub _ p h with e | e
      · rw [e]; exact pS_zb n w _
      · exact cL_zb n w N p e
    · exact cL_zb n w N p h
theorem cL_mem (n : Nat) (w : Nat → Int) (x : Nat → Int) : ∀ N, x ∈ cL n w N ↔ ∃ ch, ch < N ∧ cS n w ch = true ∧ x = pS n w (chs ch (al n - 1))
  | 0 => ⟨fun h => absurd h List.not_mem_nil, fun ⟨ch, h, _⟩ => absurd h (Nat.not_lt_zero _)⟩
  | N + 1 => by
    have ih := cL_mem n w x N
    have st : (∃ ch, ch < N + 1 ∧ cS n w ch = true ∧ x = pS n w (chs ch (al n - 1))) ↔ (cS n w N = true ∧ x = pS n w (chs N (al n - 1))) ∨ ∃ ch, ch < N ∧ cS n w ch = true ∧ x = pS n w (chs ch (al n - 1)) := by
      constructor
      · rintro ⟨ch, h1, h2⟩
        by_cases e : ch = N
        · exact Or.inl (e ▸ h2)
        · exact Or.inr ⟨ch, by omega, h2⟩
      · rintro (h | ⟨ch, h1, h2⟩)
        · exact ⟨N, by omega, h⟩
        · exact ⟨ch, by omega, h2⟩
    rw [st, ← ih]
    rw [show cL n w (N + 1) = if cS n w N = true then insL 4 (pS n w (chs N (al n - 1))) (cL n w N) else cL n w N from rfl]
    by_cases c : cS n w N = true
    · rw [if_pos c, ins_mem (pS_zb n w _) _ (cL_zb n w N)]
      exact ⟨fun h => h.imp (fun e => ⟨c, e⟩) id, fun h => h.imp (fun e => e.2) id⟩
    · rw [if_neg c]
      exact ⟨Or.inr, fun h => h.elim (fun e => absurd e.1 c) id⟩
theorem cL_srt (n : Nat) (w : Nat → Int) : ∀ N, (cL n w N).Pairwise lx
  | 0 => List.Pairwise.nil
  | N + 1 => by
    unfold cL
    split
    · exact ins_srt _ (cL_srt n w N)
    · exact cL_srt n w N
