/-! ===== calls of the class, its whole memory ===== -/

def ansE (e : Int ⊕ (Nat × Nat × (Nat → Int))) (c : Nat) : Int := match e with
  | .inl r => r
  | .inr _ => c
def nC (e : Int ⊕ (Nat × Nat × (Nat → Int))) (c : Nat) : Nat := match e with
  | .inl _ => c
  | .inr _ => c + 1
def nK (e : Int ⊕ (Nat × Nat × (Nat → Int))) (c : Nat) (kd : Nat → Nat) : Nat → Nat := match e with
  | .inl _ => kd
  | .inr (k, _, _) => set1 kd c k
def nS (e : Int ⊕ (Nat × Nat × (Nat → Int))) (c : Nat) (sz : Nat → Nat) : Nat → Nat := match e with
  | .inl _ => sz
  | .inr (_, n, _) => set1 sz c n
def nW (e : Int ⊕ (Nat × Nat × (Nat → Int))) (c : Nat) (W : Nat → Nat → Int) : Nat → Nat → Int := match e with
  | .inl _ => W
  | .inr (_, _, w) => set1 W c w
section IN
variable {h h' : mH} {Q : Option Value → mH → Prop} {i n c r N : Nat} {kd sz : Nat → Nat} {W : Nat → Nat → Int} {A B : Nat → Nat} {T : List Int} {f : Nat → Int64} {so : Nat → Int} {it : Nat → Nat} {im : Nat → Nat → Int} {a p s y k q u v : Int}
theorem cmk {jj : Nat} {args : List Value} {e : Int ⊕ (Nat × Nat × (Nat → Int))} (hc : CI h c kd sz W T r f so it im) (hj : ∀ {A : Nat → Nat} {Q : Option Value → mH → Prop}, CD h c kd sz W A → 30 ≤ h.length → mkC h c kd sz W A Q e → mCt mCd jj args h Q) (hq : ∀ h', CI h' (nC e c) (nK e c kd) (nS e c sz) (nW e c W) T r f so it im → Kp h h' → Q (some (.int (iZ (ansE e c)))) h') : mCt mCd jj args h Q := by
  have hc0 := hc
  obtain ⟨A, B, M, G, hd, ht, hp, hp9, hs, hl, h30, hdis⟩ := hc
  refine hj hd h30 ?_
  rcases e with r' | ⟨kn, n, w⟩
  · exact hq h hc0 (Kp.rf h)
  · intro h' gr cd
    have s : ∀ a b, b ≤ 5 ∨ 7 ≤ a → Sub h h' a b := fun a b hab => gr.sub (fun x m => by simp only [List.mem_cons, List.not_mem_nil, or_false] at m; omega)
    refine hq h' ⟨_, B, M, G, cd, ht.sub (s _ _ (by omega)), hp.sub (s _ _ (by omega)), hp9.sub (s _ _ (by omega)), hs.sub (s _ _ (by omega)) (fun t h4 h0 => s _ _ (by have := hs.b h4 h0; omega)), hl.sub (s _ _ (by omega)), by have := gr.1; omega, fun t h4 h0 i hi => ?_⟩ ⟨s _ _ (by omega), s _ _ (by omega)⟩
    by_cases e : i = c
    · rw [e, set1_e]
      exact Or.inr (hs.b h4 h0).2
    · rw [set1_n _ _ e]
      exact hdis t h4 h0 i (by change i < c + 1 at hi; omega)
/-- ventures' cells alone have changed -/
theorem CI.asked {W' : Nat → Nat → Int} (hd : CD h c kd sz W A) (ht : CTr h T) (hp : CP h 7 r f) {M : Nat} {G : Nat → Int64} (hp9 : CP h 9 M G) (hs : CSh h so it im B) (hl : LN h) (h30 : 30 ≤ h.length) (hdis : ∀ s, s < 4 → 0 ≤ so s → ∀ i, i < c → A i + 9 ≤ B s ∨ B s + 2 ≤ A i) (hd' : CD h' c kd sz W' A) (hx : AskC c A h h') : CI h' c kd sz W' T r f so it im ∧ Kp h h' := by
  have s : ∀ a b, b ≤ 30 → Sub h h' a b := fun a b hb => AskC.lo hd hx hb
  exact ⟨⟨A, B, M, G, hd', ht.sub (s _ _ (by omega)), hp.sub (s _ _ (by omega)), hp9.sub (s _ _ (by omega)), hs.sub (s _ _ (by omega)) (fun t h4 h0 => AskC.sub hd hx (fun i hi => by have := hdis t h4 h0 i hi; omega)), hl.sub (s _ _ (by omega)), by rw [hx.1]; exact h30, hdis⟩, s _ _ (by omega), s _ _ (by omega)⟩
theorem cask {jj : Nat} {args : List Value} {x : Value} (hc : CI h c kd sz W T r f so it im) (hj : ∀ {A : Nat → Nat} {Q : Option Value → mH → Prop}, CD h c kd sz W A → (∀ h', CD h' c kd sz W A → AskC c A h h' → Q (some x) h') → mCt mCd jj args h Q) (hq : ∀ h', CI h' c kd sz W T r f so it im → Kp h h' → Q (some x) h') : mCt mCd jj args h Q := by
  obtain ⟨A, B, M, G, hd, ht, hp, hp9, hs, hl, h30, hdis⟩ := hc
  refine hj hd (fun h' hd' hx => ?_)
  obtain ⟨h1, h2⟩ := CI.asked hd ht hp hp9 hs hl h30 hdis hd' hx
  exact hq h' h1 h2
theorem cread {jj : Nat} {args : List Value} {x : Value} (hc : CI h c kd sz W T r f so it im) (hj : ∀ {A : Nat → Nat} {Q : Option Value → mH → Prop}, CD h c kd sz W A → LN h → Q (some x) h → mCt mCd jj args h Q) (hq : ∀ h', CI h' c kd sz W T r f so it im → Kp h h' → Q (some x) h') : mCt mCd jj args h Q := by
  have hc0 := hc
  obtain ⟨A, B, M, G, hd, ht, hp, hp9, hs, hl, h30, hdis⟩ := hc
  exact hj hd hl (hq h hc0 (Kp.rf h))
theorem x80 (hc : CI h c kd sz W T r f so it im) (ha : i32 a) (hs' : i32 s) (hv : i32 v) (hq : ∀ h', CI h' c kd sz (sSetW c kd sz W a s v) T r f so it im → Kp h h' → Q (some (.int (iZ (sSet c kd sz a s v)))) h') : mCt mCd 80 [.ref 5, .int (iZ a), .int (iZ s), .int (iZ v)] h Q := by
  obtain ⟨A, B, M, G, hd, ht, hp, hp9, hs, hl, h30, hdis⟩ := hc
  refine j80 hd ha hs' hv (fun h' hx hd' => ?_)
  obtain ⟨h1, h2⟩ := CI.asked hd ht hp hp9 hs hl h30 hdis hd' hx
  exact hq h' h1 h2
theorem x111 {x : Int} (hc : CI h c kd sz W T r f so it im) (ha : i32 a) (hx' : i32 x) (hk : i32 k) (hv : i32 v) (hq : ∀ h', CI h' c kd sz (sLayW c kd sz W so it im a x k v) T r f so it im → Kp h h' → Q (some (.int (iZ (sLay c kd sz so it im a x k v)))) h') : mCt mCd 111 [.ref 5, .int (iZ a), .int (iZ x), .int (iZ k), .int (iZ v)] h Q := by
  obtain ⟨A, B, M, G, hd, ht, hp, hp9, hs, hl, h30, hdis⟩ := hc
  refine j111 hd hs hdis ha hx' hk hv (fun h' hx hd' => ?_)
  obtain ⟨h1, h2⟩ := CI.asked hd ht hp hp9 hs hl h30 hdis hd' hx
  exact hq h' h1 h2
/-- cells ahead of 14 have changed -/
theorem CI.low {K : List Nat} (hd : CD h c kd sz W A) (hs : CSh h so it im B) (hl : LN h) (hx : Eqx K h h') (hk : ∀ x, x ∈ K → 5 ≤ x ∧ x < 14) : Kp h h' ∧ LN h' ∧ (∀ i, i < c → Sub h h' (A i) (A i + 9)) ∧ (∀ s, s < 4 → 0 ≤ so s → Sub h h' (B s) (B s + 2)) := by
  have s : ∀ a b, b ≤ 5 ∨ 14 ≤ a → Sub h h' a b := fun a b hab => hx.sub (fun x m => by have := hk x m; omega)
  exact ⟨⟨s _ _ (by omega), s _ _ (by omega)⟩, hl.sub (s _ _ (by omega)), fun i hi => s _ _ (by have := (hd.cv hi).1; omega), fun t h4 h0 => s _ _ (by have := hs.b h4 h0; omega)⟩
theorem x88 (hc : CI h c kd sz W T r f so it im) (hq : ∀ h', CI h' (c - 1) kd sz W T r f so it im → Kp h h' → Q (some (.int (iZ (if c = 0 then -3 else ((c - 1 : Nat) : Int))))) h') : mCt mCd 88 [.ref 5] h Q := by
  have hc0 := hc
  obtain ⟨A, B, M, G, hd, ht, hp, hp9, hs, hl, h30, hdis⟩ := hc
  refine j88 hd (fun h0 => ?_) (fun hne h' hx hd' => ?_)
  · have := hq h (by rw [h0]; rw [h0] at hc0; exact hc0) (Kp.rf h)
    rw [if_pos h0] at this
    exact this
  · obtain ⟨k1, k2, k3, k4⟩ := CI.low hd hs hl hx (by simp)
    have sb : ∀ a b, b ≤ 5 ∨ 7 ≤ a → Sub h h' a b := fun a b hab => hx.sub (fun x m => by simp only [List.mem_cons, List.not_mem_nil, or_false] at m; omega)
    have := hq h' ⟨A, B, M, G, hd', ht.sub (sb _ _ (by omega)), hp.sub (sb _ _ (by omega)), hp9.sub (sb _ _ (by omega)), hs.sub (sb _ _ (by omega)) k4, k2, by rw [hx.1]; exact h30, fun t h4 h0 i hi => hdis t h4 h0 i (by omega)⟩ k1
    rw [if_neg hne] at this
    exact this
theorem x102 (hc : CI h c kd sz W T r f so it im) (ha : i32 a) (hq : ∀ h', CI h' c kd sz W T (sWr c sz W a r f).1 (sWr c sz W a r f).2 so it im → Kp h h' → Q (some (.int (iZ (sWrite c sz a)))) h') : mCt mCd 102 [.ref 5, .int (iZ a)] h Q := by
  obtain ⟨A, B, M, G, hd, ht, hp, hp9, hs, hl, h30, hdis⟩ := hc
  refine j102 hd hl hp ha (fun h' hx hp' => ?_)
  obtain ⟨k1, k2, k3, k4⟩ := CI.low hd hs hl hx (by simp)
  have sb : ∀ a b, b ≤ 7 ∨ 9 ≤ a → Sub h h' a b := fun a b hab => hx.sub (fun x m => by simp only [List.mem_cons, List.not_mem_nil, or_false] at m; omega)
  exact hq h' ⟨A, B, M, G, hd.sub (sb _ _ (by omega)) k3, ht.sub (sb _ _ (by omega)), hp', hp9.sub (sb _ _ (by omega)), hs.sub (sb _ _ (by omega)) k4, k2, by rw [hx.1]; exact h30, hdis⟩ k1
theorem x104 {x : Int64} (hc : CI h c kd sz W T r f so it im) (hk : i32 k) (hq : ∀ h', CI h' c kd sz W T r (if 0 ≤ k ∧ k < r then set1 f k.toNat x else f) so it im → Kp h h' → Q (some (.int (iZ (if 0 ≤ k ∧ k < r then 1 else -2)))) h') : mCt mCd 104 [.ref 5, .int (iZ k), .long x] h Q := by
  obtain ⟨A, B, M, G, hd, ht, hp, hp9, hs, hl, h30, hdis⟩ := hc
  refine j104 hd hp hk (fun h' hx hp' => ?_)
  obtain ⟨k1, k2, k3, k4⟩ := CI.low hd hs hl hx (by simp)
  have sb : ∀ a b, b ≤ 8 ∨ 9 ≤ a → Sub h h' a b := fun a b hab => hx.sub (fun x m => by simp only [List.mem_cons, List.not_mem_nil, or_false] at m; omega)
  exact hq h' ⟨A, B, M, G, hd.sub (sb _ _ (by omega)) k3, ht.sub (sb _ _ (by omega)), hp', hp9.sub (sb _ _ (by omega)), hs.sub (sb _ _ (by omega)) k4, k2, by rw [hx.1]; exact h30, hdis⟩ k1
theorem x105 (hc : CI h c kd sz W T r f so it im) (ha : i32 a) (hq : ∀ h', CI h' c kd sz W T r f so it im → Kp h h' → Q (some (.int (iZ (sCheck c sz W r f a)))) h') : mCt mCd 105 [.ref 5, .int (iZ a)] h Q := by
  obtain ⟨A, B, M, G, hd, ht, hp, hp9, hs, hl, h30, hdis⟩ := hc
  refine j105 hd hl hp hp9 ha (fun h' M' G' hx hp' => ?_)
  obtain ⟨k1, k2, k3, k4⟩ := CI.low hd hs hl hx (by simp)
  have sb : ∀ a b, b ≤ 9 ∨ 11 ≤ a → Sub h h' a b := fun a b hab => hx.sub (fun x m => by simp only [List.mem_cons, List.not_mem_nil, or_false] at m; omega)
  exact hq h' ⟨A, B, M', G', hd.sub (sb _ _ (by omega)) k3, ht.sub (sb _ _ (by omega)), hp.sub (sb _ _ (by omega)), hp', hs.sub (sb _ _ (by omega)) k4, k2, by rw [hx.1]; exact h30, hdis⟩ k1
theorem x106 {x : Int32} (hc : CI h c kd sz W T r f so it im) (hy : i32 y) (hk : i32 k) (hq : ∀ h', CI h' c kd sz W (sActT c kd y k) r f so it im → Kp h h' → Q (some (.int (sActV c kd sz W y k x))) h') : mCt mCd 106 [.ref 5, .int (iZ y), .int (iZ k), .int x] h Q := by
  obtain ⟨A, B, M, G, hd, ht, hp, hp9, hs, hl, h30, hdis⟩ := hc
  refine j106 hd ht hy hk (fun h' hx ht' => ?_)
  obtain ⟨k1, k2, k3, k4⟩ := CI.low hd hs hl hx (by simp)
  have sb : ∀ a b, b ≤ 11 ∨ 13 ≤ a → Sub h h' a b := fun a b hab => hx.sub (fun x m => by simp only [List.mem_cons, List.not_mem_nil, or_false] at m; omega)
  exact hq h' ⟨A, B, M, G, hd.sub (sb _ _ (by omega)) k3, ht', hp.sub (sb _ _ (by omega)), hp9.sub (sb _ _ (by omega)), hs.sub (sb _ _ (by omega)) k4, k2, by rw [hx.1]; exact h30, hdis⟩ k1
theorem x103 (hc : CI h c kd sz W T r f so it im) (hk : i32 k) (hq : ∀ h', CI h' c kd sz W T r f so it im → Kp h h' → Q (some (.long (sRow r f k))) h') : mCt mCd 103 [.ref 5, .int (iZ k)] h Q := by
  have hc0 := hc
  obtain ⟨A, B, M, G, hd, ht, hp, hp9, hs, hl, h30, hdis⟩ := hc
  exact j103 hd hp hk (hq h hc0 (Kp.rf h))
theorem x107 (hc : CI h c kd sz W T r f so it im) (hk : i32 k) (hq : ∀ h', CI h' c kd sz W T r f so it im → Kp h h' → Q (some (.int (iZ (sTrace T k)))) h') : mCt mCd 107 [.ref 5, .int (iZ k)] h Q := by
  have hc0 := hc
  obtain ⟨A, B, M, G, hd, ht, hp, hp9, hs, hl, h30, hdis⟩ := hc
  exact j107 hd ht hk (hq h hc0 (Kp.rf h))
theorem x108 (hc : CI h c kd sz W T r f so it im) (hk : i32 k) (hq : ∀ h', CI h' c kd sz W T r f so it im → Kp h h' → Q (some (.int (iZ (sCount c r T k)))) h') : mCt mCd 108 [.ref 5, .int (iZ k)] h Q := by
  have hc0 := hc
  obtain ⟨A, B, M, G, hd, ht, hp, hp9, hs, hl, h30, hdis⟩ := hc
  exact j108 hd ht hp hk (hq h hc0 (Kp.rf h))
theorem x109 (hc : CI h c kd sz W T r f so it im) (ha : i32 a) (hk : i32 k) (hv : i32 v) (hq : ∀ h', CI h' c kd sz W T r f (if okSheet a k v = true then set1 so a.toNat k else so) (if okSheet a k v = true then set1 it a.toNat (if k < 0 then 0 else v.toNat) else it) (if okSheet a k v = true then set1 im a.toNat (fun _ => 0) else im) → Kp h h' → Q (some (.int (iZ (sSheet a k v)))) h') : mCt mCd 109 [.ref 5, .int (iZ a), .int (iZ k), .int (iZ v)] h Q := by
  obtain ⟨A, B, M, G, hd, ht, hp, hp9, hs, hl, h30, hdis⟩ := hc
  refine j109 hd hs ha hk hv h30 (fun h' B' gr hB hs' => ?_)
  have sb : ∀ a b, b ≤ 13 ∨ 14 ≤ a → Sub h h' a b := fun a b hab => gr.sub (fun x m => by simp only [List.mem_cons, List.not_mem_nil, or_false] at m; omega)
  refine hq h' ⟨A, B', M, G, hd.sub (sb _ _ (by omega)) (fun i hi => sb _ _ (by have := (hd.cv hi).1; omega)), ht.sub (sb _ _ (by omega)), hp.sub (sb _ _ (by omega)), hp9.sub (sb _ _ (by omega)), hs', hl.sub (sb _ _ (by omega)), by have := gr.1; omega, fun t h4 h0 i hi => ?_⟩ ⟨sb _ _ (by omega), sb _ _ (by omega)⟩
  have ht' := (hd.cx hi).top
  rcases hB t h4 h0 with ⟨e, z⟩ | e
  · rw [e]
    exact hdis t h4 z i hi
  · exact Or.inl (by omega)
/-- one sheet's items have changed -/
theorem CI.sheet (hd : CD h c kd sz W A) (ht : CTr h T) (hp : CP h 7 r f) {M : Nat} {G : Nat → Int64} (hp9 : CP h 9 M G) (hs : CSh h so it im B) (hl : LN h) (h30 : 30 ≤ h.length) (hdis : ∀ s, s < 4 → 0 ≤ so s → ∀ i, i < c → A i + 9 ≤ B s ∨ B s + 2 ≤ A i) {im' : Nat → Nat → Int} (hx : h' = h ∨ ∃ s, s < 4 ∧ 0 ≤ so s ∧ Eqx [B s + 1] h h') (hs' : CSh h' so it im' B) : CI h' c kd sz W T r f so it im' ∧ Kp h h' := by
  rcases hx with e | ⟨s, h4, h0, hx⟩
  · subst e
    exact ⟨⟨A, B, M, G, hd, ht, hp, hp9, hs', hl, h30, hdis⟩, Kp.rf _⟩
  · have hb := hs.b h4 h0
    have sb : ∀ a b, b ≤ 30 → Sub h h' a b := fun a b hab => hx.sub (fun x m => by have := List.mem_singleton.mp m; omega)
    refine ⟨⟨A, B, M, G, hd.sub (sb _ _ (by omega)) (fun i hi => hx.sub (fun x m => ?_)), ht.sub (sb _ _ (by omega)), hp.sub (sb _ _ (by omega)), hp9.sub (sb _ _ (by omega)), hs', hl.sub (sb _ _ (by omega)), by rw [hx.1]; exact h30, hdis⟩, sb _ _ (by omega), sb _ _ (by omega)⟩
    have := List.mem_singleton.mp m
    have := hdis s h4 h0 i hi
    omega
theorem x110 (hc : CI h c kd sz W T r f so it im) (ha : i32 a) (hy : i32 y) (hv : i32 v) (hq : ∀ h', CI h' c kd sz W T r f so it (sCellM so it im a y v) → Kp h h' → Q (some (.int (iZ (sCell so it a y)))) h') : mCt mCd 110 [.ref 5, .int (iZ a), .int (iZ y), .int (iZ v)] h Q := by
  obtain ⟨A, B, M, G, hd, ht, hp, hp9, hs, hl, h30, hdis⟩ := hc
  refine j110 hd hs ha hy hv (fun h' hx hs' => ?_)
  obtain ⟨h1, h2⟩ := CI.sheet hd ht hp hp9 hs hl h30 hdis hx hs'
  exact hq h' h1 h2
theorem x112 {x o j : Int} (hc : CI h c kd sz W T r f so it im) (hx' : i32 x) (hy : i32 y) (ho : i32 o) (hj : i32 j) (hv : i32 v) (hq : ∀ h', CI h' c kd sz W T r f so it (sCopyM so it im x y o j v) → Kp h h' → Q (some (.int (iZ (sCopy so it x y o j v)))) h') : mCt mCd 112 [.ref 5, .int (iZ x), .int (iZ y), .int (iZ o), .int (iZ j), .int (iZ v)] h Q := by
  obtain ⟨A, B, M, G, hd, ht, hp, hp9, hs, hl, h30, hdis⟩ := hc
  refine j112 hd hs hx' hy ho hj hv (fun h' hx hs' => ?_)
  obtain ⟨h1, h2⟩ := CI.sheet hd ht hp hp9 hs hl h30 hdis hx hs'
  exact hq h' h1 h2
end IN
