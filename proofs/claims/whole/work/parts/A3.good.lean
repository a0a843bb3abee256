/-! ===== worths stay small ===== -/
def Bn (n : Nat) : Int := if n = 4 then 2000 else if n = 3 then 4000 else if n = 2 then 8000 else 16000
theorem Bn_b (n : Nat) : 2000 ≤ Bn n ∧ Bn n ≤ 16000 := by
  unfold Bn
  repeat' split
  all_goals omega
theorem Bn_2 : ∀ n, n ≤ 4 → 2 ≤ n → 2 * Bn n ≤ Bn (n - 1) := by decide +kernel
def G1 (k n : Nat) (w : Nat → Int) : Prop := w 0 = 0 ∧ (∀ s, bd (Bn n) (w s)) ∧ (∀ s, bd (Bn n) (w (al n) - w (andn (al n) s))) ∧ (k = 0 → ∀ s, bd 100 (w s))
def GI (c : Nat) (kd sz : Nat → Nat) (W : Nat → Nat → Int) : Prop := ∀ i, i < c → (1 ≤ sz i ∧ sz i ≤ 4) ∧ G1 (kd i) (sz i) (W i)
theorem G1_of {k n : Nat} {w : Nat → Int} {K : Int} (hK : 0 ≤ K) (hB : 2 * K ≤ Bn n) (hw : ∀ s, bd K (w s)) (h0 : w 0 = 0) (hk : k = 0 → K ≤ 100) : G1 k n w := by
  refine ⟨h0, fun s => ?_, fun s => ?_, fun z s => ?_⟩
  · have := hw s
    unfold bd at *; omega
  · have h1 := hw (al n)
    have h2 := hw (andn (al n) s)
    unfold bd at *; omega
  · have h1 := hw s
    have h2 := hk z
    unfold bd at *; omega
def GE (e : Int ⊕ (Nat × Nat × (Nat → Int))) : Prop := match e with
  | .inl _ => True
  | .inr (k, n, w) => (1 ≤ n ∧ n ≤ 4) ∧ G1 k n w
theorem GI.mk {c : Nat} {kd sz : Nat → Nat} {W : Nat → Nat → Int} (h : GI c kd sz W) {e : Int ⊕ (Nat × Nat × (Nat → Int))} (he : GE e) : GI (nC e c) (nK e c kd) (nS e c sz) (nW e c W) := by
  rcases e with r | ⟨k, n, w⟩
  · exact h
  · intro i hi
    show (1 ≤ set1 sz c n i ∧ set1 sz c n i ≤ 4) ∧ G1 (set1 kd c k i) (set1 sz c n i) (set1 W c w i)
    by_cases q : i = c
    · subst q
      rw [set1_e, set1_e, set1_e]
      exact he
    · rw [set1_n _ _ q, set1_n _ _ q, set1_n _ _ q]
      exact h i (by change i < c + 1 at hi; omega)
theorem fill_bd {F : Nat → Int} {N : Nat} {K : Int} (hK : 0 ≤ K) (h : ∀ s, 1 ≤ s → s < N → bd K (F s)) (s : Nat) : bd K (fillW F N s) := by
  unfold fillW
  split
  · next q => exact h s q.1 q.2
  · unfold bd; omega
theorem fill_0 (F : Nat → Int) (N : Nat) : fillW F N 0 = 0 := by
  unfold fillW
  rw [if_neg (by omega)]
section GO
variable {c : Nat} {kd sz : Nat → Nat} {W : Nat → Nat → Int} {a b p q x y N u L s v k : Int}
theorem g_ven (hx : True) : GE (if 1 ≤ x ∧ x ≤ 4 then (if c = 10 then .inl (-4) else .inr (0, x.toNat, fillW (fun _ => 0) (2 ^ x.toNat))) else .inl (-2)) := by
  split
  · split
    · trivial
    · exact ⟨by omega, G1_of (K := 0) (by decide) (by have := Bn_b x.toNat; omega) (fill_bd (by decide) (fun s _ _ => ⟨by decide, by decide⟩)) (fill_0 _ _) (fun _ => by decide)⟩
  · trivial
theorem g_vot : GE (eVotes c a N u) := by
  unfold eVotes
  split
  · split
    · trivial
    · refine ⟨by omega, G1_of (K := 1) (by decide) (by have := Bn_b a.toNat; omega) (fill_bd (by decide) (fun s _ _ => ?_)) (fill_0 _ _) (fun z => absurd z (by decide))⟩
      unfold vW bd
      split <;> omega
  · trivial
theorem g_run : GE (eRunway c a N) := by
  unfold eRunway
  split
  · split
    · trivial
    · refine ⟨by omega, G1_of (K := 50) (by decide) (by have := Bn_b a.toNat; omega) (fill_bd (by decide) (fun s _ _ => ?_)) (fill_0 _ _) (fun z => absurd z (by decide))⟩
      have := rMx_b N.toNat s a.toNat
      unfold rW bd
      omega
  · trivial
theorem ones_4 (s : Nat) : ones s ≤ 4 := by unfold ones; omega
theorem g_glo : GE (eGloves c a L) := by
  unfold eGloves
  split
  · split
    · trivial
    · refine ⟨by omega, G1_of (K := 4) (by decide) (by have := Bn_b a.toNat; omega) (fill_bd (by decide) (fun s _ _ => ?_)) (fill_0 _ _) (fun z => absurd z (by decide))⟩
      have h1 := ones_4 (s &&& L.toNat)
      have h2 := ones_4 (andn s L.toNat)
      unfold gW bd
      split <;> omega
  · trivial
theorem g_sum (hg : GI c kd sz W) : GE (eSum c sz W a b p q) := by
  unfold eSum
  split
  · next hA =>
    split
    · split
      · next hall =>
        rw [Bool.and_eq_true] at hall
        have hf := (allB_iff _ _).mp hall.2
        refine ⟨(hg a.toNat (by omega)).1, G1_of (K := 1000) (by decide) (by have := Bn_b (sz a.toNat); omega) (fill_bd (by decide) (fun s h1 h2 => ?_)) (fill_0 _ _) (fun z => absurd z (by decide))⟩
        have := of_decide_eq_true (hf s h2)
        unfold bd
        omega
      · trivial
    · trivial
  · trivial
theorem g_dro (hg : GI c kd sz W) : GE (eDrop c sz W a p) := by
  unfold eDrop
  split
  · next hA =>
    obtain ⟨hn, h0, h1, h2, h3⟩ := hg a.toNat (by omega)
    split
    · split
      · trivial
      · split
        · trivial
        · have hb := Bn_b (sz a.toNat)
          exact ⟨by omega, G1_of (K := Bn (sz a.toNat)) (by omega) (Bn_2 _ hn.2 (by omega)) (fill_bd (by omega) (fun s _ _ => h1 _)) (fill_0 _ _) (fun z => absurd z (by decide))⟩
    · trivial
  · trivial
theorem g_joi (hg : GI c kd sz W) : GE (eJoin c sz W a p b) := by
  unfold eJoin
  split
  · next hA =>
    obtain ⟨hn, h0, h1, h2, h3⟩ := hg a.toNat (by omega)
    split
    · split
      · trivial
      · have hb := Bn_b (sz a.toNat)
        exact ⟨by omega, G1_of (K := Bn (sz a.toNat)) (by omega) (Bn_2 _ hn.2 (by omega)) (fill_bd (by omega) (fun s _ _ => h1 _)) (fill_0 _ _) (fun z => absurd z (by decide))⟩
    · trivial
  · trivial
theorem al_pos {n : Nat} (hn : 1 ≤ n) : 1 ≤ al n ∧ al n < 2 ^ n := by
  have := p2_lt (show 0 < n by omega)
  unfold al; omega
theorem g_oth (hg : GI c kd sz W) : GE (eOther c sz W a) := by
  unfold eOther
  split
  · next hA =>
    obtain ⟨hn, h0, h1, h2, h3⟩ := hg a.toNat (by omega)
    generalize hnn : sz a.toNat = n at *
    generalize W a.toNat = w at *
    have hb := Bn_b n
    have hal := al_pos hn.1
    split
    · trivial
    · refine ⟨hn, fill_0 _ _, fill_bd (by omega) (fun s _ _ => h2 s), fun s => ?_, fun z => absurd z (by decide)⟩
      have e1 : fillW (otF w n) (2 ^ n) (al n) = w (al n) := by
        unfold fillW
        rw [if_pos hal]
        unfold otF
        have : andn (al n) (al n) = 0 := by unfold andn; rw [Nat.and_self]; omega
        rw [this, h0]
        omega
      rw [e1]
      have hle : andn (al n) s ≤ al n := by unfold andn; omega
      by_cases z : andn (al n) s = 0
      · rw [z, fill_0]
        have := h1 (al n)
        unfold bd at *; omega
      · have e2 : fillW (otF w n) (2 ^ n) (andn (al n) s) = w (al n) - w (andn (al n) (andn (al n) s)) := by
          unfold fillW
          rw [if_pos (by omega)]
          rfl
        rw [e2]
        have := h1 (andn (al n) (andn (al n) s))
        unfold bd at *; omega
  · trivial
theorem GI.ot (hg : GI c kd sz W) : ∀ i, i < c → wtB (sz i) (otF (W i) (sz i)) := by
  intro i hi s
  obtain ⟨hn, h0, h1, h2, h3⟩ := hg i hi
  have hb := Bn_b (sz i)
  have := fill_bd (F := otF (W i) (sz i)) (N := 2 ^ sz i) (K := Bn (sz i)) (by omega) (fun s _ _ => h2 s) s
  unfold bd at *; omega
theorem GI.z (hg : GI c kd sz W) : ∀ i, i < c → W i 0 = 0 := fun i hi => (hg i hi).2.1
theorem GI.set1 (hg : GI c kd sz W) {i : Nat} (hi : i < c) (hk : kd i = 0) {w : Nat → Int} (hw : ∀ s, bd 100 (w s)) (h0 : w 0 = 0) : GI c kd sz (set1 W i w) := by
  intro j hj
  by_cases e : j = i
  · subst e
    rw [set1_e]
    exact ⟨(hg j hj).1, G1_of (K := 100) (by decide) (by have := Bn_b (sz j); omega) hw h0 (fun _ => by decide)⟩
  · rw [set1_n _ _ e]
    exact hg j hj
theorem g_set (hg : GI c kd sz W) : GI c kd sz (sSetW c kd sz W a s v) := by
  unfold sSetW
  split
  · next ok =>
    obtain ⟨h1, h2, h3, h4⟩ := of_decide_eq_true ok
    have hi : a.toNat < c := by omega
    obtain ⟨hn, g0, g1, g2, g3⟩ := hg a.toNat hi
    refine hg.set1 hi h4 (fun t => ?_) ?_
    · by_cases e : t = s.toNat
      · rw [e, set1_e]; exact h3
      · rw [set1_n _ _ e]; exact g3 h4 t
    · rw [set1_n _ _ (by omega)]
      exact g0
  · exact hg
theorem g_lay {so : Nat → Int} {it : Nat → Nat} {im : Nat → Nat → Int} (hg : GI c kd sz W) : GI c kd sz (sLayW c kd sz W so it im a x k v) := by
  unfold sLayW
  split
  · next ok =>
    unfold sLay at ok
    split at ok
    · next hA =>
      split at ok
      · next hk =>
        split at ok
        · omega
        · split at ok
          · omega
          · split at ok
            · omega
            · split at ok
              · next hall =>
                have hf := (allB_iff _ _).mp hall
                have hi : a.toNat < c := by omega
                obtain ⟨hn, g0, g1, g2, g3⟩ := hg a.toNat hi
                refine hg.set1 hi hk (fun t => ?_) ?_
                · unfold layW
                  split
                  · next q =>
                    have hz := hf (t - 1) (by omega)
                    unfold tldB at hz
                    have hz2 : -100 ≤ layF im x v (t - 1) ∧ layF im x v (t - 1) ≤ 100 := of_decide_eq_true hz
                    exact hz2
                  · exact g3 hk t
                · unfold layW
                  rw [if_neg (by omega)]
                  exact g0
              · omega
      · omega
    · omega
  · exact hg
theorem GI.less (hg : GI c kd sz W) : GI (c - 1) kd sz W := fun i hi => hg i (by omega)
end GO
