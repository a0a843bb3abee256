/-! ===== corners: lists in order, without doubles ===== -/
def lx (p q : Nat → Int) : Prop := p 0 < q 0 ∨ (p 0 = q 0 ∧ (p 1 < q 1 ∨ (p 1 = q 1 ∧ (p 2 < q 2 ∨ (p 2 = q 2 ∧ p 3 < q 3)))))
def zb (p : Nat → Int) : Prop := ∀ i, 4 ≤ i → p i = 0
theorem lx_tr {p q r : Nat → Int} (h1 : lx p q) (h2 : lx q r) : lx p r := by unfold lx at *; omega
theorem lx_ne {p q : Nat → Int} (h : lx p q) : p ≠ q := fun e => by subst e; unfold lx at h; omega
theorem cmp_4 (p q : Nat → Int) : cmpP p q 4 4 = if p 0 < q 0 then -1 else if q 0 < p 0 then 1 else if p 1 < q 1 then -1 else if q 1 < p 1 then 1 else if p 2 < q 2 then -1 else if q 2 < p 2 then 1 else if p 3 < q 3 then -1 else if q 3 < p 3 then 1 else 0 := rfl
theorem cmp_gt {p q : Nat → Int} (h : 0 < cmpP p q 4 4) : lx q p := by
  rw [cmp_4] at h
  unfold lx
  repeat' split at h
  all_goals omega
theorem cmp_lt {p q : Nat → Int} (h : ¬ 0 < cmpP p q 4 4) (h2 : ¬ cmpP p q 4 4 = 0) : lx p q := by
  rw [cmp_4] at h h2
  unfold lx
  repeat' split at h
  all_goals first | omega | (simp_all; done) | (simp_all; omega)
theorem cmp_eq {p q : Nat → Int} (hp : zb p) (hq : zb q) (h : cmpP p q 4 4 = 0) : p = q := by
  rw [cmp_4] at h
  have e : p 0 = q 0 ∧ p 1 = q 1 ∧ p 2 = q 2 ∧ p 3 = q 3 := by
    repeat' split at h
    all_goals omega
  funext i
  by_cases h4 : 4 ≤ i
  · rw [hp i h4, hq i h4]
  · have : i = 0 ∨ i = 1 ∨ i = 2 ∨ i = 3 := by omega
    rcases this with q | q | q | q <;> subst q <;> omega
theorem cmp_n {n : Nat} (h1 : 1 ≤ n) (h4 : n ≤ 4) {p q : Nat → Int} (hp : ∀ i, n ≤ i → p i = 0) (hq : ∀ i, n ≤ i → q i = 0) : cmpP p q n n = cmpP p q 4 4 := by
  rw [cmp_4]
  have : n = 1 ∨ n = 2 ∨ n = 3 ∨ n = 4 := by omega
  rcases this with e | e | e | e <;> subst e
  · have e : cmpP p q 1 1 = if p 0 < q 0 then -1 else if q 0 < p 0 then 1 else 0 := rfl
    rw [e, hp 1 (by omega), hp 2 (by omega), hp 3 (by omega), hq 1 (by omega), hq 2 (by omega), hq 3 (by omega)]
    simp
  · have e : cmpP p q 2 2 = if p 0 < q 0 then -1 else if q 0 < p 0 then 1 else if p 1 < q 1 then -1 else if q 1 < p 1 then 1 else 0 := rfl
    rw [e, hp 2 (by omega), hp 3 (by omega), hq 2 (by omega), hq 3 (by omega)]
    simp
  · have e : cmpP p q 3 3 = if p 0 < q 0 then -1 else if q 0 < p 0 then 1 else if p 1 < q 1 then -1 else if q 1 < p 1 then 1 else if p 2 < q 2 then -1 else if q 2 < p 2 then 1 else 0 := rfl
    rw [e, hp 3 (by omega), hq 3 (by omega)]
    simp
  · exact cmp_4 p q
theorem ins_n {n : Nat} (h1 : 1 ≤ n) (h4 : n ≤ 4) {p : Nat → Int} (hp : ∀ i, n ≤ i → p i = 0) : ∀ L : List (Nat → Int), (∀ q, q ∈ L → ∀ i, n ≤ i → q i = 0) → insL n p L = insL 4 p L
  | [], _ => rfl
  | q :: t, h => by
    have e := cmp_n h1 h4 hp (h q List.mem_cons_self)
    have i := ins_n h1 h4 hp t (fun q hq => h q (List.mem_cons_of_mem _ hq))
    unfold insL
    rw [e, i]
theorem ins_sub {p : Nat → Int} : ∀ L : List (Nat → Int), ∀ x, x ∈ insL 4 p L → x = p ∨ x ∈ L
  | [], x, h => by
    unfold insL at h
    exact Or.inl (List.mem_singleton.mp h)
  | q :: t, x, h => by
    unfold insL at h
    split at h
    · rcases List.mem_cons.mp h with e | e
      · exact Or.inr (e ▸ List.mem_cons_self)
      · rcases ins_sub t x e with e | e
        · exact Or.inl e
        · exact Or.inr (List.mem_cons_of_mem _ e)
    · split at h
      · exact Or.inr h
      · rcases List.mem_cons.mp h with e | e
        · exact Or.inl e
        · exact Or.inr e
theorem ins_mem {p : Nat → Int} (hp : zb p) : ∀ L : List (Nat → Int), (∀ q, q ∈ L → zb q) → ∀ x, x ∈ insL 4 p L ↔ x = p ∨ x ∈ L
  | [], _, x => by
    unfold insL
    rw [List.mem_singleton]
    exact ⟨Or.inl, fun h => h.elim id (fun h => absurd h List.not_mem_nil)⟩
  | q :: t, h, x => by
    refine ⟨ins_sub _ x, fun hx => ?_⟩
    have ih := ins_mem hp t (fun q hq => h q (List.mem_cons_of_mem _ hq)) x
    unfold insL
    split
    · rcases hx with e | e
      · exact List.mem_cons_of_mem _ (ih.mpr (Or.inl e))
      · rcases List.mem_cons.mp e with e | e
        · exact e ▸ List.mem_cons_self
        · exact List.mem_cons_of_mem _ (ih.mpr (Or.inr e))
    · split
      · next c =>
        rcases hx with e | e
        · rw [e, cmp_eq hp (h q List.mem_cons_self) c]
          exact List.mem_cons_self
        · exact e
      · rcases hx with e | e
        · exact e ▸ List.mem_cons_self
        · exact List.mem_cons_of_mem _ e
theorem ins_srt {p : Nat → Int} : ∀ L : List (Nat → Int), L.Pairwise lx → (insL 4 p L).Pairwise lx
  | [], _ => List.pairwise_singleton _ _
  | q :: t, h => by
    obtain ⟨h1, h2⟩ := List.pairwise_cons.mp h
    unfold insL
    split
    · next c =>
      refine List.pairwise_cons.mpr ⟨fun x hx => ?_, ins_srt t h2⟩
      rcases ins_sub t x hx with e | e
      · exact e ▸ cmp_gt c
      · exact h1 x e
    · next c =>
      split
      · exact h
      · next c2 =>
        have l := cmp_lt c c2
        refine List.pairwise_cons.mpr ⟨fun x hx => ?_, h⟩
        rcases List.mem_cons.mp hx with e | e
        · exact e ▸ l
        · exact lx_tr l (h1 x e)
theorem srt_nd {L : List (Nat → Int)} (h : L.Pairwise lx) : L.Nodup := h.imp (fun l => lx_ne l)
theorem srt_eq : ∀ L M : List (Nat → Int), L.Pairwise lx → M.Pairwise lx → (∀ x, x ∈ L ↔ x ∈ M) → L = M
  | [], [], _, _, _ => rfl
  | [], b :: M, _, _, h => absurd ((h b).mpr List.mem_cons_self) List.not_mem_nil
  | a :: L, [], _, _, h => absurd ((h a).mp List.mem_cons_self) List.not_mem_nil
  | a :: L, b :: M, h1, h2, h => by
    obtain ⟨a1, a2⟩ := List.pairwise_cons.mp h1
    obtain ⟨b1, b2⟩ := List.pairwise_cons.mp h2
    have e : a = b := by
      rcases List.mem_cons.mp ((h a).mp List.mem_cons_self) with e | e
      · exact e
      · rcases List.mem_cons.mp ((h b).mpr List.mem_cons_self) with e2 | e2
        · exact e2.symm
        · exact absurd rfl (lx_ne (lx_tr (a1 b e2) (b1 a e)))
    subst e
    have hs : ∀ x, x ∈ L ↔ x ∈ M := by
      intro x
      constructor
      · intro hx
        rcases List.mem_cons.mp ((h x).mp (List.mem_cons_of_mem _ hx)) with e | e
        · exact absurd e.symm (lx_ne (a1 x hx))
        · exact e
      · intro hx
        rcases List.mem_cons.mp ((h x).mpr (List.mem_cons_of_mem _ hx)) with e | e
        · exact absurd e.symm (lx_ne (b1 x hx))
        · exact e
    rw [srt_eq L M a2 b2 hs]
