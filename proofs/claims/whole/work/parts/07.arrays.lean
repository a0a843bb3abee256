/-! ===== rows: read, write, length, making, copying ===== -/
def a_iald (n : Nat) : mA := fun L st h c s => match st with
  | .int i :: .ref a :: r => match h[a]? with
    | some (.inl (0, m, .inl f)) => if i < 0 ∨ m ≤ i.toNatClampNeg then none else oN n L (.int (f i.toNatClampNeg) :: r) h c s
    | _ => none
  | _ => none
def a_lald (n : Nat) : mA := fun L st h c s => match st with
  | .int i :: .ref a :: r => match h[a]? with
    | some (.inl (1, m, .inr (.inl f))) => if i < 0 ∨ m ≤ i.toNatClampNeg then none else oN n L (.long (f i.toNatClampNeg) :: r) h c s
    | _ => none
  | _ => none
def a_aald (n : Nat) : mA := fun L st h c s => match st with
  | .int i :: .ref a :: r => match h[a]? with
    | some (.inl (2, m, .inr (.inr (.inr (.inr f))))) => if i < 0 ∨ m ≤ i.toNatClampNeg then none else oN n L (va_rf (f i.toNatClampNeg) :: r) h c s
    | some (.inl (3, m, .inr (.inr (.inr (.inr f))))) => if i < 0 ∨ m ≤ i.toNatClampNeg then none else oN n L (va_rf (f i.toNatClampNeg) :: r) h c s
    | _ => none
  | _ => none
def a_alen (n : Nat) : mA := fun L st h c s => match st with
  | .ref a :: r => match h[a]? with
    | some (.inl (t, x)) => if t < 4 then oN n L (.int (Int32.ofNat x.1) :: r) h c s else none
    | _ => none
  | _ => none
theorem snd_iald {j pc n : Nat} (hd : decode (mBc j) pc = .ok (.iaload, 1)) (hn : n = pc + 1) : mSnd j pc (a_iald n) := by
  subst hn
  intro G l p e s m args below meth c X L st h cc ss
  unfold a_iald
  split
  · next i a r =>
    split
    · next k f e1 =>
      split
      · trivial
      · next hin =>
        intro Q kk ls H locs hL hz hR hl
        obtain ⟨cell, c1, c2, c3, c4, c5⟩ := mRep.arr X.2.2.2.2.2.2.2.2 hR (by decide) e1
        exact W.iald X.1 X.2.1 c1 c2 c3 (fun z => z.elim (fun y => hin (Or.inl y)) (fun y => hin (Or.inr (Nat.le_trans c4.1 y)))) (c5 _ (Nat.not_le.mp fun z => hin (Or.inr z))) rfl rfl hd (kk ls H locs hL hz hR hl)
    · trivial
  · trivial
theorem snd_lald {j pc n : Nat} (hd : decode (mBc j) pc = .ok (.laload, 1)) (hn : n = pc + 1) : mSnd j pc (a_lald n) := by
  subst hn
  intro G l p e s m args below meth c X L st h cc ss
  unfold a_lald
  split
  · next i a r =>
    split
    · next k f e1 =>
      split
      · trivial
      · next hin =>
        intro Q kk ls H locs hL hz hR hl
        obtain ⟨cell, c1, c2, c3, c4, c5⟩ := mRep.arr X.2.2.2.2.2.2.2.2 hR (by decide) e1
        exact W.lald X.1 X.2.1 c1 c2 c3 (fun z => z.elim (fun y => hin (Or.inl y)) (fun y => hin (Or.inr (Nat.le_trans c4.1 y)))) (c5 _ (Nat.not_le.mp fun z => hin (Or.inr z))) rfl rfl hd (kk ls H locs hL hz hR hl)
    · trivial
  · trivial
theorem snd_aald {j pc n : Nat} (hd : decode (mBc j) pc = .ok (.aaload, 1)) (hn : n = pc + 1) : mSnd j pc (a_aald n) := by
  subst hn
  intro G l p e s m args below meth c X L st h cc ss
  unfold a_aald
  split
  · next i a r =>
    split
    · next k f e1 =>
      split
      · trivial
      · next hin =>
        intro Q kk ls H locs hL hz hR hl
        obtain ⟨cell, c1, c2, c3, c4, c5⟩ := mRep.arr X.2.2.2.2.2.2.2.2 hR (by decide) e1
        exact W.aald X.1 X.2.1 c1 c2 rfl c3 (fun z => z.elim (fun y => hin (Or.inl y)) (fun y => hin (Or.inr (Nat.le_trans c4.1 y)))) (c5 _ (Nat.not_le.mp fun z => hin (Or.inr z))) rfl rfl hd (kk ls H locs hL hz hR hl)
    · next k f e1 =>
      split
      · trivial
      · next hin =>
        intro Q kk ls H locs hL hz hR hl
        obtain ⟨cell, c1, c2, c3, c4, c5⟩ := mRep.arr X.2.2.2.2.2.2.2.2 hR (by decide) e1
        exact W.aald X.1 X.2.1 c1 c2 rfl c3 (fun z => z.elim (fun y => hin (Or.inl y)) (fun y => hin (Or.inr (Nat.le_trans c4.1 y)))) (c5 _ (Nat.not_le.mp fun z => hin (Or.inr z))) rfl rfl hd (kk ls H locs hL hz hR hl)
    · trivial
  · trivial
theorem snd_alen {j pc n : Nat} (hd : decode (mBc j) pc = .ok (.arraylength, 1)) (hn : n = pc + 1) : mSnd j pc (a_alen n) := by
  subst hn
  intro G l p e s m args below meth c X L st h cc ss
  unfold a_alen
  split
  · next a r =>
    split
    · next t x e1 =>
      split
      · next ht =>
        intro Q kk ls H locs hL hz hR hl
        obtain ⟨cell, c1, c2, c3, c4, c5⟩ := mRep.arr X.2.2.2.2.2.2.2.2 hR ht e1
        exact W.alen X.1 X.2.1 c1 c2 c4.2 rfl rfl hd (kk ls H locs hL hz hR hl)
      · trivial
    · trivial
  · trivial
def a_iast (n : Nat) : mA := fun L st h c s => match st with
  | .int x :: .int i :: .ref a :: r => match h[a]?, Nat.ble 5 a with
    | some (.inl (0, m, .inl f)), true => if i < 0 ∨ m ≤ i.toNatClampNeg then none else oN n L r (h.set a (.inl (0, m, .inl (upd f i.toNatClampNeg x)))) c s
    | _, _ => none
  | _ => none
def a_last (n : Nat) : mA := fun L st h c s => match st with
  | .long x :: .int i :: .ref a :: r => match h[a]?, Nat.ble 5 a with
    | some (.inl (1, m, .inr (.inl f))), true => if i < 0 ∨ m ≤ i.toNatClampNeg then none else oN n L r (h.set a (.inl (1, m, .inr (.inl (vp_updL f i.toNatClampNeg x))))) c s
    | _, _ => none
  | _ => none
theorem mBase_ad {G : mG} {a : Nat} (h : 5 ≤ a) : mBase G ≤ mAd G a := by
  rw [mAd_ge h]
  omega
theorem mLocs {G : mG} {locs : List Loc} {a i : Nat} (h5 : 5 ≤ a) (hl : ∀ q ∈ locs, mBase G ≤ q.base) : ∀ q ∈ locs ++ [(⟨mAd G a, i⟩ : Loc)], mBase G ≤ q.base := by
  intro z hz
  rcases List.mem_append.mp hz with y | y
  · exact hl z y
  · rw [List.mem_singleton.mp y]
    exact mBase_ad h5
theorem snd_iast {j pc n : Nat} (hd : decode (mBc j) pc = .ok (.iastore, 1)) (hn : n = pc + 1) : mSnd j pc (a_iast n) := by
  subst hn
  intro G l p e s m args below meth c X L st h cc ss
  unfold a_iast
  split
  · next x i a r =>
    split
    · next k f e1 e2 =>
      split
      · trivial
      · next hin =>
        intro Q kk ls H locs hL hz hR hl
        have h5 : 5 ≤ a := Nat.le_of_ble_eq_true e2
        have h1 : H[mAd G a]? = some (vp_cell (G.2.1 0) (k, .inl f)) := hR.2.2.2.2 a _ h5 e1
        refine W.iast X.1 X.2.1 h1 ((mRep.ty X.2.2.2.2.2.2.2.2 (t := 0) (by decide)).1 k (fun j => .int (f j))) (fun q => by cases q) (by show ¬ (i < 0 ∨ (arrV _ _ _).slots.size ≤ _); rw [arrV_size]; exact hin) rfl rfl hd fun H1 g1 g2 g3 => kk ls H1 _ hL hz (hR.set h5 (fun _ => ?_) g2 g3) (mLocs h5 hl)
        show H1[mAd G a]? = some (vp_cell _ (k, .inl _))
        rw [g1, vp_cell_i, vp_cell_i, arrV_store]
        congr 2
        funext q
        by_cases hq : q = i.toNatClampNeg
        · subst hq
          simp [updV, upd]
        · simp [updV, upd, hq]
    · trivial
  · trivial
theorem snd_last {j pc n : Nat} (hd : decode (mBc j) pc = .ok (.lastore, 1)) (hn : n = pc + 1) : mSnd j pc (a_last n) := by
  subst hn
  intro G l p e s m args below meth c X L st h cc ss
  unfold a_last
  split
  · next x i a r =>
    split
    · next k f e1 e2 =>
      split
      · trivial
      · next hin =>
        intro Q kk ls H locs hL hz hR hl
        have h5 : 5 ≤ a := Nat.le_of_ble_eq_true e2
        have h1 : H[mAd G a]? = some (vp_cell (G.2.1 1) (k, .inr (.inl f))) := hR.2.2.2.2 a _ h5 e1
        refine W.last X.1 X.2.1 h1 ((mRep.ty X.2.2.2.2.2.2.2.2 (t := 1) (by decide)).1 k (fun j => .long (f j))) (fun q => by cases q) (by show ¬ (i < 0 ∨ (arrV _ _ _).slots.size ≤ _); rw [arrV_size]; exact hin) rfl rfl hd fun H1 g1 g2 g3 => kk ls H1 _ hL hz (hR.set h5 (fun _ => ?_) g2 g3) (mLocs h5 hl)
        show H1[mAd G a]? = some (vp_cell _ (k, .inr (.inl _)))
        rw [g1, vp_cell_l, vp_cell_l, arrV_store]
        congr 2
        funext q
        by_cases hq : q = i.toNatClampNeg
        · subst hq
          simp [updV, vp_updL]
        · simp [updV, vp_updL, hq]
    · trivial
  · trivial
/-- which objects a row of references takes -/
def mCok (t ci : Nat) : Bool := match t with
  | 2 => [1, 2, 4, 6, 8].contains ci
  | 3 => [5].contains ci
  | _ => false
def a_aast (n : Nat) : mA := fun L st h c s => match st with
  | .ref v :: .int i :: .ref a :: r => match h[a]?, Nat.ble 5 a, h[v]? with
    | some (.inl (t, m, .inr (.inr (.inr (.inr f))))), true, some (.inr (ci, _)) => match mCok t ci with
      | true => if i < 0 ∨ m ≤ i.toNatClampNeg then none else oN n L r (h.set a (.inl (t, m, .inr (.inr (.inr (.inr (va_up f i.toNatClampNeg (some v)))))))) c s
      | false => none
    | _, _, _ => none
  | .null :: .int i :: .ref a :: r => match h[a]?, Nat.ble 5 a with
    | some (.inl (t, m, .inr (.inr (.inr (.inr f))))), true => if t = 2 ∨ t = 3 then (if i < 0 ∨ m ≤ i.toNatClampNeg then none else oN n L r (h.set a (.inl (t, m, .inr (.inr (.inr (.inr (va_up f i.toNatClampNeg none))))))) c s) else none
    | _, _ => none
  | _ => none
theorem mCok_asg {G : mG} {s : State} (hK : mKF G s) {t ci : Nat} {q : vw_C} (h : mCok t ci = true) (hq : vwCl[ci]? = some q) : t < 4 ∧ ∃ (C : String) (kA : Class) (comp : ClassId) (kC : Class), mTy t = .object C ∧ s.vm.classes[G.2.1 t]? = some kA ∧ kA.kind = .array comp (.object C) ∧ s.vm.classes[comp]? = some kC ∧ s.vm.assignable (G.1.1 ci) comp = true := by
  have hnw : ∀ C : String, Cond.castable C "JointWorks$Told" ∈ mNw → va_Nw (.castable C "JointWorks$Told") s := fun C hc => hK.2.1 _ hc
  have asg : ∀ (C E : String) (comp : ClassId), va_Nw (.castable C E) s → s.vm.findClass E = some comp → s.vm.findClass C = some (G.1.1 ci) → s.vm.assignable (G.1.1 ci) comp = true := by
    intro C E comp hc h1 h2
    obtain ⟨x, t1, f1, f2, f3⟩ := Cond.castable_spec (va_Nw.use (A := #[]) rfl hc)
    cases f1.symm.trans h2
    cases f2.symm.trans h1
    exact f3
  have hcls := (hK.1.1 ci q hq).2
  match t, h with
  | 2, h =>
    obtain ⟨kA, comp, k1, k2, k3, -⟩ := (mRep.ty hK (t := 2) (by decide)).2
    have hT := (hK.1.1 6 _ rfl).2
    have hcomp : comp = G.1.1 6 := Option.some.inj (k3.symm.trans hT.1)
    obtain ⟨kC, hkC, -⟩ := hT.2
    refine ⟨by decide, "JointWorks$Told", kA, comp, kC, rfl, k1, k2, by rw [hcomp]; exact hkC, ?_⟩
    have hc : ci = 1 ∨ ci = 2 ∨ ci = 4 ∨ ci = 6 ∨ ci = 8 := by simpa [mCok] using h
    rcases hc with rfl | rfl | rfl | rfl | rfl
    · cases hq; exact asg _ _ _ (hnw "JointWorks$Gloves" (by decide +kernel)) k3 hcls.1
    · cases hq; exact asg _ _ _ (hnw "JointWorks$Joined" (by decide +kernel)) k3 hcls.1
    · cases hq; exact asg _ _ _ (hnw "JointWorks$Runway" (by decide +kernel)) k3 hcls.1
    · rw [hcomp]; exact va_assign hT
    · cases hq; exact asg _ _ _ (hnw "JointWorks$Votes" (by decide +kernel)) k3 hcls.1
  | 3, h =>
    obtain ⟨kA, comp, k1, k2, k3, -⟩ := (mRep.ty hK (t := 3) (by decide)).2
    have hc : ci = 5 := by simpa [mCok] using h
    subst hc
    have hT := (hK.1.1 5 _ rfl).2
    have hcomp : comp = G.1.1 5 := Option.some.inj (k3.symm.trans hT.1)
    obtain ⟨kC, hkC, -⟩ := hT.2
    exact ⟨by decide, "JointWorks$Sheet", kA, comp, kC, rfl, k1, k2, by rw [hcomp]; exact hkC, by rw [hcomp]; exact va_assign hT⟩
  | 0, h => cases h
  | 1, h => cases h
  | t + 4, h => cases h
theorem snd_aast {j pc n : Nat} (hd : decode (mBc j) pc = .ok (.aastore, 1)) (hn : n = pc + 1) : mSnd j pc (a_aast n) := by
  subst hn
  intro G l p e s m args below meth c X L st h cc ss
  unfold a_aast
  split
  · next v i a r =>
    split
    · next t k f ci vs e1 e2 e3 =>
      split
      · next e4 =>
        split
        · trivial
        · next hin =>
          intro Q kk ls H locs hL hz hR hl
          have h5 : 5 ≤ a := Nat.le_of_ble_eq_true e2
          have h1 : H[mAd G a]? = some (vp_cell (G.2.1 t) (k, .inr (.inr (.inr (.inr (fun j => (f j).map (mAd G))))))) := hR.2.2.2.2 a _ h5 e1
          obtain ⟨-, rw_, hrw, cellV, g1, g2, g3, -⟩ := mRep.obj X.2.2.2.2.2.2.2.2 hR e3
          obtain ⟨kV, hkV, -⟩ := (X.2.2.2.2.2.2.2.2.1.1 ci _ hrw).2.2
          obtain ⟨-, C, kA, comp, kC, -, k1, k2, k3, k4⟩ := mCok_asg X.2.2.2.2.2.2.2.2 e4 hrw
          refine W.aast X.1 X.2.1 h1 (fun q h => by cases h) (fun h => by cases h) k1 k2 rfl k3 ⟨fun q => hin (Or.inl q), by show _ < (arrV _ _ _).slots.size; rw [arrV_size]; exact Nat.not_le.mp fun q => hin (Or.inr q)⟩ g1 (fun q h => by rw [g3] at h; cases h) (by rw [g2]; exact hkV) (by rw [g2]; exact k4) rfl rfl hd fun H1 y1 y2 y3 => kk ls H1 _ hL hz (hR.set h5 (fun _ => ?_) y2 y3) (mLocs h5 hl)
          show H1[mAd G a]? = some (vp_cell _ (k, .inr (.inr (.inr (.inr _)))))
          rw [y1, vp_cell_q, vp_cell_q, arrV_store]
          congr 2
          funext q
          by_cases hq : q = i.toNatClampNeg
          · subst hq
            simp [updV, va_up, va_rf]
          · simp [updV, va_up, hq]
      · trivial
    · trivial
  · next i a r =>
    split
    · next t k f e1 e2 =>
      split
      · next ht =>
        split
        · trivial
        · next hin =>
          intro Q kk ls H locs hL hz hR hl
          have h5 : 5 ≤ a := Nat.le_of_ble_eq_true e2
          have h1 : H[mAd G a]? = some (vp_cell (G.2.1 t) (k, .inr (.inr (.inr (.inr (fun j => (f j).map (mAd G))))))) := hR.2.2.2.2 a _ h5 e1
          obtain ⟨C, hC⟩ : ∃ C : String, s.isArrayOf (vp_cell (G.2.1 t) (k, .inr (.inr (.inr (.inr (fun j => (f j).map (mAd G))))))) (.object C) := by
            rcases ht with rfl | rfl
            · exact ⟨"JointWorks$Told", (mRep.ty X.2.2.2.2.2.2.2.2 (t := 2) (by decide)).1 k (fun j => va_rf ((f j).map (mAd G)))⟩
            · exact ⟨"JointWorks$Sheet", (mRep.ty X.2.2.2.2.2.2.2.2 (t := 3) (by decide)).1 k (fun j => va_rf ((f j).map (mAd G)))⟩
          refine va_WaastN X.1 X.2.1 h1 hC (fun h => by cases h) (by show ¬ (i < 0 ∨ (arrV _ _ _).slots.size ≤ _); rw [arrV_size]; exact hin) rfl rfl hd fun H1 y1 y2 y3 => kk ls H1 _ hL hz (hR.set h5 (fun _ => ?_) y2 y3) (mLocs h5 hl)
          show H1[mAd G a]? = some (vp_cell _ (k, .inr (.inr (.inr (.inr _)))))
          rw [y1, vp_cell_q, vp_cell_q, arrV_store]
          congr 2
          funext q
          by_cases hq : q = i.toNatClampNeg
          · subst hq
            simp [updV, va_up, va_rf]
          · simp [updV, va_up, hq]
      · trivial
    · trivial
  · trivial
