/-! ===== making cells, static fields, copying rows ===== -/
def a_new (n ci sz mc ms : Nat) (fs : List Value) : mA := fun L st h c s => match Nat.ble (c + 1) mc, Nat.ble (s + sz) ms with
  | true, true => oN n L (.ref h.length :: st) (h ++ [.inr (ci, fs)]) (c + 1) (s + sz)
  | _, _ => none
theorem snd_new {j pc n ci sz mc ms ix : Nat} {fs : List Value} {q : vw_C} (hq : vwCl[ci]? = some q) (hsz : q.2.2 = sz) (hmc : (mRm j).cells = mc) (hms : (mRm j).slots = ms) (hfs : ∀ k, k < sz → defaultValue (mTyF ci k) = vp_V fs k) (hv : ∀ v ∈ fs, ∀ a, v ≠ .ref a) (hw1 : Cond.classLink (mNm j).cls ix q.1 ∈ mWt) (hw2 : Cond.instantiable q.1 sz ∈ mWt) (hw3 : Cond.initialized q.1 ∈ mWt) (hd : decode (mBc j) pc = .ok (.new ix, 3)) (hn : n = pc + 3) : mSnd j pc (a_new n ci sz mc ms fs) := by
  subst hn; subst hsz; subst hmc; subst hms
  intro G l p e s m args below meth c X L st h cc ss
  unfold a_new
  split
  · next e1 e2 =>
    intro Q kk ls H locs hL hz hR hl
    have hK := X.2.2.2.2.2.2.2.2
    have hKn := hK.1.1 ci q hq
    have hid : fs.map (mTr G) = fs := by
      rw [show fs.map (mTr G) = fs.map id from List.map_congr_left (fun v hm => by
        cases v with
        | ref a => exact absurd rfl (hv _ hm a)
        | _ => rfl)]
      exact List.map_id fs
    refine W.newcK X.1 X.2.1 X.2.2.2.1 (X.2.2.2.2.1 _ hw1) (X.2.2.2.2.1 _ hw2) (X.2.2.2.2.1 _ hw3) rfl hd (Nat.le_of_ble_eq_true e1) (Nat.le_of_ble_eq_true e2) hKn.2.1 rfl fun H1 kC hkC g1 g2 g3 => ?_
    have hw := kk ls H1 locs hL hz (hR.push (e := .inr (ci, fs)) ?_ g2 g3) hl
    · rw [hR.at_new]
      exact hw
    · show va_at G.1 vwCl (H.size, .inr (ci, fs.map (mTr G))) H1
      rw [hid]
      exact ⟨_, hq, (u_born (mTyF ci) X.2.2.2.2.1 (mInAll ci q hq) hKn hkC g1 (mTyAll ci q hq).1).to hfs⟩
  · trivial
def mZero (t : Nat) : (Nat → Int32) ⊕ (Nat → Int64) ⊕ (Nat → UInt32) ⊕ (Nat → UInt64) ⊕ (Nat → Option Nat) := match t with
  | 0 => .inl (fun _ => 0)
  | 1 => .inr (.inl (fun _ => 0))
  | _ => .inr (.inr (.inr (.inr (fun _ => none))))
def a_newa (n t mc ms : Nat) : mA := fun L st h c s => match st with
  | .int x :: r => if x < 0 then none else match Nat.ble (c + 1) mc, Nat.ble (s + x.toNatClampNeg) ms, Nat.ble (x.toNatClampNeg * 8) 536870912 with
    | true, true, true => oN n L (.ref h.length :: r) (h ++ [.inl (t, x.toNatClampNeg, mZero t)]) (c + 1) (s + x.toNatClampNeg)
    | _, _, _ => none
  | _ => none
theorem snd_newi {j pc n mc ms : Nat} (hmc : (mRm j).cells = mc) (hms : (mRm j).slots = ms) (hw : Cond.arrayClass .int ∈ mWt) (hd : decode (mBc j) pc = .ok (.newarray .int, 2)) (hn : n = pc + 2) : mSnd j pc (a_newa n 0 mc ms) := by
  subst hn; subst hmc; subst hms
  intro G l p e s m args below meth c X L st h cc ss
  unfold a_newa
  split
  · next x r =>
    split
    · trivial
    · next hx =>
      split
      · next e1 e2 e3 =>
        intro Q kk ls H locs hL hz hR hl
        have hK := X.2.2.2.2.2.2.2.2
        refine va_newaK X.1 X.2.1 (atype := .int) (X.2.2.2.2.1 _ hw) rfl hd rfl hx rfl (Nat.le_trans (Nat.mul_le_mul_left _ (by decide)) (Nat.le_of_ble_eq_true e3)) (Nat.le_of_ble_eq_true e1) (Nat.le_of_ble_eq_true e2) rfl fun H1 cA g1 g2 g3 g4 g5 => ?_
        have hc : G.2.1 0 = cA := Option.some.inj ((mRep.ty hK (t := 0) (by decide)).2.symm.trans g5)
        have hw := kk ls H1 locs hL hz (hR.push (e := .inl (0, x.toNatClampNeg, .inl (fun _ => 0))) ?_ g2 g3) hl
        · rw [hR.at_new]
          exact hw
        · show H1[H.size]? = some (vp_cell (G.2.1 0) (x.toNatClampNeg, .inl (fun _ => 0)))
          rw [hc, g1]
          rfl
      · trivial
  · trivial
theorem snd_newl {j pc n mc ms : Nat} (hmc : (mRm j).cells = mc) (hms : (mRm j).slots = ms) (hw : Cond.arrayClass .long ∈ mWt) (hd : decode (mBc j) pc = .ok (.newarray .long, 2)) (hn : n = pc + 2) : mSnd j pc (a_newa n 1 mc ms) := by
  subst hn; subst hmc; subst hms
  intro G l p e s m args below meth c X L st h cc ss
  unfold a_newa
  split
  · next x r =>
    split
    · trivial
    · next hx =>
      split
      · next e1 e2 e3 =>
        intro Q kk ls H locs hL hz hR hl
        have hK := X.2.2.2.2.2.2.2.2
        refine va_newaK X.1 X.2.1 (atype := .long) (X.2.2.2.2.1 _ hw) rfl hd rfl hx rfl (Nat.le_trans (Nat.mul_le_mul_left _ (by decide)) (Nat.le_of_ble_eq_true e3)) (Nat.le_of_ble_eq_true e1) (Nat.le_of_ble_eq_true e2) rfl fun H1 cA g1 g2 g3 g4 g5 => ?_
        have hc : G.2.1 1 = cA := Option.some.inj ((mRep.ty hK (t := 1) (by decide)).2.symm.trans g5)
        have hw := kk ls H1 locs hL hz (hR.push (e := .inl (1, x.toNatClampNeg, .inr (.inl (fun _ => 0)))) ?_ g2 g3) hl
        · rw [hR.at_new]
          exact hw
        · show H1[H.size]? = some (vp_cell (G.2.1 1) (x.toNatClampNeg, .inr (.inl (fun _ => 0))))
          rw [hc, g1]
          rfl
      · trivial
  · trivial
theorem snd_anew {j pc n mc ms t ix : Nat} {C : String} (ht : t = 2 ∨ t = 3) (hC : mTy t = .object C) (hmc : (mRm j).cells = mc) (hms : (mRm j).slots = ms) (hw1 : Cond.classLink (mNm j).cls ix C ∈ mWt) (hd : decode (mBc j) pc = .ok (.anewarray ix, 3)) (hn : n = pc + 3) : mSnd j pc (a_newa n t mc ms) := by
  subst hn; subst hmc; subst hms
  intro G l p e s m args below meth c X L st h cc ss
  unfold a_newa
  split
  · next x r =>
    split
    · trivial
    · next hx =>
      split
      · next e1 e2 e3 =>
        intro Q kk ls H locs hL hz hR hl
        have hK := X.2.2.2.2.2.2.2.2
        have hAO : va_AO C s := by
          rcases ht with rfl | rfl
          · cases hC; exact hK.2.2.2.2.1
          · cases hC; exact hK.2.2.2.2.2
        refine W.anew X.1 X.2.1 X.2.2.2.1 (X.2.2.2.2.1 _ hw1) (va_AO.use hAO) rfl hd rfl hx (Nat.le_trans (Nat.mul_le_mul_left _ (by decide)) (Nat.le_of_ble_eq_true e3)) (Nat.le_of_ble_eq_true e1) (Nat.le_of_ble_eq_true e2) fun cA kA comp f1 f2 f3 f4 => ?_
        generalize hH1 : H.push ({ cls := cA, slots := Array.replicate x.toNatClampNeg .null, vm := .none } : Cell) = H1
        have z1 : H1.size = H.size + 1 := by rw [← hH1, Array.size_push]
        have g1 : H1[H.size]? = some (arrV cA x.toNatClampNeg (fun _ => .null)) := by rw [← hH1, Array.getElem?_push_size, ← arrV_new]
        have o1 : ∀ q : Nat, q < H.size → H1[q]? = H[q]? := fun q hq => by rw [← hH1, Array.getElem?_push, if_neg (Nat.ne_of_lt hq)]
        have hc : G.2.1 t = cA := by
          have h2 := (mRep.ty hK (t := t) (by omega)).2
          rw [hC] at h2
          obtain ⟨kB, cm, y1, y2, y3, y4⟩ := h2
          exact Option.some.inj (y4.symm.trans f1)
        have hw := kk ls H1 locs hL hz (hR.push (e := .inl (t, x.toNatClampNeg, mZero t)) ?_ z1 o1) hl
        · rw [hR.at_new]
          exact hw
        · rcases ht with rfl | rfl
          · show H1[H.size]? = some (vp_cell (G.2.1 2) (x.toNatClampNeg, .inr (.inr (.inr (.inr (fun _ => none))))))
            rw [hc, g1]
            rfl
          · show H1[H.size]? = some (vp_cell (G.2.1 3) (x.toNatClampNeg, .inr (.inr (.inr (.inr (fun _ => none))))))
            rw [hc, g1]
            rfl
      · trivial
  · trivial
theorem snd_gets {j pc n k ix : Nat} {nm : String} (hq : (nm, k) ∈ mStc) (hk : k < 5) (hw : Cond.fieldLink (mNm j).cls ix "JointWorks" nm "[J" ∈ mWt) (hd : decode (mBc j) pc = .ok (.getstatic ix, 3)) (hn : n = pc + 3) : mSnd j pc (a_push n (.ref k)) := by
  subst hn
  intro G l p e s m args below meth c X L st h cc ss
  intro Q kk ls H locs hL hz hR hl
  obtain ⟨cf, kf, fi, f, a, cell, h1, h2, h3, h4, h5, h6, h7, h8⟩ := X.2.2.2.2.2.2.2.2.2.2.2.1 _ hq
  refine W.gets X.1 X.2.1 X.2.2.2.1 (X.2.2.2.2.1 _ hw) h1 h2 h3 h4 (by rw [hR.1 a (Nat.not_le.mp h8)]; exact h5) (fun e => by rw [e] at h6; cases h6) h7 rfl hd ?_
  have := kk ls H locs hL hz hR hl
  rw [show (((Value.ref k :: st).map (mTr G))) = .ref (G.2.2.1 k) :: st.map (mTr G) by simp [mTr, mAd_lt hk]] at this
  exact this
def a_copy (n lo : Nat) : mA := fun L st h c s => match st with
  | .int len :: .int dp :: .ref d :: .int sp :: .ref a :: r => match h[a]?, h[d]?, Nat.ble 5 a, Nat.ble 5 d, Nat.ble ((r.map fun v => v.category).sum + 18) lo with
    | some (.inl (0, n0, .inl f)), some (.inl (0, n1, .inl g)), true, true, true => if sp < 0 ∨ dp < 0 ∨ len < 0 ∨ ¬ (sp.toNatClampNeg + len.toNatClampNeg ≤ n0 ∧ dp.toNatClampNeg + len.toNatClampNeg ≤ n1) then none else oN n L r (h.set d (.inl (0, n1, .inl (va_cpy f g sp.toNatClampNeg dp.toNatClampNeg len.toNatClampNeg)))) c s
    | some (.inl (1, n0, .inr (.inl f))), some (.inl (1, n1, .inr (.inl g))), true, true, true => if sp < 0 ∨ dp < 0 ∨ len < 0 ∨ ¬ (sp.toNatClampNeg + len.toNatClampNeg ≤ n0 ∧ dp.toNatClampNeg + len.toNatClampNeg ≤ n1) then none else oN n L r (h.set d (.inl (1, n1, .inr (.inl (va_cpy f g sp.toNatClampNeg dp.toNatClampNeg len.toNatClampNeg))))) c s
    | _, _, _, _, _ => none
  | _ => none
section COPY
variable {p : Program} {l : Launch} {e : Env} {R : Room} {s : State} {m : MethodId} {args : Array Value} {below : List Frame} {meth : Method} {c : Code} {H : Heap} {locs : List Loc} {cells slots : Nat} {Q : State → Prop}
theorem mW_copy {G : mG} {α : Type} (mk : α → Value) (pa : (Nat → α) → vp_A → Prop) {cc : ByteArray} {pc ix : Nat} {ls : Array Slot} {rest : List Value} {own : String} {a0 a1 n0 n1 : Nat} {c0 c1 : ClassId} {f g : Nat → α} {ty : FieldType} (hx : p.tables.exec = Jvm.exec) (hb : c.code = cc) (hml : c.maxLocals = ls.size) (hown : s.vm.findClass own = some m.cls) (hlink : (Cond.methodLink own ix arraycopyName).before args s = true) (hnat : (Cond.native arraycopyName).before args s = true) (hstat : (Cond.static arraycopyName).before args s = true) (hini : (Cond.initialized "java/lang/System").before args s = true)
    (hc0 : H[a0]? = some (arrV c0 n0 (fun j => mk (f j)))) (hc1 : H[a1]? = some (arrV c1 n1 (fun j => mk (g j)))) (ht0 : ArrOfT s c0 ty) (ht1 : ArrOfT s c1 ty) (hprim : refKind ty = false) (hfits : ∀ x, fits ty (mk x) = true) (hnr : ∀ x, (match mk x with | .ref _ => False | _ => True))
    {sp dp n : Int32} (h1 : ¬ sp < 0) (h2 : ¬ dp < 0) (h3 : ¬ n < 0) (h4 : sp.toNatClampNeg + n.toNatClampNeg ≤ n0) (h5 : dp.toNatClampNeg + n.toNatClampNeg ≤ n1)
    (hframes : 1 ≤ R.frames) (hlocals : (rest.map fun v => v.category).sum + (nativeFrameWords "java/lang/System" "arraycopy" 5 + 11) ≤ R.locals) (hdg : decode cc pc = .ok (.invokestatic ix, 3))
    (kk : ∀ (H1 : Heap) (L1 : List Loc), H1[a1]? = some (arrV c1 n1 (fun j => mk (va_cpy f g sp.toNatClampNeg dp.toNatClampNeg n.toNatClampNeg j))) → H1.size = H.size → (∀ z : Nat, z ≠ a1 → H1[z]? = H[z]?) → (∀ q ∈ L1, q.base = a1) → W p l e R s m args below meth c H1 (locs ++ L1) cells slots Q (F0 m (pc + 3) ls rest)) : W p l e R s m args below meth c H locs cells slots Q (F0 m pc ls (.int n :: .int dp :: .ref a1 :: .int sp :: .ref a0 :: rest)) := by
  have nn : ∀ z : Int32, ¬ z < 0 → z.toInt = (z.toNatClampNeg : Int) := by
    intro z hz
    have hz0 : (0 : Int) ≤ z.toInt := by
      have := Int32.not_lt.mp hz
      simpa using Int32.le_iff_toInt_le.mp this
    show z.toInt = ((z.toInt.toNat : Nat) : Int)
    omega
  intro T hT X
  obtain ⟨-, k0, hk0, cm0, hkk0⟩ := ht0 n0 (fun j => mk (f j))
  obtain ⟨-, k1, hk1, cm1, hkk1⟩ := ht1 n1 (fun j => mk (g j))
  obtain ⟨vm', X', step⟩ := X.arraycopy hx hown hlink hnat hstat hini (src := a0) (dst := a1) (cs := arrV c0 n0 (fun j => mk (f j))) (cd := arrV c1 n1 (fun j => mk (g j))) (srcPos := sp) (destPos := dp) (n := n) (by rw [hT]; exact hc0) (by rw [hT]; exact hc1)
    (fun _ h => by cases h) (fun _ h => by cases h) (fun h => by cases h) (fun h => by cases h) hk0 hk1 hkk0 hkk1 (by simp [hprim]) h1 h2 h3
    (by rw [nn sp h1, nn n h3, arrV_size]; omega)
    (by rw [nn dp h2, nn n h3, arrV_size]; omega)
    (fun vm₁ _ i hi => by
      have e : (arrV c0 n0 (fun j => mk (f j))).slots.getD (sp.toNatClampNeg + i) .null = mk (f (sp.toNatClampNeg + i)) := by
        rw [Array.getD_eq_getD_getElem?, arrV_read _ _ (by omega)]
        rfl
      refine ⟨?_, ?_⟩
      · rw [e]
        exact hfits _
      · rw [e]
        have := hnr (f (sp.toNatClampNeg + i))
        revert this
        cases mk (f (sp.toNatClampNeg + i)) <;> intro h <;> first | trivial | exact h.elim)
    (g := F0 m pc ls (.int n :: .int dp :: .ref a1 :: .int sp :: .ref a0 :: rest)) rfl (by rw [hml]) (rest := rest) rfl (by rw [hb]; exact hdg) hframes (by show 2 * 0 + _ + _ ≤ _; omega)
  have e1 : copied (arrV c0 n0 (fun j => mk (f j))) (arrV c1 n1 (fun j => mk (g j))) sp dp n = arrV c1 n1 (fun j => mk (va_cpy f g sp.toNatClampNeg dp.toNatClampNeg n.toNatClampNeg j)) := va_copied mk c0 c1 f g h4
  rw [e1] at X' step
  have hl : a1 < H.size := (Array.getElem?_eq_some_iff.mp hc1).1
  have hheap : ((T.setVm vm').setCell a1 (arrV c1 n1 (fun j => mk (va_cpy f g sp.toNatClampNeg dp.toNatClampNeg n.toNatClampNeg j)))).heap = H.setIfInBounds a1 (arrV c1 n1 (fun j => mk (va_cpy f g sp.toNatClampNeg dp.toNatClampNeg n.toNatClampNeg j))) := by rw [← hT]; rfl
  have oq : ∀ q : Nat, q ≠ a1 → (H.setIfInBounds a1 (arrV c1 n1 (fun j => mk (va_cpy f g sp.toNatClampNeg dp.toNatClampNeg n.toNatClampNeg j))))[q]? = H[q]? := fun q hq => by simp [Array.getElem?_setIfInBounds, Ne.symm hq]
  obtain ⟨t, y1, y2⟩ := kk _ _ (show (H.setIfInBounds a1 _)[a1]? = some _ by simp [Array.getElem?_setIfInBounds, hl]) (by simp) oq (fun q hq => by
      obtain ⟨z, -, hz⟩ := List.mem_map.mp hq
      rw [← hz]) _ hheap X'
  exact ⟨t, step t y1, y2⟩
end COPY
theorem mLocs2 {G : mG} {locs L1 : List Loc} {a : Nat} (h5 : 5 ≤ a) (hl : ∀ q ∈ locs, mBase G ≤ q.base) (h : ∀ q ∈ L1, q.base = mAd G a) : ∀ q ∈ locs ++ L1, mBase G ≤ q.base := by
  intro z hz
  rcases List.mem_append.mp hz with y | y
  · exact hl z y
  · rw [h z y]
    exact mBase_ad h5
theorem mCat (G : mG) (r : List Value) : ((r.map (mTr G)).map fun v => v.category).sum = (r.map fun v => v.category).sum := by
  rw [List.map_map]
  congr 1
  exact List.map_congr_left fun v _ => mTr_cat G v
theorem snd_copy {j pc n ix lo : Nat} (hw1 : Cond.methodLink (mNm j).cls ix arraycopyName ∈ mWt) (hw2 : Cond.native arraycopyName ∈ mWt) (hw3 : Cond.static arraycopyName ∈ mWt) (hw4 : Cond.initialized "java/lang/System" ∈ mWt) (hfr : 1 ≤ (mRm j).frames) (hlo : (mRm j).locals = lo) (hd : decode (mBc j) pc = .ok (.invokestatic ix, 3)) (hn : n = pc + 3) : mSnd j pc (a_copy n lo) := by
  subst hn; subst hlo
  intro G l p e s m args below meth c X L st h cc ss
  have hK := X.2.2.2.2.2.2.2.2
  unfold a_copy
  split
  · next len dp d sp a r =>
    split
    · next n0 f n1 g e1 e2 e3 e4 e5 =>
      split
      · trivial
      · next hin =>
        intro Q kk ls H locs hL hz hR hl
        have ha : 5 ≤ a := Nat.le_of_ble_eq_true e3
        have hd5 : 5 ≤ d := Nat.le_of_ble_eq_true e4
        have hb := Nat.le_of_ble_eq_true e5
        have h1 : H[mAd G a]? = some (vp_cell (G.2.1 0) (n0, .inl f)) := hR.2.2.2.2 a _ ha e1
        have h2 : H[mAd G d]? = some (vp_cell (G.2.1 0) (n1, .inl g)) := hR.2.2.2.2 d _ hd5 e2
        have g1 : ¬ sp < 0 := fun z => hin (Or.inl z)
        have g2 : ¬ dp < 0 := fun z => hin (Or.inr (Or.inl z))
        have g3 : ¬ len < 0 := fun z => hin (Or.inr (Or.inr (Or.inl z)))
        have g4 : sp.toNatClampNeg + len.toNatClampNeg ≤ n0 ∧ dp.toNatClampNeg + len.toNatClampNeg ≤ n1 := Classical.byContradiction fun z => hin (Or.inr (Or.inr (Or.inr z)))
        exact mW_copy (G := G) (fun z => .int z) (fun _ _ => True) X.1 X.2.1 (by rw [X.2.2.1, hz]) X.2.2.2.1 (X.2.2.2.2.1 _ hw1) (X.2.2.2.2.1 _ hw2) (X.2.2.2.2.1 _ hw3) (X.2.2.2.2.1 _ hw4) h1 h2 (mRep.ty hK (t := 0) (by decide)).1 (mRep.ty hK (t := 0) (by decide)).1 rfl (fun _ => rfl) (fun _ => trivial) g1 g2 g3 g4.1 g4.2 hfr (by rw [mCat]; exact hb) hd
          (fun H1 L1 y1 y2 y3 y4 => kk ls H1 _ hL hz (hR.set hd5 (fun _ => y1) y2 y3) (mLocs2 hd5 hl y4))
    · next n0 f n1 g e1 e2 e3 e4 e5 =>
      split
      · trivial
      · next hin =>
        intro Q kk ls H locs hL hz hR hl
        have ha : 5 ≤ a := Nat.le_of_ble_eq_true e3
        have hd5 : 5 ≤ d := Nat.le_of_ble_eq_true e4
        have hb := Nat.le_of_ble_eq_true e5
        have h1 : H[mAd G a]? = some (vp_cell (G.2.1 1) (n0, .inr (.inl f))) := hR.2.2.2.2 a _ ha e1
        have h2 : H[mAd G d]? = some (vp_cell (G.2.1 1) (n1, .inr (.inl g))) := hR.2.2.2.2 d _ hd5 e2
        have g1 : ¬ sp < 0 := fun z => hin (Or.inl z)
        have g2 : ¬ dp < 0 := fun z => hin (Or.inr (Or.inl z))
        have g3 : ¬ len < 0 := fun z => hin (Or.inr (Or.inr (Or.inl z)))
        have g4 : sp.toNatClampNeg + len.toNatClampNeg ≤ n0 ∧ dp.toNatClampNeg + len.toNatClampNeg ≤ n1 := Classical.byContradiction fun z => hin (Or.inr (Or.inr (Or.inr z)))
        exact mW_copy (G := G) (fun z => .long z) (fun _ _ => True) X.1 X.2.1 (by rw [X.2.2.1, hz]) X.2.2.2.1 (X.2.2.2.2.1 _ hw1) (X.2.2.2.2.1 _ hw2) (X.2.2.2.2.1 _ hw3) (X.2.2.2.2.1 _ hw4) h1 h2 (mRep.ty hK (t := 1) (by decide)).1 (mRep.ty hK (t := 1) (by decide)).1 rfl (fun _ => rfl) (fun _ => trivial) g1 g2 g3 g4.1 g4.2 hfr (by rw [mCat]; exact hb) hd
          (fun H1 L1 y1 y2 y3 y4 => kk ls H1 _ hL hz (hR.set hd5 (fun _ => y1) y2 y3) (mLocs2 hd5 hl y4))
    · trivial
  · trivial
