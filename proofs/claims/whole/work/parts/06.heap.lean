/-! ===== instructions that read and write cells ===== -/
theorem mInAll : ∀ (ci : Nat) (q : vw_C), vwCl[ci]? = some q → ∀ w ∈ u_ws q.1 q.2.1 q.2.2, w ∈ mWt := by
  intro ci q h
  match ci, h with
  | 0, h => cases h; exact mIn0
  | 1, h => cases h; exact mIn1
  | 2, h => cases h; exact mIn2
  | 3, h => cases h; exact mIn3
  | 4, h => cases h; exact mIn4
  | 5, h => cases h; exact mIn5
  | 6, h => cases h; exact mIn6
  | 7, h => cases h; exact mIn7
  | 8, h => cases h; exact mIn8
  | 9, h => cases h; exact mIn9
  | 10, h => cases h; exact mIn10
  | k + 11, h => simp [vwCl] at h
def mTyF : Nat → Nat → FieldType
  | 0 => tyX0
  | 1 => tyX1
  | 2 => tyX2
  | 3 => tyX3
  | 4 => tyX4
  | 5 => tyX5
  | 6 => tyX6
  | 7 => tyX7
  | 8 => tyX8
  | 9 => tyX9
  | _ => tyX10
theorem mTyAll : ∀ (ci : Nat) (q : vw_C), vwCl[ci]? = some q → (∀ k, k < q.2.2 → parseFieldDescriptor (q.2.1 k).2.2.1 = some (mTyF ci k)) ∧ (∀ a, a < q.2.2 → ∀ b, b < q.2.2 → a ≠ b → (q.2.1 a).2.1 ≠ (q.2.1 b).2.1) := by
  intro ci q h
  match ci, h with
  | 0, h => cases h; exact ⟨tyX0_ok, nmX0⟩
  | 1, h => cases h; exact ⟨tyX1_ok, nmX1⟩
  | 2, h => cases h; exact ⟨tyX2_ok, nmX2⟩
  | 3, h => cases h; exact ⟨tyX3_ok, nmX3⟩
  | 4, h => cases h; exact ⟨tyX4_ok, nmX4⟩
  | 5, h => cases h; exact ⟨tyX5_ok, nmX5⟩
  | 6, h => cases h; exact ⟨tyX6_ok, nmX6⟩
  | 7, h => cases h; exact ⟨tyX7_ok, nmX7⟩
  | 8, h => cases h; exact ⟨tyX8_ok, nmX8⟩
  | 9, h => cases h; exact ⟨tyX9_ok, nmX9⟩
  | 10, h => cases h; exact ⟨tyX10_ok, nmX10⟩
  | k + 11, h => simp [vwCl] at h
section REP
variable {G : mG} {s : State} {h : mH} {H H1 : Heap}
theorem mRep.obj (hK : mKF G s) (hR : mRep G h H) {a ci : Nat} {fs : List Value} (he : h[a]? = some (.inr (ci, fs))) : 5 ≤ a ∧ va_at G.1 vwCl (mAd G a, .inr (ci, fs.map (mTr G))) H := by
  by_cases ha : a < 5
  · obtain ⟨-, e, g1, g2⟩ := hK.2.2.1 a ha
    have := hR.2.2.1 a ha
    rw [he, g1] at this
    cases this
    exact g2.elim
  · exact ⟨by omega, hR.2.2.2.2 a _ (by omega) he⟩
theorem mAd_ge {a : Nat} (ha : 5 ≤ a) : mAd G a = mBase G + (a - 5) := by
  unfold mAd
  rw [if_neg (by omega)]
theorem mAd_lt {a : Nat} (ha : a < 5) : mAd G a = G.2.2.1 a := by
  unfold mAd
  rw [if_pos ha]
theorem mRep.set (hR : mRep G h H) {a : Nat} (ha : 5 ≤ a) {e : mE} (h1 : a < h.length → va_at G.1 vwCl (mAd G a, mTc G e) H1) (hz : H1.size = H.size) (ho : ∀ q : Nat, q ≠ mAd G a → H1[q]? = H[q]?) : mRep G (h.set a e) H1 := by
  obtain ⟨r1, r2, r3, r4, r5⟩ := hR
  refine ⟨fun q hq => ?_, by rw [hz, List.length_set]; exact r2, fun k hk => ?_, by rw [List.length_set]; exact r4, fun k e2 hk hke => ?_⟩
  · rw [ho q (by rw [mAd_ge ha]; omega)]; exact r1 q hq
  · rw [List.getElem?_set_ne (by omega)]; exact r3 k hk
  · by_cases hak : a = k
    · subst hak
      rw [List.getElem?_set_self'] at hke
      have hl : a < h.length := by
        rcases Nat.lt_or_ge a h.length with q | q
        · exact q
        · rw [List.getElem?_eq_none q] at hke; cases hke
      rw [List.getElem?_eq_getElem hl] at hke
      simp at hke
      rw [← hke]
      exact h1 hl
    · rw [List.getElem?_set_ne hak] at hke
      exact (r5 k e2 hk hke).kept (ho _ (by rw [mAd_ge ha, mAd_ge hk]; omega))
theorem mRep.at_new (hR : mRep G h H) : H.size = mAd G h.length := by
  obtain ⟨r1, r2, r3, r4, r5⟩ := hR
  rw [mAd_ge r4]
  omega
theorem mRep.push (hR : mRep G h H) {e : mE} (h1 : va_at G.1 vwCl (H.size, mTc G e) H1) (hz : H1.size = H.size + 1) (ho : ∀ q : Nat, q < H.size → H1[q]? = H[q]?) : mRep G (h ++ [e]) H1 := by
  have hn := hR.at_new
  obtain ⟨r1, r2, r3, r4, r5⟩ := hR
  refine ⟨fun q hq => ?_, by rw [hz, List.length_append]; simp; omega, fun k hk => ?_, by rw [List.length_append]; omega, fun k e2 hk hke => ?_⟩
  · rw [ho q (by omega)]; exact r1 q hq
  · rw [List.getElem?_append_left (by omega)]; exact r3 k hk
  · by_cases hl : k < h.length
    · rw [List.getElem?_append_left hl] at hke
      have := r5 k e2 hk hke
      exact this.kept (ho _ (by rw [mAd_ge hk]; omega))
    · rw [List.getElem?_append_right (by omega)] at hke
      have hz : k - h.length < 1 := (List.getElem?_eq_some_iff.mp hke).1
      have hkl : k = h.length := by omega
      subst hkl
      simp at hke
      subst hke
      rw [← hn]
      exact h1
theorem mRep.ty (hK : mKF G s) {t : Nat} (ht : t < 4) : ArrOfT s (G.2.1 t) (mTy t) ∧ va_RA s (G.2.1 t) (mTy t) := by
  have := hK.1.2 t (G.2.1 t, mTy t) (by match t, ht with
    | 0, _ => rfl
    | 1, _ => rfl
    | 2, _ => rfl
    | 3, _ => rfl)
  exact this
/-- any row, old or new, as it is read -/
theorem mRep.arr (hK : mKF G s) (hR : mRep G h H) {a t : Nat} {x : vp_A} (ht : t < 4) (he : h[a]? = some (.inl (t, x))) : mArr s (mTy t) (mAd G a) x.1 (fun i => mTr G (mVal x i)) H := by
  by_cases ha : a < 5
  · obtain ⟨g0, e, g1, g2⟩ := hK.2.2.1 a ha
    have := hR.2.2.1 a ha
    rw [he, g1] at this
    cases this
    obtain ⟨-, ⟨cell, c1, c2, c3, c4, c5⟩, c6⟩ := g2
    rw [mAd_lt ha]
    refine ⟨cell, by rw [hR.1 _ g0]; exact c1, c2, c3, c4, fun i hi => ?_⟩
    rw [c5 i hi]
    obtain ⟨n, f | f | f | f | f⟩ := x
    · rfl
    · rfl
    · rfl
    · rfl
    · exact absurd rfl (c6 f)
  · have h1 : H[mAd G a]? = some (vp_cell (G.2.1 t) (mTA G x)) := hR.2.2.2.2 a _ (by omega) he
    have h2 := (mRep.ty hK ht).1
    obtain ⟨n, f | f | f | f | f⟩ := x
    · exact ⟨_, h1, h2 n (fun i => .int (f i)), (fun q => by cases q), ⟨Nat.le_of_eq (arrV_size _ _ _).symm, congrArg Nat.toInt32 (arrV_size _ _ _)⟩, fun i hi => arrV_read _ _ hi⟩
    · exact ⟨_, h1, h2 n (fun i => .long (f i)), (fun q => by cases q), ⟨Nat.le_of_eq (arrV_size _ _ _).symm, congrArg Nat.toInt32 (arrV_size _ _ _)⟩, fun i hi => arrV_read _ _ hi⟩
    · exact ⟨_, h1, h2 n (fun i => .float (f i)), (fun q => by cases q), ⟨Nat.le_of_eq (arrV_size _ _ _).symm, congrArg Nat.toInt32 (arrV_size _ _ _)⟩, fun i hi => arrV_read _ _ hi⟩
    · exact ⟨_, h1, h2 n (fun i => .double (f i)), (fun q => by cases q), ⟨Nat.le_of_eq (arrV_size _ _ _).symm, congrArg Nat.toInt32 (arrV_size _ _ _)⟩, fun i hi => arrV_read _ _ hi⟩
    · refine ⟨_, h1, h2 n (fun i => va_rf ((f i).map (mAd G))), (fun q => by cases q), ⟨Nat.le_of_eq (arrV_size _ _ _).symm, congrArg Nat.toInt32 (arrV_size _ _ _)⟩, fun i hi => ?_⟩
      refine (arrV_read _ _ hi).trans ?_
      show some (va_rf ((f i).map (mAd G))) = some (mTr G (va_rf (f i)))
      cases f i <;> rfl
end REP
/-- a field by its place in the table, for the classes of a list -/
def mFok (k : Nat) (d : String × String × String × Bool) (cs : List Nat) : Bool := cs.all fun ci => match vwCl[ci]? with
  | some q => decide (k < q.2.2) && decide (q.2.1 k = d)
  | none => false
theorem mFok_spec {k : Nat} {d : String × String × String × Bool} {cs : List Nat} (h : mFok k d cs = true) {ci : Nat} (hc : cs.contains ci = true) : ∃ q : vw_C, vwCl[ci]? = some q ∧ k < q.2.2 ∧ q.2.1 k = d := by
  have h1 := List.all_eq_true.mp h ci (List.contains_iff_mem.mp hc)
  cases hq : vwCl[ci]? with
  | none => rw [hq] at h1; cases h1
  | some q =>
    rw [hq] at h1
    simp only [Bool.and_eq_true, decide_eq_true_eq] at h1
    exact ⟨q, rfl, h1.1, h1.2⟩
def a_getf (n k : Nat) (cs : List Nat) : mA := fun L st h c s => match st with
  | .ref a :: r => match h[a]? with
    | some (.inr (ci, fs)) => match cs.contains ci, fs[k]? with
      | true, some v => oN n L (v :: r) h c s
      | _, _ => none
    | _ => none
  | _ => none
theorem snd_getf {j pc n k : Nat} {cs : List Nat} {ix : Nat} {ref : String} {d : String × String × String × Bool} (hf : mFok k d cs = true) (hw : Cond.fieldLink (mNm j).cls ix ref d.2.1 d.2.2.1 ∈ mWt) (hs : d.1 = ref ∨ Cond.sameField ref d.1 d.2.1 d.2.2.1 ∈ mWt) (hd : decode (mBc j) pc = .ok (.getfield ix, 3)) (hn : n = pc + 3) : mSnd j pc (a_getf n k cs) := by
  subst hn
  intro G l p e s m args below meth c X L st h cc ss
  unfold a_getf
  split
  · next a r =>
    split
    · next ci fs e1 =>
      split
      · next v e2 e3 =>
        intro Q kk ls H locs hL hz hR hl
        obtain ⟨q, q1, q2, rfl⟩ := mFok_spec hf e2
        obtain ⟨-, hat⟩ := mRep.obj X.2.2.2.2.2.2.2.2 hR e1
        refine va_get (ws := [(mAd G a, .inr (ci, fs.map (mTr G)))]) X.1 X.2.1 X.2.2.2.2.1 (mInAll ci q q1) X.2.2.2.1 X.2.2.2.2.2.2.2.2.1 (fun i x hx => ?_) 0 rfl q1 k q2 (X.2.2.2.2.1 _ hw) (fun x hx => ?_) (v := mTr G v) (by rw [List.getElem?_map, e3]; rfl) hd (kk ls H locs hL hz hR hl)
        · match i, hx with
          | 0, hx => cases hx; exact hat
        · rcases hs with hs | hs
          · rw [← hs]; exact hx
          · exact u_same (X.2.2.2.2.1 _ hs) x hx
      · trivial
    · trivial
  · trivial
section PUT
variable {p : Program} {l : Launch} {e : Env} {R : Room} {s : State} {m : MethodId} {args : Array Value} {below : List Frame} {meth : Method} {c : Code} {H : Heap} {locs : List Loc} {cells slots : Nat} {Q : State → Prop}
theorem mW_put {G : mG} {cc : ByteArray} {pc a k ci ix : Nat} {ls : Array Slot} {rest fs : List Value} {own ref : String} {q : vw_C} {ty : FieldType} {v : Value} (hx : p.tables.exec = Jvm.exec) (hb : c.code = cc) (hts : ∀ w ∈ mWt, w.before args s = true) (hown : s.vm.findClass own = some m.cls) (hK : mKF G s) (q1 : vwCl[ci]? = some q) (q2 : k < q.2.2) (hw : (Cond.fieldLink own ix ref (q.2.1 k).2.1 (q.2.1 k).2.2.1).before args s = true) (hsame : ∀ x, s.fieldFound? (q.2.1 k).1 (q.2.1 k).2.1 (q.2.1 k).2.2.1 = some x → s.fieldFound? ref (q.2.1 k).2.1 (q.2.1 k).2.2.1 = some x) (hfin : (q.2.1 k).2.2.2 = false ∨ (meth.name = "<init>" ∧ (q.2.1 k).1 = own)) (hd : mTyF ci k = ty) (hn : narrow ty v = v) (hfit : fits ty v = true) (hl : k < fs.length) (hat : va_at G.1 vwCl (a, .inr (ci, fs)) H)
    (hdg : decode cc pc = .ok (.putfield ix, 3)) (kk : ∀ (H1 : Heap) (i : Nat), va_at G.1 vwCl (a, .inr (ci, fs.set k v)) H1 → H1.size = H.size → (∀ z : Nat, z ≠ a → H1[z]? = H[z]?) → W p l e R s m args below meth c H1 (locs ++ [⟨a, i⟩]) cells slots Q (F0 m (pc + 3) ls rest)) : W p l e R s m args below meth c H locs cells slots Q (F0 m pc ls (v :: .ref a :: rest)) := by
  have hin := mInAll ci q q1
  obtain ⟨hty, hnm⟩ := mTyAll ci q q1
  have hd := (hty k q2).trans (by rw [hd])
  obtain ⟨r, h1, cell, p1, p2, p3, p4⟩ := hat
  have hr : r = q := Option.some.inj (h1.symm.trans q1)
  subst hr
  obtain ⟨hS, hfc, kC, hkC, hkind⟩ := hK.1.1 ci _ q1
  have hap := va_apart (own := own) hts hin (mTyF ci) hty hnm hK.1 q1
  obtain ⟨cf, kf, fi, f, hi, hsl⟩ := hS k q2
  have hst := (u_facts hfc hkC (u_lays hts hin q2) hi).1
  have hlay := hts _ (hin _ (u_in_lay q2))
  unfold u_lay at hlay
  have fin : ∀ (H' : Heap), H'[a]? = some (cell.setSlot f.slot v) → H'.size = H.size → (∀ z, z ≠ a → H'[z]? = H[z]?) → W p l e R s m args below meth c H' (locs ++ [⟨a, f.slot⟩]) cells slots Q (F0 m (pc + 3) ls rest) := by
    intro H' e1 e2 e3
    rw [hsl] at e1 ⊢
    exact kk H' _ ⟨_, q1, t_OB.to (V := updV (vp_V fs) k v) ⟨_, e1, p2, p3, t_set p4 hap q2 v⟩ (fun j _ => vp_updV_set hl v j)⟩ e2 e3
  by_cases hff : (r.2.1 k).2.2.2 = true
  · rw [if_pos hff] at hlay
    obtain ⟨hin2, hdecl⟩ : meth.name = "<init>" ∧ (r.2.1 k).1 = own := by
      rcases hfin with z | z
      · rw [z] at hff; cases hff
      · exact z
    have hcf : m.cls = cf := by
      obtain ⟨_, _, c', _, _, _, -, -, hf', -, -, -, hown2, -⟩ := Cond.laysFinal_spec hlay
      have e1 : c' = cf := by have := hi.symm.trans hf'; simp at this; exact this.1.symm
      rw [hdecl] at hown2
      rw [← e1]; exact Option.some.inj (hown.symm.trans hown2)
    have h6 := u_fits hfc hkC hkind (Or.inr hlay) hi hd hn hfit
    exact W.putFinK hx hb hown hw (hsame _ hi) hst hcf hin2 (by rw [p2]; exact h6) p1 p3 (by rw [hsl]; exact k2_hasslot (p4 k q2)) rfl rfl hdg fin
  · rw [if_neg hff] at hlay
    have h6 := u_store hfc hkC hkind hlay hi hd hn hfit
    exact W.putK hx hb (f := f) ⟨hown, hw, ⟨_, _, _, hsame _ hi⟩, hst⟩ (by rw [p2]; exact h6) p1 p3 (by rw [hsl]; exact k2_hasslot (p4 k q2)) rfl rfl hdg fin
end PUT
/-- the values that a field of a kind takes: 0 an int, 1 a long, 2 a reference, 3 a truth value -/
def mPok (kd : Nat) (v : Value) : Bool := match kd, v with
  | 0, .int _ => true
  | 1, .long _ => true
  | 2, .ref _ => true
  | 2, .null => true
  | 3, .int x => decide (x = 0) || decide (x = 1)
  | _, _ => false
def mTk : FieldType → Nat
  | .int => 0
  | .long => 1
  | .object _ => 2
  | .array _ => 2
  | .boolean => 3
  | _ => 9
theorem mPok_spec {kd : Nat} {v : Value} {ty : FieldType} (G : mG) (h : mPok kd v = true) (ht : mTk ty = kd) : narrow ty (mTr G v) = mTr G v ∧ fits ty (mTr G v) = true := by
  subst ht
  cases ty <;> cases v <;> first | exact ⟨rfl, rfl⟩ | (simp [mPok, mTk] at h; done) | skip
  all_goals
    simp [mPok, mTk] at h
    rcases h with rfl | rfl
    · exact ⟨(by decide : narrow .boolean (.int 0) = .int 0), (by decide : fits .boolean (.int 0) = true)⟩
    · exact ⟨(by decide : narrow .boolean (.int 1) = .int 1), (by decide : fits .boolean (.int 1) = true)⟩
def a_putf (n k kd : Nat) (cs : List Nat) : mA := fun L st h c s => match st with
  | v :: .ref a :: r => match h[a]? with
    | some (.inr (ci, fs)) => match cs.contains ci, mPok kd v, Nat.blt k fs.length with
      | true, true, true => oN n L r (h.set a (.inr (ci, fs.set k v))) c s
      | _, _, _ => none
    | _ => none
  | _ => none
def mPkd (k kd : Nat) (cs : List Nat) : Bool := cs.all fun ci => decide (mTk (mTyF ci k) = kd)
theorem snd_putf {j pc n k kd : Nat} {cs : List Nat} {ix : Nat} {ref : String} {d : String × String × String × Bool} (hf : mFok k d cs = true) (hkd : mPkd k kd cs = true) (hw : Cond.fieldLink (mNm j).cls ix ref d.2.1 d.2.2.1 ∈ mWt) (hs : d.1 = ref ∨ Cond.sameField ref d.1 d.2.1 d.2.2.1 ∈ mWt) (hfin : d.2.2.2 = false ∨ ((mNm j).name = "<init>" ∧ d.1 = (mNm j).cls)) (hd : decode (mBc j) pc = .ok (.putfield ix, 3)) (hn : n = pc + 3) : mSnd j pc (a_putf n k kd cs) := by
  subst hn
  intro G l p e s m args below meth c X L st h cc ss
  unfold a_putf
  split
  · next v a r =>
    split
    · next ci fs e1 =>
      split
      · next e2 e3 e4 =>
        intro Q kk ls H locs hL hz hR hl
        obtain ⟨q, q1, q2, rfl⟩ := mFok_spec hf e2
        obtain ⟨h5, hat⟩ := mRep.obj X.2.2.2.2.2.2.2.2 hR e1
        have hk1 := List.all_eq_true.mp hkd ci (List.contains_iff_mem.mp e2)
        obtain ⟨n1, n2⟩ := mPok_spec G e3 (of_decide_eq_true hk1)
        refine mW_put X.1 X.2.1 X.2.2.2.2.1 X.2.2.2.1 X.2.2.2.2.2.2.2.2 q1 q2 (X.2.2.2.2.1 _ hw) (fun x hx => ?_) ?_ rfl n1 n2 (by rw [List.length_map]; exact Nat.lt_of_lt_of_le (Nat.lt_of_succ_le (Nat.le_of_ble_eq_true e4)) (Nat.le_refl _)) hat hd (fun H1 i g1 g2 g3 => ?_)
        · rcases hs with hs | hs
          · rw [← hs]; exact hx
          · exact u_same (X.2.2.2.2.1 _ hs) x hx
        · rcases hfin with z | z
          · exact Or.inl z
          · exact Or.inr ⟨by rw [X.2.2.2.2.2.2.2.1]; exact z.1, z.2⟩
        · refine kk ls H1 _ hL hz (hR.set h5 (fun _ => ?_) g2 g3) (fun z hz => ?_)
          · show va_at G.1 vwCl (mAd G a, .inr (ci, (fs.set k v).map (mTr G))) H1
            rw [List.map_set]
            exact g1
          · rcases List.mem_append.mp hz with y | y
            · exact hl z y
            · rw [List.mem_singleton.mp y]
              show mBase G ≤ mAd G a
              rw [mAd_ge h5]
              omega
      · trivial
    · trivial
  · trivial
