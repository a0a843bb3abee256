def a_push (n : Nat) (v : Value) : mA := fun L st h c s => oN n L (v :: st) h c s
theorem snd_iconst {j pc n : Nat} {x : Int} {v : Int32} (hd : decode (mBc j) pc = .ok (.iconst x, 1)) (hv : Int32.ofInt x = v) (hn : n = pc + 1) : mSnd j pc (a_push n (.int v)) := by
  subst hn
  intro G l p e s m args below meth c X L st h cc ss
  exact fun Q k ls H locs hL hz hR hl => lv_iconst X.1 X.2.1 hd hv (k ls H locs hL hz hR hl)
theorem snd_bipush {j pc n : Nat} {x : Int} {v : Int32} (hd : decode (mBc j) pc = .ok (.bipush x, 2)) (hv : (Int8.ofInt x).toInt32 = v) (hn : n = pc + 2) : mSnd j pc (a_push n (.int v)) := by
  subst hn
  intro G l p e s m args below meth c X L st h cc ss
  exact fun Q k ls H locs hL hz hR hl => lv_bipush X.1 X.2.1 hd hv (k ls H locs hL hz hR hl)
theorem snd_sipush {j pc n : Nat} {x : Int} {v : Int32} (hd : decode (mBc j) pc = .ok (.sipush x, 3)) (hv : (Int16.ofInt x).toInt32 = v) (hn : n = pc + 3) : mSnd j pc (a_push n (.int v)) := by
  subst hn
  intro G l p e s m args below meth c X L st h cc ss
  exact fun Q k ls H locs hL hz hR hl => lv_sipush X.1 X.2.1 hd hv (k ls H locs hL hz hR hl)
theorem snd_lconst {j pc n : Nat} {x : Fin 2} {v : Int64} (hd : decode (mBc j) pc = .ok (.lconst x, 1)) (hv : Int64.ofNat (x : Nat) = v) (hn : n = pc + 1) : mSnd j pc (a_push n (.long v)) := by
  subst hn
  intro G l p e s m args below meth c X L st h cc ss
  exact fun Q k ls H locs hL hz hR hl => lv_lconst X.1 X.2.1 hd hv (k ls H locs hL hz hR hl)
theorem snd_null {j pc n : Nat} (hd : decode (mBc j) pc = .ok (.aconst_null, 1)) (hn : n = pc + 1) : mSnd j pc (a_push n .null) := by
  subst hn
  intro G l p e s m args below meth c X L st h cc ss
  exact fun Q k ls H locs hL hz hR hl => lv_null X.1 X.2.1 hd (k ls H locs hL hz hR hl)
theorem snd_ldc2 {j pc n : Nat} {ix : Nat} {v : Int64} (hw : Cond.constantLong (mNm j).cls ix v ∈ mWt) (hd : decode (mBc j) pc = .ok (.ldc2_w ix, 3)) (hn : n = pc + 3) : mSnd j pc (a_push n (.long v)) := by
  subst hn
  intro G l p e s m args below meth c X L st h cc ss
  exact fun Q k ls H locs hL hz hR hl => lv_ldc2 X.1 X.2.1 X.2.2.2.1 (X.2.2.2.2.1 _ hw) hd (k ls H locs hL hz hR hl)
theorem snd_ldcw {j pc n : Nat} {ix : Nat} {v : Int32} (hw : Cond.constant (mNm j).cls ix v ∈ mWt) (hd : decode (mBc j) pc = .ok (.ldc_w ix, 3)) (hn : n = pc + 3) : mSnd j pc (a_push n (.int v)) := by
  subst hn
  intro G l p e s m args below meth c X L st h cc ss
  exact fun Q k ls H locs hL hz hR hl => lv_ldcw X.1 X.2.1 X.2.2.2.1 (X.2.2.2.2.1 _ hw) hd (k ls H locs hL hz hR hl)
def a_iload (n i : Nat) : mA := fun L st h c s => match L[i]? with
  | some (some (.int x)) => oN n L (.int x :: st) h c s
  | _ => none
theorem snd_iload_n {j pc n : Nat} {i : Nat} {f : Fin 4} (hd : decode (mBc j) pc = .ok (.iload_n f, 1)) (hi : (f : Nat) = i) (hn : n = pc + 1) : mSnd j pc (a_iload n i) := by
  subst hn
  intro G l p e s m args below meth c X L st h cc ss
  unfold a_iload
  split
  · next x e1 => exact fun Q k ls H locs hL hz hR hl => lv_iload_n X.1 X.2.1 hd hi (hL.2 _ _ e1) (k ls H locs hL hz hR hl)
  · trivial
theorem snd_iload {j pc n : Nat} {i : Nat} (hd : decode (mBc j) pc = .ok (.iload i, 2)) (hn : n = pc + 2) : mSnd j pc (a_iload n i) := by
  subst hn
  intro G l p e s m args below meth c X L st h cc ss
  unfold a_iload
  split
  · next x e1 => exact fun Q k ls H locs hL hz hR hl => lv_iload X.1 X.2.1 hd (hL.2 _ _ e1) (k ls H locs hL hz hR hl)
  · trivial
def a_lload (n i : Nat) : mA := fun L st h c s => match L[i]? with
  | some (some (.long x)) => oN n L (.long x :: st) h c s
  | _ => none
theorem snd_lload_n {j pc n : Nat} {i : Nat} {f : Fin 4} (hd : decode (mBc j) pc = .ok (.lload_n f, 1)) (hi : (f : Nat) = i) (hn : n = pc + 1) : mSnd j pc (a_lload n i) := by
  subst hn
  intro G l p e s m args below meth c X L st h cc ss
  unfold a_lload
  split
  · next x e1 => exact fun Q k ls H locs hL hz hR hl => lv_lload_n X.1 X.2.1 hd hi (hL.2 _ _ e1) (k ls H locs hL hz hR hl)
  · trivial
theorem snd_lload {j pc n : Nat} {i : Nat} (hd : decode (mBc j) pc = .ok (.lload i, 2)) (hn : n = pc + 2) : mSnd j pc (a_lload n i) := by
  subst hn
  intro G l p e s m args below meth c X L st h cc ss
  unfold a_lload
  split
  · next x e1 => exact fun Q k ls H locs hL hz hR hl => lv_lload X.1 X.2.1 hd (hL.2 _ _ e1) (k ls H locs hL hz hR hl)
  · trivial
def a_aload (n i : Nat) : mA := fun L st h c s => match L[i]? with
  | some (some (.ref x)) => oN n L (.ref x :: st) h c s
  | some (some .null) => oN n L (.null :: st) h c s
  | _ => none
theorem snd_aload_n {j pc n : Nat} {i : Nat} {f : Fin 4} (hd : decode (mBc j) pc = .ok (.aload_n f, 1)) (hi : (f : Nat) = i) (hn : n = pc + 1) : mSnd j pc (a_aload n i) := by
  subst hn
  intro G l p e s m args below meth c X L st h cc ss
  unfold a_aload
  split
  · next x e1 => exact fun Q k ls H locs hL hz hR hl => lv_aload_n X.1 X.2.1 hd hi (hL.2 _ _ e1) (k ls H locs hL hz hR hl)
  · next e1 => exact fun Q k ls H locs hL hz hR hl => lv_aload_nN X.1 X.2.1 hd hi (hL.2 _ _ e1) (k ls H locs hL hz hR hl)
  · trivial
theorem snd_aload {j pc n : Nat} {i : Nat} (hd : decode (mBc j) pc = .ok (.aload i, 2)) (hn : n = pc + 2) : mSnd j pc (a_aload n i) := by
  subst hn
  intro G l p e s m args below meth c X L st h cc ss
  unfold a_aload
  split
  · next x e1 => exact fun Q k ls H locs hL hz hR hl => lv_aload X.1 X.2.1 hd (hL.2 _ _ e1) (k ls H locs hL hz hR hl)
  · next e1 => exact fun Q k ls H locs hL hz hR hl => lv_aloadN X.1 X.2.1 hd (hL.2 _ _ e1) (k ls H locs hL hz hR hl)
  · trivial
def mClr (L : mL) (i : Nat) : mL := match L[i]? with
  | some (some (.long _)) => L.set i none
  | some (some (.double _)) => L.set i none
  | _ => L
def mSet1 (L : mL) (i : Nat) (v : Value) : mL := match i with
  | 0 => L.set 0 (some v)
  | i + 1 => (mClr L i).set (i + 1) (some v)
def mSet2 (L : mL) (i : Nat) (v : Value) : mL := (mSet1 L i v).set (i + 1) none
theorem mClr_at {L : mL} {i q : Nat} {w : Value} (h : (mClr L i)[q]? = some (some w)) : L[q]? = some (some w) ∧ ¬ (q = i ∧ w.category = 2) := by
  unfold mClr at h
  split at h
  · rw [List.getElem?_set] at h
    split at h
    · split at h <;> simp at h
    · next hne => exact ⟨h, fun z => hne z.1.symm⟩
  · rw [List.getElem?_set] at h
    split at h
    · split at h <;> simp at h
    · next hne => exact ⟨h, fun z => hne z.1.symm⟩
  · next n1 n2 =>
    refine ⟨h, fun z => ?_⟩
    obtain ⟨rfl, hc⟩ := z
    cases w with
    | long x => exact n1 x h
    | double x => exact n2 x h
    | _ => simp [Value.category] at hc
theorem mSet1_at {L : mL} {i q : Nat} {v w : Value} (h : (mSet1 L i v)[q]? = some (some w)) : (q = i ∧ w = v) ∨ (q ≠ i ∧ L[q]? = some (some w) ∧ ¬ (q + 1 = i ∧ w.category = 2)) := by
  cases i with
  | zero =>
    simp only [mSet1, List.getElem?_set] at h
    split at h
    · next he =>
      split at h
      · exact Or.inl ⟨he.symm, by simpa using h.symm⟩
      · simp at h
    · next hne => exact Or.inr ⟨fun z => hne z.symm, h, fun z => by omega⟩
  | succ i =>
    simp only [mSet1, List.getElem?_set] at h
    split at h
    · next he =>
      split at h
      · exact Or.inl ⟨he.symm, by simpa using h.symm⟩
      · simp at h
    · next hne =>
      obtain ⟨h1, h2⟩ := mClr_at h
      exact Or.inr ⟨fun z => hne z.symm, h1, fun z => h2 ⟨by omega, z.2⟩⟩
theorem mSet2_at {L : mL} {i q : Nat} {v w : Value} (h : (mSet2 L i v)[q]? = some (some w)) : (q = i ∧ w = v) ∨ (q ≠ i ∧ q ≠ i + 1 ∧ L[q]? = some (some w) ∧ ¬ (q + 1 = i ∧ w.category = 2)) := by
  unfold mSet2 at h
  rw [List.getElem?_set] at h
  split at h
  · split at h <;> simp at h
  · next hne =>
    rcases mSet1_at h with h1 | ⟨h1, h2, h3⟩
    · exact Or.inl h1
    · exact Or.inr ⟨h1, fun z => hne z.symm, h2, h3⟩
def mAsc (G : mG) (L : mL) : List (Nat × Value) := (List.range L.length).filterMap fun i => match L[i]? with
  | some (some v) => some (i, mTr G v)
  | _ => none
theorem mAsc_iff {G : mG} {L : mL} {i : Nat} {w : Value} : (i, w) ∈ mAsc G L ↔ ∃ v, L[i]? = some (some v) ∧ w = mTr G v := by
  unfold mAsc
  rw [List.mem_filterMap]
  constructor
  · rintro ⟨k, -, h⟩
    split at h
    · next v e1 =>
      simp only [Option.some.injEq, Prod.mk.injEq] at h
      obtain ⟨rfl, rfl⟩ := h
      exact ⟨v, e1, rfl⟩
    · cases h
  · rintro ⟨v, h1, rfl⟩
    refine ⟨i, List.mem_range.mpr (List.getElem?_eq_some_iff.mp h1).1, ?_⟩
    rw [h1]
theorem mLR.has {G : mG} {ls : Array Slot} {L : mL} {nL : Nat} (h : mLR G ls L) (hz : ls.size = nL) : lv_has ls nL (mAsc G L) := by
  refine ⟨hz, h.1, fun q hq => ?_⟩
  obtain ⟨i, w⟩ := q
  obtain ⟨v, h1, rfl⟩ := mAsc_iff.mp hq
  exact h.2 i v h1
theorem mLR.set1 {G : mG} {ls : Array Slot} {L : mL} {nL i : Nat} {v : Value} (h : lv_has ls nL ((i, mTr G v) :: (mAsc G L).filter (fun q => !(q.1 == i) && !(q.1 + 1 == i && q.2.category == 2)))) : mLR G ls (mSet1 L i v) := by
  refine ⟨h.2.1, fun q w hq => ?_⟩
  rcases mSet1_at hq with ⟨rfl, rfl⟩ | ⟨h1, h2, h3⟩
  · exact h.2.2 _ List.mem_cons_self
  · refine h.2.2 (q, mTr G w) (List.mem_cons_of_mem _ (List.mem_filter.mpr ⟨mAsc_iff.mpr ⟨w, h2, rfl⟩, ?_⟩))
    simp only [mTr_cat, Bool.and_eq_true, Bool.not_eq_true', beq_eq_false_iff_ne, ne_eq, Bool.and_eq_false_iff]
    refine ⟨h1, ?_⟩
    by_cases hh : q + 1 = i
    · exact Or.inr fun z => h3 ⟨hh, z⟩
    · exact Or.inl hh
theorem mLR.set2 {G : mG} {ls : Array Slot} {L : mL} {nL i : Nat} {v : Value} (h : lv_has ls nL ((i, mTr G v) :: (mAsc G L).filter (fun q => !(q.1 == i) && (!(q.1 == i + 1) && !(q.1 + 1 == i && q.2.category == 2))))) : mLR G ls (mSet2 L i v) := by
  refine ⟨h.2.1, fun q w hq => ?_⟩
  rcases mSet2_at hq with ⟨rfl, rfl⟩ | ⟨h1, h0, h2, h3⟩
  · exact h.2.2 _ List.mem_cons_self
  · refine h.2.2 (q, mTr G w) (List.mem_cons_of_mem _ (List.mem_filter.mpr ⟨mAsc_iff.mpr ⟨w, h2, rfl⟩, ?_⟩))
    simp only [mTr_cat, Bool.and_eq_true, Bool.not_eq_true', beq_eq_false_iff_ne, ne_eq, Bool.and_eq_false_iff]
    refine ⟨h1, h0, ?_⟩
    by_cases hh : q + 1 = i
    · exact Or.inr fun z => h3 ⟨hh, z⟩
    · exact Or.inl hh
def a_istore (n i : Nat) : mA := fun L st h c s => match st with
  | .int x :: r => oN n (mSet1 L i (.int x)) r h c s
  | _ => none
theorem snd_istore_n {j pc n : Nat} {i : Nat} {f : Fin 4} (hd : decode (mBc j) pc = .ok (.istore_n f, 1)) (hi : (f : Nat) = i) (hm : i < mMx j) (hn : n = pc + 1) : mSnd j pc (a_istore n i) := by
  subst hn
  intro G l p e s m args below meth c X L st h cc ss
  unfold a_istore
  split
  · next x r => exact fun Q k ls H locs hL hz hR hl => lv_istore_n X.1 X.2.1 hd hi (hL.has hz) hm rfl (fun ls2 hl2 => k ls2 H locs (mLR.set1 hl2) hl2.1 hR hl)
  · trivial
theorem snd_istore {j pc n : Nat} {i : Nat} (hd : decode (mBc j) pc = .ok (.istore i, 2)) (hm : i < mMx j) (hn : n = pc + 2) : mSnd j pc (a_istore n i) := by
  subst hn
  intro G l p e s m args below meth c X L st h cc ss
  unfold a_istore
  split
  · next x r => exact fun Q k ls H locs hL hz hR hl => lv_istore X.1 X.2.1 hd (hL.has hz) hm rfl (fun ls2 hl2 => k ls2 H locs (mLR.set1 hl2) hl2.1 hR hl)
  · trivial
def a_lstore (n i : Nat) : mA := fun L st h c s => match st with
  | .long x :: r => oN n (mSet2 L i (.long x)) r h c s
  | _ => none
theorem snd_lstore_n {j pc n : Nat} {i : Nat} {f : Fin 4} (hd : decode (mBc j) pc = .ok (.lstore_n f, 1)) (hi : (f : Nat) = i) (hm : i + 1 < mMx j) (hn : n = pc + 1) : mSnd j pc (a_lstore n i) := by
  subst hn
  intro G l p e s m args below meth c X L st h cc ss
  unfold a_lstore
  split
  · next x r => exact fun Q k ls H locs hL hz hR hl => lv_lstore_n X.1 X.2.1 hd hi (hL.has hz) hm rfl (fun ls2 hl2 => k ls2 H locs (mLR.set2 hl2) hl2.1 hR hl)
  · trivial
theorem snd_lstore {j pc n : Nat} {i : Nat} (hd : decode (mBc j) pc = .ok (.lstore i, 2)) (hm : i + 1 < mMx j) (hn : n = pc + 2) : mSnd j pc (a_lstore n i) := by
  subst hn
  intro G l p e s m args below meth c X L st h cc ss
  unfold a_lstore
  split
  · next x r => exact fun Q k ls H locs hL hz hR hl => lv_lstore X.1 X.2.1 hd (hL.has hz) hm rfl (fun ls2 hl2 => k ls2 H locs (mLR.set2 hl2) hl2.1 hR hl)
  · trivial
def a_astore (n i : Nat) : mA := fun L st h c s => match st with
  | .ref x :: r => oN n (mSet1 L i (.ref x)) r h c s
  | .null :: r => oN n (mSet1 L i .null) r h c s
  | _ => none
theorem snd_astore_n {j pc n : Nat} {i : Nat} {f : Fin 4} (hd : decode (mBc j) pc = .ok (.astore_n f, 1)) (hi : (f : Nat) = i) (hm : i < mMx j) (hn : n = pc + 1) : mSnd j pc (a_astore n i) := by
  subst hn
  intro G l p e s m args below meth c X L st h cc ss
  unfold a_astore
  split
  · next x r => exact fun Q k ls H locs hL hz hR hl => lv_astore_n X.1 X.2.1 hd hi (hL.has hz) hm rfl (fun ls2 hl2 => k ls2 H locs (mLR.set1 hl2) hl2.1 hR hl)
  · next r => exact fun Q k ls H locs hL hz hR hl => lv_astore_nN X.1 X.2.1 hd hi (hL.has hz) hm rfl (fun ls2 hl2 => k ls2 H locs (mLR.set1 hl2) hl2.1 hR hl)
  · trivial
theorem snd_astore {j pc n : Nat} {i : Nat} (hd : decode (mBc j) pc = .ok (.astore i, 2)) (hm : i < mMx j) (hn : n = pc + 2) : mSnd j pc (a_astore n i) := by
  subst hn
  intro G l p e s m args below meth c X L st h cc ss
  unfold a_astore
  split
  · next x r => exact fun Q k ls H locs hL hz hR hl => lv_astore X.1 X.2.1 hd (hL.has hz) hm rfl (fun ls2 hl2 => k ls2 H locs (mLR.set1 hl2) hl2.1 hR hl)
  · next r => exact fun Q k ls H locs hL hz hR hl => lv_astoreN X.1 X.2.1 hd (hL.has hz) hm rfl (fun ls2 hl2 => k ls2 H locs (mLR.set1 hl2) hl2.1 hR hl)
  · trivial
def a_iinc (n i : Nat) (d : Int32) : mA := fun L st h c s => match L[i]? with
  | some (some (.int x)) => oN n (mSet1 L i (.int (x + d))) st h c s
  | _ => none
theorem snd_iinc {j pc n : Nat} {i : Nat} {d : Int} {v : Int32} (hd : decode (mBc j) pc = .ok (.iinc i d, 3)) (hv : Int32.ofInt d = v) (hm : i < mMx j) (hn : n = pc + 3) : mSnd j pc (a_iinc n i v) := by
  subst hn
  intro G l p e s m args below meth c X L st h cc ss
  subst hv
  unfold a_iinc
  split
  · next x e1 =>
    intro Q k ls H locs hL hz hR hl
    obtain ⟨q, hq⟩ := List.getElem?_of_mem (mAsc_iff.mpr ⟨_, e1, rfl⟩ : (i, mTr G (.int x)) ∈ mAsc G L)
    exact lv_iinc X.1 X.2.1 hd (hL.has hz) hq rfl hm rfl (fun ls2 hl2 => k ls2 H locs (mLR.set1 (v := .int (x + Int32.ofInt d)) hl2) hl2.1 hR hl)
  · trivial
def a_ii (n : Nat) (f : Int32 → Int32 → Int32) : mA := fun L st h c s => match st with
  | .int y :: .int x :: r => oN n L (.int (f x y) :: r) h c s
  | _ => none
def a_ll (n : Nat) (f : Int64 → Int64 → Int64) : mA := fun L st h c s => match st with
  | .long y :: .long x :: r => oN n L (.long (f x y) :: r) h c s
  | _ => none
def a_iid (n : Nat) (f : Int32 → Int32 → Int32) : mA := fun L st h c s => match st with
  | .int y :: .int x :: r => if y = 0 then none else oN n L (.int (f x y) :: r) h c s
  | _ => none
def a_lld (n : Nat) (f : Int64 → Int64 → Int64) : mA := fun L st h c s => match st with
  | .long y :: .long x :: r => if y = 0 then none else oN n L (.long (f x y) :: r) h c s
  | _ => none
theorem snd_iadd {j pc n : Nat} (hd : decode (mBc j) pc = .ok (.iadd, 1)) (hn : n = pc + 1) : mSnd j pc (a_ii n (fun x y => x + y)) := by
  subst hn
  intro G l p e s m args below meth c X L st h cc ss
  unfold a_ii
  split
  · exact fun Q k ls H locs hL hz hR hl => lv_iadd X.1 X.2.1 hd (k ls H locs hL hz hR hl)
  · trivial
theorem snd_isub {j pc n : Nat} (hd : decode (mBc j) pc = .ok (.isub, 1)) (hn : n = pc + 1) : mSnd j pc (a_ii n (fun x y => x - y)) := by
  subst hn
  intro G l p e s m args below meth c X L st h cc ss
  unfold a_ii
  split
  · exact fun Q k ls H locs hL hz hR hl => lv_isub X.1 X.2.1 hd (k ls H locs hL hz hR hl)
  · trivial
theorem snd_imul {j pc n : Nat} (hd : decode (mBc j) pc = .ok (.imul, 1)) (hn : n = pc + 1) : mSnd j pc (a_ii n (fun x y => x * y)) := by
  subst hn
  intro G l p e s m args below meth c X L st h cc ss
  unfold a_ii
  split
  · exact fun Q k ls H locs hL hz hR hl => lv_imul X.1 X.2.1 hd (k ls H locs hL hz hR hl)
  · trivial
theorem snd_iand {j pc n : Nat} (hd : decode (mBc j) pc = .ok (.iand, 1)) (hn : n = pc + 1) : mSnd j pc (a_ii n (fun x y => x &&& y)) := by
  subst hn
  intro G l p e s m args below meth c X L st h cc ss
  unfold a_ii
  split
  · exact fun Q k ls H locs hL hz hR hl => lv_iand X.1 X.2.1 hd (k ls H locs hL hz hR hl)
  · trivial
theorem snd_ior {j pc n : Nat} (hd : decode (mBc j) pc = .ok (.ior, 1)) (hn : n = pc + 1) : mSnd j pc (a_ii n (fun x y => x ||| y)) := by
  subst hn
  intro G l p e s m args below meth c X L st h cc ss
  unfold a_ii
  split
  · exact fun Q k ls H locs hL hz hR hl => lv_ior X.1 X.2.1 hd (k ls H locs hL hz hR hl)
  · trivial
theorem snd_ixor {j pc n : Nat} (hd : decode (mBc j) pc = .ok (.ixor, 1)) (hn : n = pc + 1) : mSnd j pc (a_ii n (fun x y => x ^^^ y)) := by
  subst hn
  intro G l p e s m args below meth c X L st h cc ss
  unfold a_ii
  split
  · exact fun Q k ls H locs hL hz hR hl => lv_ixor X.1 X.2.1 hd (k ls H locs hL hz hR hl)
  · trivial
theorem snd_ishl {j pc n : Nat} (hd : decode (mBc j) pc = .ok (.ishl, 1)) (hn : n = pc + 1) : mSnd j pc (a_ii n (fun x y => x <<< (y &&& 31))) := by
  subst hn
  intro G l p e s m args below meth c X L st h cc ss
  unfold a_ii
  split
  · exact fun Q k ls H locs hL hz hR hl => lv_ishl X.1 X.2.1 hd (k ls H locs hL hz hR hl)
  · trivial
theorem snd_ishr {j pc n : Nat} (hd : decode (mBc j) pc = .ok (.ishr, 1)) (hn : n = pc + 1) : mSnd j pc (a_ii n (fun x y => x >>> (y &&& 31))) := by
  subst hn
  intro G l p e s m args below meth c X L st h cc ss
  unfold a_ii
  split
  · exact fun Q k ls H locs hL hz hR hl => lv_ishr X.1 X.2.1 hd (k ls H locs hL hz hR hl)
  · trivial
theorem snd_iushr {j pc n : Nat} (hd : decode (mBc j) pc = .ok (.iushr, 1)) (hn : n = pc + 1) : mSnd j pc (a_ii n (fun x y => (x.toUInt32 >>> (y.toUInt32 &&& Int32.toUInt32 31)).toInt32)) := by
  subst hn
  intro G l p e s m args below meth c X L st h cc ss
  unfold a_ii
  split
  · exact fun Q k ls H locs hL hz hR hl => lv_iushr X.1 X.2.1 hd rfl (k ls H locs hL hz hR hl)
  · trivial
theorem snd_ladd {j pc n : Nat} (hd : decode (mBc j) pc = .ok (.ladd, 1)) (hn : n = pc + 1) : mSnd j pc (a_ll n (fun x y => x + y)) := by
  subst hn
  intro G l p e s m args below meth c X L st h cc ss
  unfold a_ll
  split
  · exact fun Q k ls H locs hL hz hR hl => lv_ladd X.1 X.2.1 hd (k ls H locs hL hz hR hl)
  · trivial
theorem snd_lsub {j pc n : Nat} (hd : decode (mBc j) pc = .ok (.lsub, 1)) (hn : n = pc + 1) : mSnd j pc (a_ll n (fun x y => x - y)) := by
  subst hn
  intro G l p e s m args below meth c X L st h cc ss
  unfold a_ll
  split
  · exact fun Q k ls H locs hL hz hR hl => lv_lsub X.1 X.2.1 hd (k ls H locs hL hz hR hl)
  · trivial
theorem snd_lmul {j pc n : Nat} (hd : decode (mBc j) pc = .ok (.lmul, 1)) (hn : n = pc + 1) : mSnd j pc (a_ll n (fun x y => x * y)) := by
  subst hn
  intro G l p e s m args below meth c X L st h cc ss
  unfold a_ll
  split
  · exact fun Q k ls H locs hL hz hR hl => lv_lmul X.1 X.2.1 hd (k ls H locs hL hz hR hl)
  · trivial
theorem snd_land {j pc n : Nat} (hd : decode (mBc j) pc = .ok (.land, 1)) (hn : n = pc + 1) : mSnd j pc (a_ll n (fun x y => x &&& y)) := by
  subst hn
  intro G l p e s m args below meth c X L st h cc ss
  unfold a_ll
  split
  · exact fun Q k ls H locs hL hz hR hl => lv_land X.1 X.2.1 hd (k ls H locs hL hz hR hl)
  · trivial
theorem snd_lor {j pc n : Nat} (hd : decode (mBc j) pc = .ok (.lor, 1)) (hn : n = pc + 1) : mSnd j pc (a_ll n (fun x y => x ||| y)) := by
  subst hn
  intro G l p e s m args below meth c X L st h cc ss
  unfold a_ll
  split
  · exact fun Q k ls H locs hL hz hR hl => lv_lor X.1 X.2.1 hd (k ls H locs hL hz hR hl)
  · trivial
theorem snd_idiv {j pc n : Nat} (hd : decode (mBc j) pc = .ok (.idiv, 1)) (hn : n = pc + 1) : mSnd j pc (a_iid n (fun x y => x / y)) := by
  subst hn
  intro G l p e s m args below meth c X L st h cc ss
  unfold a_iid
  split
  · split
    · trivial
    · next hne => exact fun Q k ls H locs hL hz hR hl => lv_idiv X.1 X.2.1 hd hne (k ls H locs hL hz hR hl)
  · trivial
theorem snd_irem {j pc n : Nat} (hd : decode (mBc j) pc = .ok (.irem, 1)) (hn : n = pc + 1) : mSnd j pc (a_iid n (fun x y => x - x / y * y)) := by
  subst hn
  intro G l p e s m args below meth c X L st h cc ss
  unfold a_iid
  split
  · split
    · trivial
    · next hne => exact fun Q k ls H locs hL hz hR hl => lv_irem X.1 X.2.1 hd hne (k ls H locs hL hz hR hl)
  · trivial
theorem snd_ldiv {j pc n : Nat} (hd : decode (mBc j) pc = .ok (.ldiv, 1)) (hn : n = pc + 1) : mSnd j pc (a_lld n (fun x y => x / y)) := by
  subst hn
  intro G l p e s m args below meth c X L st h cc ss
  unfold a_lld
  split
  · split
    · trivial
    · next hne => exact fun Q k ls H locs hL hz hR hl => lv_ldiv X.1 X.2.1 hd hne (k ls H locs hL hz hR hl)
  · trivial
theorem snd_lrem {j pc n : Nat} (hd : decode (mBc j) pc = .ok (.lrem, 1)) (hn : n = pc + 1) : mSnd j pc (a_lld n (fun x y => x - x / y * y)) := by
  subst hn
  intro G l p e s m args below meth c X L st h cc ss
  unfold a_lld
  split
  · split
    · trivial
    · next hne => exact fun Q k ls H locs hL hz hR hl => lv_lrem X.1 X.2.1 hd hne (k ls H locs hL hz hR hl)
  · trivial
def a_i (n : Nat) (f : Int32 → Int32) : mA := fun L st h c s => match st with
  | .int x :: r => oN n L (.int (f x) :: r) h c s
  | _ => none
def a_l (n : Nat) (f : Int64 → Int64) : mA := fun L st h c s => match st with
  | .long x :: r => oN n L (.long (f x) :: r) h c s
  | _ => none
def a_i2l (n : Nat) : mA := fun L st h c s => match st with
  | .int x :: r => oN n L (.long x.toInt64 :: r) h c s
  | _ => none
def a_l2i (n : Nat) : mA := fun L st h c s => match st with
  | .long x :: r => oN n L (.int x.toInt32 :: r) h c s
  | _ => none
def a_lsh (n : Nat) (f : Int64 → Int32 → Int64) : mA := fun L st h c s => match st with
  | .int y :: .long x :: r => oN n L (.long (f x y) :: r) h c s
  | _ => none
def a_lcmp (n : Nat) : mA := fun L st h c s => match st with
  | .long y :: .long x :: r => oN n L (.int (lg_cmp x y) :: r) h c s
  | _ => none
theorem snd_ineg {j pc n : Nat} (hd : decode (mBc j) pc = .ok (.ineg, 1)) (hn : n = pc + 1) : mSnd j pc (a_i n (fun x => -x)) := by
  subst hn
  intro G l p e s m args below meth c X L st h cc ss
  unfold a_i
  split
  · exact fun Q k ls H locs hL hz hR hl => lv_ineg X.1 X.2.1 hd (k ls H locs hL hz hR hl)
  · trivial
theorem snd_lneg {j pc n : Nat} (hd : decode (mBc j) pc = .ok (.lneg, 1)) (hn : n = pc + 1) : mSnd j pc (a_l n (fun x => -x)) := by
  subst hn
  intro G l p e s m args below meth c X L st h cc ss
  unfold a_l
  split
  · exact fun Q k ls H locs hL hz hR hl => lv_lneg X.1 X.2.1 hd (k ls H locs hL hz hR hl)
  · trivial
theorem snd_i2b {j pc n : Nat} (hd : decode (mBc j) pc = .ok (.i2b, 1)) (hn : n = pc + 1) : mSnd j pc (a_i n (fun x => x.toInt8.toInt32)) := by
  subst hn
  intro G l p e s m args below meth c X L st h cc ss
  unfold a_i
  split
  · exact fun Q k ls H locs hL hz hR hl => lv_i2b X.1 X.2.1 hd rfl (k ls H locs hL hz hR hl)
  · trivial
theorem snd_i2l {j pc n : Nat} (hd : decode (mBc j) pc = .ok (.i2l, 1)) (hn : n = pc + 1) : mSnd j pc (a_i2l n ) := by
  subst hn
  intro G l p e s m args below meth c X L st h cc ss
  unfold a_i2l
  split
  · exact fun Q k ls H locs hL hz hR hl => lv_i2l X.1 X.2.1 hd rfl (k ls H locs hL hz hR hl)
  · trivial
theorem snd_l2i {j pc n : Nat} (hd : decode (mBc j) pc = .ok (.l2i, 1)) (hn : n = pc + 1) : mSnd j pc (a_l2i n ) := by
  subst hn
  intro G l p e s m args below meth c X L st h cc ss
  unfold a_l2i
  split
  · exact fun Q k ls H locs hL hz hR hl => lv_l2i X.1 X.2.1 hd rfl (k ls H locs hL hz hR hl)
  · trivial
theorem snd_lshl {j pc n : Nat} (hd : decode (mBc j) pc = .ok (.lshl, 1)) (hn : n = pc + 1) : mSnd j pc (a_lsh n (fun x y => x <<< (y.toInt64 &&& 63))) := by
  subst hn
  intro G l p e s m args below meth c X L st h cc ss
  unfold a_lsh
  split
  · exact fun Q k ls H locs hL hz hR hl => lv_lshl X.1 X.2.1 hd rfl (k ls H locs hL hz hR hl)
  · trivial
theorem snd_lshr {j pc n : Nat} (hd : decode (mBc j) pc = .ok (.lshr, 1)) (hn : n = pc + 1) : mSnd j pc (a_lsh n (fun x y => x >>> (y.toInt64 &&& 63))) := by
  subst hn
  intro G l p e s m args below meth c X L st h cc ss
  unfold a_lsh
  split
  · exact fun Q k ls H locs hL hz hR hl => lv_lshr X.1 X.2.1 hd rfl (k ls H locs hL hz hR hl)
  · trivial
theorem snd_lcmp {j pc n : Nat} (hd : decode (mBc j) pc = .ok (.lcmp, 1)) (hn : n = pc + 1) : mSnd j pc (a_lcmp n ) := by
  subst hn
  intro G l p e s m args below meth c X L st h cc ss
  unfold a_lcmp
  split
  · exact fun Q k ls H locs hL hz hR hl => W.lcmp X.1 X.2.1 hd (k ls H locs hL hz hR hl)
  · trivial
def a_dup (n : Nat) : mA := fun L st h c s => match st with
  | .int x :: r => oN n L (.int x :: .int x :: r) h c s
  | .ref x :: r => oN n L (.ref x :: .ref x :: r) h c s
  | _ => none
theorem snd_dup {j pc n : Nat} (hd : decode (mBc j) pc = .ok (.dup, 1)) (hn : n = pc + 1) : mSnd j pc (a_dup n) := by
  subst hn
  intro G l p e s m args below meth c X L st h cc ss
  unfold a_dup
  split
  · exact fun Q k ls H locs hL hz hR hl => lv_dup X.1 X.2.1 hd rfl (k ls H locs hL hz hR hl)
  · exact fun Q k ls H locs hL hz hR hl => lv_dup X.1 X.2.1 hd rfl (k ls H locs hL hz hR hl)
  · trivial
def a_dup2 (n : Nat) : mA := fun L st h c s => match st with
  | .int x :: .ref y :: r => oN n L (.int x :: .ref y :: .int x :: .ref y :: r) h c s
  | _ => none
theorem snd_dup2 {j pc n : Nat} (hd : decode (mBc j) pc = .ok (.dup2, 1)) (hn : n = pc + 1) : mSnd j pc (a_dup2 n) := by
  subst hn
  intro G l p e s m args below meth c X L st h cc ss
  unfold a_dup2
  split
  · exact fun Q k ls H locs hL hz hR hl => lv_dup2_11 X.1 X.2.1 hd rfl rfl (k ls H locs hL hz hR hl)
  · trivial
def a_if (n t : Nat) (P : Int32 → Bool) : mA := fun L st h c s => match st with
  | .int x :: r => bif P x then oN t L r h c s else oN n L r h c s
  | _ => none
def a_icmp (n t : Nat) (P : Int32 → Int32 → Bool) : mA := fun L st h c s => match st with
  | .int y :: .int x :: r => bif P x y then oN t L r h c s else oN n L r h c s
  | _ => none
theorem snd_if_eq {j pc n : Nat} {t : Nat} {off : Int} (hd : decode (mBc j) pc = .ok (.ifCond .eq off, 3)) (ht : (pc : Int) + off = (t : Int)) (hn : n = pc + 3) : mSnd j pc (a_if n t (fun x => decide (x = 0))) := by
  subst hn
  intro G l p e s m args below meth c X L st h cc ss
  unfold a_if
  split
  · next x r =>
    dsimp only
    by_cases hP : x = 0
    · rw [decide_eq_true hP]
      exact fun Q k ls H locs hL hz hR hl => lv_if_eq X.1 X.2.1 hd ht (fun _ => k ls H locs hL hz hR hl) (fun z => by first | exact absurd hP z | exact absurd z hP)
    · rw [decide_eq_false hP]
      exact fun Q k ls H locs hL hz hR hl => lv_if_eq X.1 X.2.1 hd ht (fun z => absurd z hP) (fun _ => k ls H locs hL hz hR hl)
  · trivial
theorem snd_icmp_eq {j pc n : Nat} {t : Nat} {off : Int} (hd : decode (mBc j) pc = .ok (.if_icmp .eq off, 3)) (ht : (pc : Int) + off = (t : Int)) (hn : n = pc + 3) : mSnd j pc (a_icmp n t (fun x y => decide (x = y))) := by
  subst hn
  intro G l p e s m args below meth c X L st h cc ss
  unfold a_icmp
  split
  · next y x r =>
    dsimp only
    by_cases hP : x = y
    · rw [decide_eq_true hP]
      exact fun Q k ls H locs hL hz hR hl => lv_icmp_eq X.1 X.2.1 hd ht (fun _ => k ls H locs hL hz hR hl) (fun z => by first | exact absurd hP z | exact absurd z hP)
    · rw [decide_eq_false hP]
      exact fun Q k ls H locs hL hz hR hl => lv_icmp_eq X.1 X.2.1 hd ht (fun z => absurd z hP) (fun _ => k ls H locs hL hz hR hl)
  · trivial
theorem snd_if_ne {j pc n : Nat} {t : Nat} {off : Int} (hd : decode (mBc j) pc = .ok (.ifCond .ne off, 3)) (ht : (pc : Int) + off = (t : Int)) (hn : n = pc + 3) : mSnd j pc (a_if n t (fun x => decide (¬ x = 0))) := by
  subst hn
  intro G l p e s m args below meth c X L st h cc ss
  unfold a_if
  split
  · next x r =>
    dsimp only
    by_cases hP : ¬ x = 0
    · rw [decide_eq_true hP]
      exact fun Q k ls H locs hL hz hR hl => lv_if_ne X.1 X.2.1 hd ht (fun _ => k ls H locs hL hz hR hl) (fun z => by first | exact absurd hP z | exact absurd z hP)
    · rw [decide_eq_false hP]
      exact fun Q k ls H locs hL hz hR hl => lv_if_ne X.1 X.2.1 hd ht (fun z => absurd z hP) (fun _ => k ls H locs hL hz hR hl)
  · trivial
theorem snd_icmp_ne {j pc n : Nat} {t : Nat} {off : Int} (hd : decode (mBc j) pc = .ok (.if_icmp .ne off, 3)) (ht : (pc : Int) + off = (t : Int)) (hn : n = pc + 3) : mSnd j pc (a_icmp n t (fun x y => decide (¬ x = y))) := by
  subst hn
  intro G l p e s m args below meth c X L st h cc ss
  unfold a_icmp
  split
  · next y x r =>
    dsimp only
    by_cases hP : ¬ x = y
    · rw [decide_eq_true hP]
      exact fun Q k ls H locs hL hz hR hl => lv_icmp_ne X.1 X.2.1 hd ht (fun _ => k ls H locs hL hz hR hl) (fun z => by first | exact absurd hP z | exact absurd z hP)
    · rw [decide_eq_false hP]
      exact fun Q k ls H locs hL hz hR hl => lv_icmp_ne X.1 X.2.1 hd ht (fun z => absurd z hP) (fun _ => k ls H locs hL hz hR hl)
  · trivial
theorem snd_if_lt {j pc n : Nat} {t : Nat} {off : Int} (hd : decode (mBc j) pc = .ok (.ifCond .lt off, 3)) (ht : (pc : Int) + off = (t : Int)) (hn : n = pc + 3) : mSnd j pc (a_if n t (fun x => decide (x < 0))) := by
  subst hn
  intro G l p e s m args below meth c X L st h cc ss
  unfold a_if
  split
  · next x r =>
    dsimp only
    by_cases hP : x < 0
    · rw [decide_eq_true hP]
      exact fun Q k ls H locs hL hz hR hl => lv_if_lt X.1 X.2.1 hd ht (fun _ => k ls H locs hL hz hR hl) (fun z => by first | exact absurd hP z | exact absurd z hP)
    · rw [decide_eq_false hP]
      exact fun Q k ls H locs hL hz hR hl => lv_if_lt X.1 X.2.1 hd ht (fun z => absurd z hP) (fun _ => k ls H locs hL hz hR hl)
  · trivial
theorem snd_icmp_lt {j pc n : Nat} {t : Nat} {off : Int} (hd : decode (mBc j) pc = .ok (.if_icmp .lt off, 3)) (ht : (pc : Int) + off = (t : Int)) (hn : n = pc + 3) : mSnd j pc (a_icmp n t (fun x y => decide (x < y))) := by
  subst hn
  intro G l p e s m args below meth c X L st h cc ss
  unfold a_icmp
  split
  · next y x r =>
    dsimp only
    by_cases hP : x < y
    · rw [decide_eq_true hP]
      exact fun Q k ls H locs hL hz hR hl => lv_icmp_lt X.1 X.2.1 hd ht (fun _ => k ls H locs hL hz hR hl) (fun z => by first | exact absurd hP z | exact absurd z hP)
    · rw [decide_eq_false hP]
      exact fun Q k ls H locs hL hz hR hl => lv_icmp_lt X.1 X.2.1 hd ht (fun z => absurd z hP) (fun _ => k ls H locs hL hz hR hl)
  · trivial
theorem snd_if_ge {j pc n : Nat} {t : Nat} {off : Int} (hd : decode (mBc j) pc = .ok (.ifCond .ge off, 3)) (ht : (pc : Int) + off = (t : Int)) (hn : n = pc + 3) : mSnd j pc (a_if n t (fun x => decide (0 ≤ x))) := by
  subst hn
  intro G l p e s m args below meth c X L st h cc ss
  unfold a_if
  split
  · next x r =>
    dsimp only
    by_cases hP : 0 ≤ x
    · rw [decide_eq_true hP]
      exact fun Q k ls H locs hL hz hR hl => lv_if_ge X.1 X.2.1 hd ht (fun _ => k ls H locs hL hz hR hl) (fun z => by first | exact absurd hP z | exact absurd z hP)
    · rw [decide_eq_false hP]
      exact fun Q k ls H locs hL hz hR hl => lv_if_ge X.1 X.2.1 hd ht (fun z => absurd z hP) (fun _ => k ls H locs hL hz hR hl)
  · trivial
theorem snd_icmp_ge {j pc n : Nat} {t : Nat} {off : Int} (hd : decode (mBc j) pc = .ok (.if_icmp .ge off, 3)) (ht : (pc : Int) + off = (t : Int)) (hn : n = pc + 3) : mSnd j pc (a_icmp n t (fun x y => decide (y ≤ x))) := by
  subst hn
  intro G l p e s m args below meth c X L st h cc ss
  unfold a_icmp
  split
  · next y x r =>
    dsimp only
    by_cases hP : y ≤ x
    · rw [decide_eq_true hP]
      exact fun Q k ls H locs hL hz hR hl => lv_icmp_ge X.1 X.2.1 hd ht (fun _ => k ls H locs hL hz hR hl) (fun z => by first | exact absurd hP z | exact absurd z hP)
    · rw [decide_eq_false hP]
      exact fun Q k ls H locs hL hz hR hl => lv_icmp_ge X.1 X.2.1 hd ht (fun z => absurd z hP) (fun _ => k ls H locs hL hz hR hl)
  · trivial
theorem snd_if_gt {j pc n : Nat} {t : Nat} {off : Int} (hd : decode (mBc j) pc = .ok (.ifCond .gt off, 3)) (ht : (pc : Int) + off = (t : Int)) (hn : n = pc + 3) : mSnd j pc (a_if n t (fun x => decide (0 < x))) := by
  subst hn
  intro G l p e s m args below meth c X L st h cc ss
  unfold a_if
  split
  · next x r =>
    dsimp only
    by_cases hP : 0 < x
    · rw [decide_eq_true hP]
      exact fun Q k ls H locs hL hz hR hl => lv_if_gt X.1 X.2.1 hd ht (fun _ => k ls H locs hL hz hR hl) (fun z => by first | exact absurd hP z | exact absurd z hP)
    · rw [decide_eq_false hP]
      exact fun Q k ls H locs hL hz hR hl => lv_if_gt X.1 X.2.1 hd ht (fun z => absurd z hP) (fun _ => k ls H locs hL hz hR hl)
  · trivial
theorem snd_icmp_gt {j pc n : Nat} {t : Nat} {off : Int} (hd : decode (mBc j) pc = .ok (.if_icmp .gt off, 3)) (ht : (pc : Int) + off = (t : Int)) (hn : n = pc + 3) : mSnd j pc (a_icmp n t (fun x y => decide (y < x))) := by
  subst hn
  intro G l p e s m args below meth c X L st h cc ss
  unfold a_icmp
  split
  · next y x r =>
    dsimp only
    by_cases hP : y < x
    · rw [decide_eq_true hP]
      exact fun Q k ls H locs hL hz hR hl => lv_icmp_gt X.1 X.2.1 hd ht (fun _ => k ls H locs hL hz hR hl) (fun z => by first | exact absurd hP z | exact absurd z hP)
    · rw [decide_eq_false hP]
      exact fun Q k ls H locs hL hz hR hl => lv_icmp_gt X.1 X.2.1 hd ht (fun z => absurd z hP) (fun _ => k ls H locs hL hz hR hl)
  · trivial
theorem snd_if_le {j pc n : Nat} {t : Nat} {off : Int} (hd : decode (mBc j) pc = .ok (.ifCond .le off, 3)) (ht : (pc : Int) + off = (t : Int)) (hn : n = pc + 3) : mSnd j pc (a_if n t (fun x => decide (x ≤ 0))) := by
  subst hn
  intro G l p e s m args below meth c X L st h cc ss
  unfold a_if
  split
  · next x r =>
    dsimp only
    by_cases hP : x ≤ 0
    · rw [decide_eq_true hP]
      exact fun Q k ls H locs hL hz hR hl => lv_if_le X.1 X.2.1 hd ht (fun _ => k ls H locs hL hz hR hl) (fun z => by first | exact absurd hP z | exact absurd z hP)
    · rw [decide_eq_false hP]
      exact fun Q k ls H locs hL hz hR hl => lv_if_le X.1 X.2.1 hd ht (fun z => absurd z hP) (fun _ => k ls H locs hL hz hR hl)
  · trivial
theorem snd_icmp_le {j pc n : Nat} {t : Nat} {off : Int} (hd : decode (mBc j) pc = .ok (.if_icmp .le off, 3)) (ht : (pc : Int) + off = (t : Int)) (hn : n = pc + 3) : mSnd j pc (a_icmp n t (fun x y => decide (x ≤ y))) := by
  subst hn
  intro G l p e s m args below meth c X L st h cc ss
  unfold a_icmp
  split
  · next y x r =>
    dsimp only
    by_cases hP : x ≤ y
    · rw [decide_eq_true hP]
      exact fun Q k ls H locs hL hz hR hl => lv_icmp_le X.1 X.2.1 hd ht (fun _ => k ls H locs hL hz hR hl) (fun z => by first | exact absurd hP z | exact absurd z hP)
    · rw [decide_eq_false hP]
      exact fun Q k ls H locs hL hz hR hl => lv_icmp_le X.1 X.2.1 hd ht (fun z => absurd z hP) (fun _ => k ls H locs hL hz hR hl)
  · trivial
def a_goto (t : Nat) : mA := fun L st h c s => oN t L st h c s
theorem snd_goto {j pc t : Nat} {off : Int} (hd : decode (mBc j) pc = .ok (.goto off, 3)) (ht : (pc : Int) + off = (t : Int)) : mSnd j pc (a_goto t) := by
  intro G l p e s m args below meth c X L st h cc ss
  exact fun Q k ls H locs hL hz hR hl => lv_goto X.1 X.2.1 hd ht (k ls H locs hL hz hR hl)
def a_ifnull (n t : Nat) : mA := fun L st h c s => match st with
  | .ref _ :: r => oN n L r h c s
  | .null :: r => oN t L r h c s
  | _ => none
theorem snd_ifnull {j pc n : Nat} {t : Nat} {off : Int} (hd : decode (mBc j) pc = .ok (.ifnull off, 3)) (ht : (pc : Int) + off = (t : Int)) (hn : n = pc + 3) : mSnd j pc (a_ifnull n t) := by
  subst hn
  intro G l p e s m args below meth c X L st h cc ss
  unfold a_ifnull
  split
  · exact fun Q k ls H locs hL hz hR hl => lv_ifnull X.1 X.2.1 hd (k ls H locs hL hz hR hl)
  · exact fun Q k ls H locs hL hz hR hl => lv_ifnullN X.1 X.2.1 hd ht (k ls H locs hL hz hR hl)
  · trivial
theorem snd_ifnonnull {j pc n : Nat} {t : Nat} {off : Int} (hd : decode (mBc j) pc = .ok (.ifnonnull off, 3)) (ht : (pc : Int) + off = (t : Int)) (hn : n = pc + 3) : mSnd j pc (a_ifnull t n) := by
  subst hn
  intro G l p e s m args below meth c X L st h cc ss
  unfold a_ifnull
  split
  · exact fun Q k ls H locs hL hz hR hl => lv_ifnonnull X.1 X.2.1 hd ht (k ls H locs hL hz hR hl)
  · exact fun Q k ls H locs hL hz hR hl => lv_ifnonnullN X.1 X.2.1 hd (k ls H locs hL hz hR hl)
  · trivial
def a_tsw (d : Nat) (lo hi : Int) (ts : List Nat) : mA := fun L st h c s => match st with
  | .int x :: r => if x.toInt < lo ∨ hi < x.toInt then oN d L r h c s else match ts[(x.toInt - lo).toNat]? with
    | some t => oN t L r h c s
    | none => none
  | _ => none
theorem snd_tsw {j pc d len : Nat} {dflt lo hi : Int} {offs : Array Int} {ts : List Nat} (hd : decode (mBc j) pc = .ok (.tableswitch dflt lo hi offs, len)) (ht : (pc : Int) + dflt = (d : Int)) (hts : offs.toList.map (fun o => (pc : Int) + o) = ts.map (fun t : Nat => (t : Int))) : mSnd j pc (a_tsw d lo hi ts) := by
  intro G l p e s m args below meth c X L st h cc ss
  unfold a_tsw
  split
  · next x r =>
    split
    · next hh => exact fun Q k ls H locs hL hz hR hl => lv_tableOut X.1 X.2.1 hd hh ht (k ls H locs hL hz hR hl)
    · next hh =>
      split
      · next t e1 =>
        have e2 : (offs.toList.map (fun o => (pc : Int) + o))[(x.toInt - lo).toNat]? = some (t : Int) := by rw [hts, List.getElem?_map, e1]; rfl
        rw [List.getElem?_map] at e2
        cases ho : offs.toList[(x.toInt - lo).toNat]? with
        | none => rw [ho] at e2; cases e2
        | some off =>
          rw [ho] at e2
          simp only [Option.map_some, Option.some.injEq] at e2
          exact fun Q k ls H locs hL hz hR hl => lv_tableIn X.1 X.2.1 hd (fun z => hh (Or.inl z)) (fun z => hh (Or.inr z)) (by rw [← Array.getElem?_toList]; exact ho) e2 (k ls H locs hL hz hR hl)
      · trivial
  · trivial
