/-! ===== how the small machine lies in the real one ===== -/
/-- classes and slots; the four kinds of rows; where the five old rows lie; the heap at the start; what the five old rows hold -/
abbrev mG : Type := va_G × (Nat → ClassId) × (Nat → Nat) × Heap × List mE
def mBase (G : mG) : Nat := G.2.2.2.1.size
def mAd (G : mG) (k : Nat) : Nat := if k < 5 then G.2.2.1 k else mBase G + (k - 5)
def mTr (G : mG) : Value → Value
  | .ref k => .ref (mAd G k)
  | .int x => .int x
  | .long x => .long x
  | .float x => .float x
  | .double x => .double x
  | .null => .null
  | .retAddr x => .retAddr x
def mTy : Nat → FieldType
  | 0 => .int
  | 1 => .long
  | 2 => .object "JointWorks$Told"
  | _ => .object "JointWorks$Sheet"
def mTys (G : mG) : List (ClassId × FieldType) := [(G.2.1 0, mTy 0), (G.2.1 1, mTy 1), (G.2.1 2, mTy 2), (G.2.1 3, mTy 3)]
def mTA (G : mG) (a : vp_A) : vp_A := (a.1, match a.2 with
  | .inr (.inr (.inr (.inr f))) => .inr (.inr (.inr (.inr (fun j => (f j).map (mAd G)))))
  | x => x)
def mTc (G : mG) : mE → va_E
  | .inl (t, a) => .inl (G.2.1 t, mTA G a)
  | .inr (ci, fs) => .inr (ci, fs.map (mTr G))
/-- an array's items as values of the small machine -/
def mVal (a : vp_A) (j : Nat) : Value := match a.2 with
  | .inl f => .int (f j)
  | .inr (.inl f) => .long (f j)
  | .inr (.inr (.inl f)) => .float (f j)
  | .inr (.inr (.inr (.inl f))) => .double (f j)
  | .inr (.inr (.inr (.inr f))) => va_rf (f j)
def mArr (U : State) (ty : FieldType) (a n : Nat) (v : Nat → Value) (H : Heap) : Prop := ∃ cell : Cell, H[a]? = some cell ∧ U.isArrayOf cell ty ∧ cell.vm ≠ .unknown ∧ (n ≤ cell.slots.size ∧ cell.slots.size.toInt32 = Int32.ofNat n) ∧ ∀ i : Nat, i < n → cell.slots[i]? = some (v i)
/-- the words that aren't kept by a call of themselves -/
def mNw : List Cond := [.methodLinkNest "JointWorks$Votes" 22 yX9_bit "JointWorks", .methodLinkNest "JointWorks$Runway" 22 yX9_bit "JointWorks", .methodLinkNest "JointWorks$Core" 71 yX9_bit "JointWorks", .methodLinkNest "JointWorks$Told" 68 yX9_bit "JointWorks", .methodLinkNest "JointWorks$Told" 83 yX9_factorial "JointWorks", .methodLinkNest "JointWorks$Told" 110 yX9_leanOf "JointWorks", .methodLinkNest "JointWorks$Told" 121 yX9_leanWeight "JointWorks", .methodLinkNest "JointWorks$Told" 125 yX9_leanSet "JointWorks", .methodLinkNest "JointWorks$Told" 118 yX9_weightSum "JointWorks", .methodLinkNest "JointWorks$Proof" 58 yX9_lowest "JointWorks", .methodLinkNest "JointWorks$Proof" 55 yX9_weightSum "JointWorks", .castable "JointWorks$Votes" "JointWorks$Told", .castable "JointWorks$Runway" "JointWorks$Told", .castable "JointWorks$Gloves" "JointWorks$Told", .castable "JointWorks$Joined" "JointWorks$Told"]
def mIsNw : Cond → Bool
  | .methodLinkNest .. => true
  | .castable .. => true
  | _ => false
theorem mNw_is : ∀ w ∈ mNw, mIsNw w = true := by decide +kernel
theorem mNw_warm {w : Cond} (hw : mIsNw w = true) {s U : State} (hW : s.WarmedH U.vm) (h : va_Nw w s) : va_Nw w U := by
  cases w <;> first | exact va_Nw.warmM hW h | exact va_Nw.warmC hW h | cases hw
def mStc : List (String × Nat) := [("LEAN_OF_ONE", 1), ("LEAN_OF_TWO", 2), ("LEAN_OF_THREE", 3), ("LEAN_OF_FOUR", 4)]
def mOld (U : State) (H0 : Heap) (a : Nat) (e : mE) : Prop := match e with
  | .inl (t, x) => (t = 0 ∨ t = 1) ∧ mArr U (mTy t) a x.1 (mVal x) H0 ∧ ∀ f, x.2 ≠ .inr (.inr (.inr (.inr f)))
  | _ => False
def mKF (G : mG) (U : State) : Prop := va_K G.1 vwCl (mTys G) U ∧ (∀ w ∈ mNw, va_Nw w U) ∧ (∀ k, k < 5 → G.2.2.1 k < mBase G ∧ ∃ e, G.2.2.2.2[k]? = some e ∧ mOld U G.2.2.2.1 (G.2.2.1 k) e) ∧
  (∀ q ∈ mStc, va_Z "JointWorks" q.1 "[J" (.ref (G.2.2.1 q.2)) (fun a => mBase G ≤ a) U G.2.2.2.1) ∧ va_AO "JointWorks$Told" U ∧ va_AO "JointWorks$Sheet" U
theorem mArr.moved {u U : State} (hvm : u.vm.Alike U.vm) {ty : FieldType} {a n : Nat} {v : Nat → Value} {H : Heap} (h : mArr u ty a n v H) : mArr U ty a n v H := by
  obtain ⟨cell, h1, h2, h3⟩ := h
  exact ⟨cell, h1, State.isArrayOf_alike hvm h2, h3⟩
theorem mKF.moved {G : mG} {s U : State} (hW : s.WarmedH U.vm) (h : mKF G s) : mKF G U := by
  obtain ⟨h1, h2, h3, h4, h5, h6⟩ := h
  refine ⟨va_K.moved hW.alike h1, fun w hw => mNw_warm (mNw_is w hw) hW (h2 w hw), fun k hk => ?_, fun q hq => (h4 q hq).moved hW.alike, h5.moved hW.alike, h6.moved hW.alike⟩
  obtain ⟨g1, e, g2, g3⟩ := h3 k hk
  refine ⟨g1, e, g2, ?_⟩
  match e, g3 with
  | .inl (t, x), g3 => exact ⟨g3.1, g3.2.1.moved hW.alike, g3.2.2⟩
/-- the heap holds the cells -/
def mRep (G : mG) (h : mH) (H : Heap) : Prop := (∀ q : Nat, q < mBase G → H[q]? = G.2.2.2.1[q]?) ∧ H.size + 5 = mBase G + h.length ∧ (∀ k : Nat, k < 5 → h[k]? = G.2.2.2.2[k]?) ∧ 5 ≤ h.length ∧ ∀ (k : Nat) (e : mE), 5 ≤ k → h[k]? = some e → va_at G.1 vwCl (mAd G k, mTc G e) H
def mLR (G : mG) (ls : Array Slot) (L : mL) : Prop := lv_wf ls ∧ ∀ (i : Nat) (v : Value), L[i]? = some (some v) → ls[i]? = some (.val (mTr G v))
def mMet (G : mG) (l : Launch) : mR := fun k as h r h1 => Met l (mNm k) (mWs k) (mRm k) (va_Pc (as.map (mTr G)) (fun U => mRep G h U.heap ∧ mKF G U)) (fun _ _ oc t => oc = .returned (r.map (mTr G)) ∧ mRep G h1 t.heap) (mRm k).cells (mRm k).slots (fun q => mBase G ≤ q)
def mFx (G : mG) (j : Nat) (p : Program) (s : State) (m : MethodId) (args : Array Value) (meth : Method) (c : Code) : Prop :=
  p.tables.exec = Jvm.exec ∧ c.code = mBc j ∧ c.maxLocals = mMx j ∧ s.vm.findClass (mNm j).cls = some m.cls ∧ (∀ w ∈ mWt, w.before args s = true) ∧ meth.sig.returnType = mRt j ∧ meth.locks = false ∧ meth.name = (mNm j).name ∧ mKF G s
def mWM (G : mG) (j : Nat) (l : Launch) (p : Program) (e : Env) (s : State) (m : MethodId) (args : Array Value) (below : List Frame) (meth : Method) (c : Code) (Q : State → Prop) (t : mS) : Prop :=
  ∀ (ls : Array Slot) (H : Heap) (locs : List Loc), mLR G ls t.2.1 → ls.size = mMx j → mRep G t.2.2.2.1 H → (∀ q ∈ locs, mBase G ≤ q.base) → W p l e (mRm j) s m args below meth c H locs t.2.2.2.2.1 t.2.2.2.2.2 Q (F0 m t.1 ls (t.2.2.1.map (mTr G)))
/-- what a return gives -/
def mRQ (G : mG) (j : Nat) (s : State) (args : Array Value) (below : List Frame) (v : Option Value) (h : mH) (Q : State → Prop) : Prop :=
  ∃ (Qc : Array Value → State → Outcome → State → Prop) (free : Addr → Prop), Q = MQ below Qc args s (mRm j).cells (mRm j).slots free ∧ (∀ q, mBase G ≤ q → free q) ∧ ∀ t : State, mRep G h t.heap → Qc args s (.returned (v.map (mTr G))) t
def mStp (G : mG) (j : Nat) (l : Launch) (p : Program) (e : Env) (s : State) (m : MethodId) (args : Array Value) (below : List Frame) (meth : Method) (c : Code) (pc : Nat) (L : mL) (st : List Value) (h : mH) (cc ss : Nat) : mO → Prop
  | none => True
  | some (.inl t) => ∀ Q, mWM G j l p e s m args below meth c Q t → mWM G j l p e s m args below meth c Q (pc, L, st, h, cc, ss)
  | some (.inr (.inl v)) => ∀ Q, mRQ G j s args below v h Q → mWM G j l p e s m args below meth c Q (pc, L, st, h, cc, ss)
  | some (.inr (.inr (k, as, pc', L', st', c', s'))) => ∀ Q r h1, mMet G l k as h r h1 → mWM G j l p e s m args below meth c Q (pc', L', r.toList ++ st', h1, c', s') → mWM G j l p e s m args below meth c Q (pc, L, st, h, cc, ss)
def mSnd (j pc : Nat) (a : mA) : Prop := ∀ (G : mG) (l : Launch) (p : Program) (e : Env) (s : State) (m : MethodId) (args : Array Value) (below : List Frame) (meth : Method) (c : Code), mFx G j p s m args meth c → ∀ (L : mL) (st : List Value) (h : mH) (cc ss : Nat), mStp G j l p e s m args below meth c pc L st h cc ss (a L st h cc ss)
/-- the walk -/
theorem mWalk {G : mG} {j : Nat} {l : Launch} {p : Program} {e : Env} {s : State} {m : MethodId} {args : Array Value} {below : List Frame} {meth : Method} {c : Code} {cd : Nat → mA} (hs : ∀ pc, mSnd j pc (cd pc)) (X : mFx G j p s m args meth c) : ∀ (f : Nat) (t : mS) (r : Option Value) (h' : mH), mLp (mMet G l) cd f t r h' → ∀ Q, mRQ G j s args below r h' Q → mWM G j l p e s m args below meth c Q t
  | 0, _, _, _, x, _, _ => x.elim
  | f + 1, (pc, L, st, h, cc, ss), r, h', x, Q, hQ => by
    have hst := hs pc G l p e s m args below meth c X L st h cc ss
    unfold mLp at x
    split at x
    · exact x.elim
    · next t e1 => rw [e1] at hst; exact hst Q (mWalk hs X f _ _ _ x Q hQ)
    · next v e1 =>
      rw [e1] at hst
      obtain ⟨rfl, rfl⟩ := x
      exact hst Q hQ
    · next k as pc' L' st' c' s' e1 =>
      rw [e1] at hst
      obtain ⟨r1, h1, x1, x2⟩ := x
      exact hst Q r1 h1 x1 (mWalk hs X f _ _ _ x2 Q hQ)
theorem mTr_cat (G : mG) (v : Value) : (mTr G v).category = v.category := by cases v <;> rfl
theorem mArgs_sl (G : mG) : ∀ as : List Value, (mArgs as).length = (lg_sl (as.map (mTr G))).length
  | [] => rfl
  | .long _ :: r => by simp [mArgs, mArgs_sl G r, mTr, lg_sl, Value.category]
  | .double _ :: r => by simp [mArgs, mArgs_sl G r, mTr, lg_sl, Value.category]
  | .int _ :: r => by simp [mArgs, mArgs_sl G r, mTr, lg_sl, Value.category]
  | .float _ :: r => by simp [mArgs, mArgs_sl G r, mTr, lg_sl, Value.category]
  | .null :: r => by simp [mArgs, mArgs_sl G r, mTr, lg_sl, Value.category]
  | .ref _ :: r => by simp [mArgs, mArgs_sl G r, mTr, lg_sl, Value.category]
  | .retAddr _ :: r => by simp [mArgs, mArgs_sl G r, mTr, lg_sl, Value.category]
theorem mArgs_at (G : mG) : ∀ (as : List Value) (o i : Nat) (v : Value), (mArgs as)[i]? = some (some v) → (o + i, mTr G v) ∈ lv_args o (as.map (mTr G)) := by
  intro as
  induction as with
  | nil => intro o i v h; simp [mArgs] at h
  | cons a r ih =>
    intro o i v h
    have one : a.category = 1 → mArgs (a :: r) = some a :: mArgs r := by intro hc; cases a <;> first | rfl | (simp [Value.category] at hc)
    have two : a.category = 2 → mArgs (a :: r) = some a :: none :: mArgs r := by intro hc; cases a <;> first | rfl | (simp [Value.category] at hc)
    simp only [List.map_cons, lv_args, mTr_cat]
    rcases lv_cat a with hc | hc
    · rw [one hc] at h
      cases i with
      | zero => simp at h; subst h; exact List.mem_cons_self
      | succ i =>
        simp only [List.getElem?_cons_succ] at h
        have := ih (o + 1) i v h
        rw [if_neg (by omega)]
        refine List.mem_cons_of_mem _ ?_
        rw [show o + (i + 1) = o + 1 + i by omega]
        exact this
    · rw [two hc] at h
      cases i with
      | zero => simp at h; subst h; exact List.mem_cons_self
      | succ i =>
        cases i with
        | zero => simp at h
        | succ i =>
          simp only [List.getElem?_cons_succ] at h
          have := ih (o + 2) i v h
          rw [if_pos hc]
          refine List.mem_cons_of_mem _ ?_
          rw [show o + (i + 1 + 1) = o + 2 + i by omega]
          exact this
theorem mIn_at {n : Nat} {as : List Value} {i : Nat} {v : Value} (h : (mIn n as)[i]? = some (some v)) : (mArgs as)[i]? = some (some v) := by
  unfold mIn at h
  by_cases hi : i < (mArgs as).length
  · rwa [List.getElem?_append_left hi] at h
  · rw [List.getElem?_append_right (by omega)] at h
    rw [List.getElem?_replicate] at h
    split at h <;> simp at h
theorem mOfW {l : Launch} {y : MethodName} {ws ws' : List Cond} {rm : Room} {Pc : Array Value → State → Prop} {Qc : Array Value → State → Outcome → State → Prop} {mc ms : Nat} {free : Addr → Prop} {cc : ByteArray} {maxL : Nat} {ret : Option FieldType}
    (hy : plainFor y = true) (hw : ws = Cond.code y cc maxL ret :: ws')
    (body : ∀ p e s m args below meth c s₁, BodyLoose p l y (headSpec ws rm) cc maxL ret e s m args below meth c s₁ → c.maxLocals = maxL → Pc args s →
      W p l e (headSpec ws rm).room s m args below meth c s.heap [] 0 0 (MQ below Qc args s mc ms free) (entryFrame m args maxL)) : Met l y ws rm Pc Qc mc ms free := by
  refine MetFree.of_bodySF (code := cc) (maxLocals := maxL) (ret := ret) hy ?_ ?_
  · intro args s m h hn
    obtain ⟨meth, c, h1, h2, h3, h4, h5, h6, -, -⟩ := Cond.code_spec hn (atoms_spec (ws := ws) h _ (by rw [hw]; exact List.mem_cons_self))
    exact ⟨meth, c, h1, h2, h3, h4, h5, h6⟩
  · intro p e s m args below meth c s₁ B hml hP _
    have hh0 : s₁.heap = s.heap := by rw [B.state]; rfl
    obtain ⟨t, a1, o, b1, b2, b3⟩ := body p e s m args below meth c s₁ B hml hP s₁ hh0 (Stand.of_body B)
    exact ⟨t, o, a1, b1, b2, ⟨b3.1, b3.2⟩⟩
/-- the whole method -/
theorem mMet_of {G : mG} {l : Launch} {cd : Nat → Nat → mA} (hs : ∀ j pc, mSnd j pc (cd j pc)) (hp : ∀ j, plainFor (mNm j) = true) : mCl cd (mMet G l) := by
  intro j as h r h' ha ⟨f, x⟩
  refine mOfW (cc := mBc j) (maxL := mMx j) (ret := mRt j) (hp j) rfl ?_
  intro p e s m args below meth c s₁ B hml hv
  obtain ⟨rfl, hR, hK⟩ := hv
  have hts := atoms_spec (ws := mWs j) B.pre
  have X : mFx G j p s m (as.map (mTr G)).toArray meth c := ⟨B.exec, B.bytes, hml, findClass_of_methodNamed B.named, fun w hw => hts w (List.mem_cons_of_mem _ hw), B.returns, B.notSynchronized, (name_of_methodNamed B.named B.method).1, hK⟩
  have hw := mWalk (l := l) (e := e) (below := below) (hs j) X f _ _ _ x (MQ below (fun _ _ oc t => oc = .returned (r.map (mTr G)) ∧ mRep G h' t.heap) (as.map (mTr G)).toArray s (mRm j).cells (mRm j).slots (fun q => mBase G ≤ q)) ⟨_, _, rfl, fun _ h => h, fun t ht => ⟨rfl, ht⟩⟩
  have hl := lv_entry (as.map (mTr G)) (n := mMx j) (by rw [← mArgs_sl]; exact ha)
  rw [lg_entry_eq]
  generalize (lg_sl (as.map (mTr G)) ++ List.replicate (mMx j - (lg_sl (as.map (mTr G))).length) Slot.unset).toArray = ls at hl ⊢
  refine hw ls s.heap [] ⟨hl.2.1, fun i v hi => ?_⟩ hl.1 hR (fun q hq => by cases hq)
  have := mArgs_at G as 0 i v (mIn_at hi)
  rw [Nat.zero_add] at this
  exact hl.2.2 _ this
