/-! ===== returns and calls ===== -/
def a_iret (mc ms : Nat) : mA := fun _ st _ c s => match st, Nat.ble c mc, Nat.ble s ms with
  | [.int x], true, true => oR (some (.int x))
  | _, _, _ => none
def a_zret (mc ms : Nat) : mA := fun _ st _ c s => match st, Nat.ble c mc, Nat.ble s ms with
  | [.int x], true, true => if x = 0 ∨ x = 1 then oR (some (.int x)) else none
  | _, _, _ => none
def a_lret (mc ms : Nat) : mA := fun _ st _ c s => match st, Nat.ble c mc, Nat.ble s ms with
  | [.long x], true, true => oR (some (.long x))
  | _, _, _ => none
def a_aret (mc ms : Nat) : mA := fun _ st _ c s => match st, Nat.ble c mc, Nat.ble s ms with
  | [.ref x], true, true => oR (some (.ref x))
  | [.null], true, true => oR (some .null)
  | _, _, _ => none
def a_vret (mc ms : Nat) : mA := fun _ st _ c s => match st, Nat.ble c mc, Nat.ble s ms with
  | [], true, true => oR none
  | _, _, _ => none
theorem snd_iret {j pc mc ms : Nat} (hrt : mRt j = some .int) (hmc : (mRm j).cells = mc) (hms : (mRm j).slots = ms) (hd : decode (mBc j) pc = .ok (.ireturn, 1)) : mSnd j pc (a_iret mc ms) := by
  subst hmc; subst hms
  intro G l p e s m args below meth c X L st h cc ss
  unfold a_iret
  split
  · next x e1 e2 =>
    intro Q hQ ls H locs hL hz hR hl
    obtain ⟨Qc, free, rfl, hfree, hq⟩ := hQ
    refine W.widen (Nat.le_of_ble_eq_true e1) (Nat.le_of_ble_eq_true e2) ?_
    exact W.iret X.1 X.2.1 (X.2.2.2.2.2.1.trans hrt) (fun t ht _ => hq t (by rw [ht]; exact hR)) (fun q hm => hfree _ (hl q hm)) hd X.2.2.2.2.2.2.1
  · trivial
theorem snd_zret {j pc mc ms : Nat} (hrt : mRt j = some .boolean) (hmc : (mRm j).cells = mc) (hms : (mRm j).slots = ms) (hd : decode (mBc j) pc = .ok (.ireturn, 1)) : mSnd j pc (a_zret mc ms) := by
  subst hmc; subst hms
  intro G l p e s m args below meth c X L st h cc ss
  unfold a_zret
  split
  · next x e1 e2 =>
    split
    · next hx =>
      intro Q hQ ls H locs hL hz hR hl
      obtain ⟨Qc, free, rfl, hfree, hq⟩ := hQ
      refine W.widen (Nat.le_of_ble_eq_true e1) (Nat.le_of_ble_eq_true e2) ?_
      exact W.zret X.1 X.2.1 (X.2.2.2.2.2.1.trans hrt) (by rcases hx with rfl | rfl <;> rfl) (fun t ht _ => hq t (by rw [ht]; exact hR)) (fun q hm => hfree _ (hl q hm)) hd X.2.2.2.2.2.2.1
    · trivial
  · trivial
theorem snd_lret {j pc mc ms : Nat} (hrt : mRt j = some .long) (hmc : (mRm j).cells = mc) (hms : (mRm j).slots = ms) (hd : decode (mBc j) pc = .ok (.lreturn, 1)) : mSnd j pc (a_lret mc ms) := by
  subst hmc; subst hms
  intro G l p e s m args below meth c X L st h cc ss
  unfold a_lret
  split
  · next x e1 e2 =>
    intro Q hQ ls H locs hL hz hR hl
    obtain ⟨Qc, free, rfl, hfree, hq⟩ := hQ
    refine W.widen (Nat.le_of_ble_eq_true e1) (Nat.le_of_ble_eq_true e2) ?_
    exact W.lret X.1 X.2.1 (X.2.2.2.2.2.1.trans hrt) (fun t ht _ => hq t (by rw [ht]; exact hR)) (fun q hm => hfree _ (hl q hm)) hd X.2.2.2.2.2.2.1
  · trivial
theorem snd_aret {j pc mc ms : Nat} {rt : FieldType} (hrt : mRt j = some rt) (hrt2 : (∃ n, rt = .object n) ∨ ∃ t, rt = .array t) (hmc : (mRm j).cells = mc) (hms : (mRm j).slots = ms) (hd : decode (mBc j) pc = .ok (.areturn, 1)) : mSnd j pc (a_aret mc ms) := by
  subst hmc; subst hms
  intro G l p e s m args below meth c X L st h cc ss
  unfold a_aret
  split
  · next x e1 e2 =>
    intro Q hQ ls H locs hL hz hR hl
    obtain ⟨Qc, free, rfl, hfree, hq⟩ := hQ
    refine W.widen (Nat.le_of_ble_eq_true e1) (Nat.le_of_ble_eq_true e2) ?_
    exact W.aret X.1 X.2.1 (X.2.2.2.2.2.1.trans hrt) hrt2 (Or.inr ⟨_, rfl⟩) (fun t ht _ => hq t (by rw [ht]; exact hR)) (fun q hm => hfree _ (hl q hm)) hd X.2.2.2.2.2.2.1
  · next e1 e2 =>
    intro Q hQ ls H locs hL hz hR hl
    obtain ⟨Qc, free, rfl, hfree, hq⟩ := hQ
    refine W.widen (Nat.le_of_ble_eq_true e1) (Nat.le_of_ble_eq_true e2) ?_
    exact W.aret X.1 X.2.1 (X.2.2.2.2.2.1.trans hrt) hrt2 (Or.inl rfl) (fun t ht _ => hq t (by rw [ht]; exact hR)) (fun q hm => hfree _ (hl q hm)) hd X.2.2.2.2.2.2.1
  · trivial
theorem snd_vret {j pc mc ms : Nat} (hrt : mRt j = none) (hmc : (mRm j).cells = mc) (hms : (mRm j).slots = ms) (hd : decode (mBc j) pc = .ok (.return_, 1)) : mSnd j pc (a_vret mc ms) := by
  subst hmc; subst hms
  intro G l p e s m args below meth c X L st h cc ss
  unfold a_vret
  split
  · next e1 e2 =>
    intro Q hQ ls H locs hL hz hR hl
    obtain ⟨Qc, free, rfl, hfree, hq⟩ := hQ
    refine W.widen (Nat.le_of_ble_eq_true e1) (Nat.le_of_ble_eq_true e2) ?_
    exact W.vret X.1 X.2.1 (X.2.2.2.2.2.1.trans hrt) (fun t ht _ => hq t (by rw [ht]; exact hR)) (fun q hm => hfree _ (hl q hm)) hd X.2.2.2.2.2.2.1
  · trivial
def a_obj (n : Nat) : mA := fun L st h c s => match st with
  | .ref _ :: r => match Nat.ble (r.map fun v => v.category).sum 8 with
    | true => oN n L r h c s
    | false => none
  | _ => none
theorem snd_obj {j pc n ix : Nat} (hw1 : Cond.methodLink (mNm j).cls ix Lib.objectInit ∈ mWt) (hw2 : Cond.instanceMethod Lib.objectInit ∈ mWt) (hw3 : Cond.code Lib.objectInit ⟨#[0xb1]⟩ 1 none ∈ mWt) (hfr : 1 ≤ (mRm j).frames) (hlo : 20 ≤ (mRm j).locals) (hd : decode (mBc j) pc = .ok (.invokespecial ix, 3)) (hn : n = pc + 3) : mSnd j pc (a_obj n) := by
  subst hn
  intro G l p e s m args below meth c X L st h cc ss
  unfold a_obj
  split
  · next a r =>
    split
    · next e1 =>
      intro Q kk ls H locs hL hz hR hl
      have hb := Nat.le_of_ble_eq_true e1
      refine W.objInit X.1 X.2.1 X.2.2.2.1 (X.2.2.2.2.1 _ hw1) (X.2.2.2.2.1 _ hw2) (X.2.2.2.2.1 _ hw3) rfl (by rw [X.2.2.1]; exact hz) rfl hd hfr ?_ (kk ls H locs hL hz hR hl)
      show 2 * 0 + ((r.map (mTr G)).map fun v => v.category).sum + 12 ≤ _
      rw [mCat]
      omega
    · trivial
  · trivial
def mPop : Nat → List Value → List Value → Option (List Value × List Value)
  | 0, acc, st => some (acc, st)
  | n + 1, acc, v :: st => mPop n (v :: acc) st
  | _ + 1, _, [] => none
theorem mPop_spec : ∀ (n : Nat) (acc st as r : List Value), mPop n acc st = some (as, r) → ∃ bs, as = bs ++ acc ∧ bs.length = n ∧ st = bs.reverse ++ r
  | 0, acc, st, as, r, h => by
    simp only [mPop, Option.some.injEq, Prod.mk.injEq] at h
    exact ⟨[], by simp [h.1], rfl, by simp [h.2]⟩
  | n + 1, acc, [], as, r, h => by simp [mPop] at h
  | n + 1, acc, v :: st, as, r, h => by
    obtain ⟨bs, h1, h2, h3⟩ := mPop_spec n (v :: acc) st as r h
    exact ⟨bs ++ [v], by simp [h1], by simp [h2], by simp [h3]⟩
theorem mPop_0 {n : Nat} {st as r : List Value} (h : mPop n [] st = some (as, r)) : as.length = n ∧ st = as.reverse ++ r := by
  obtain ⟨bs, h1, h2, h3⟩ := mPop_spec n [] st as r h
  rw [List.append_nil] at h1
  subst h1
  exact ⟨h2, h3⟩
theorem mGdl {l : List Cond} (h : ∀ w ∈ l, w ∈ mWt) : GoodIn mWt l := fun w hw => ⟨h w hw, mWt_good (h w hw)⟩
theorem mGda {a b : List Cond} (ha : GoodIn mWt a) (hb : GoodIn mWt b) : GoodIn mWt (a ++ b) := fun w h => (List.mem_append.mp h).elim (ha w) (hb w)
theorem mBlind (G : mG) (as : List Value) (h : mH) : FrameBlind (va_Pc as (fun U => mRep G h U.heap ∧ mKF G U)) := fun a U g mk q => by
  obtain ⟨e1, e2, e3⟩ := q
  exact ⟨e1, e2, mKF.moved (U := U.calling g mk a) (State.WarmedH.refl U) e3⟩
/-- what holds of a callee at every call -/
def mCk (j k cm cs : Nat) : Prop := (mRm k).cells = cm ∧ (mRm k).slots = cs ∧ Cond.code (mNm k) (mBc k) (mMx k) (mRt k) ∈ mWt ∧ (mRm k).frames + 1 ≤ (mRm j).frames ∧ 8 + (mMx k + 11) + (mRm k).locals ≤ (mRm j).locals
theorem mGo {G : mG} {j : Nat} {l : Launch} {p : Program} {e : Env} {s : State} {m : MethodId} {args : Array Value} {below : List Frame} {meth : Method} {c : Code} {H : Heap} {locs : List Loc} {cells slots mc ms pc : Nat} {ls : Array Slot} {st0 rest st' : List Value} {r : Option Value} {h1 : mH} {L : mL} {Q : State → Prop} (hr : va_Run p l e (mRm j) s m args below meth c H locs cells slots mc ms (F0 m pc ls st0) rest (fun _ oc t => oc = .returned (r.map (mTr G)) ∧ mRep G h1 t.heap) (fun q => mBase G ≤ q)) (hrest : rest = st'.map (mTr G))
    (kk : mWM G j l p e s m args below meth c Q (pc + 3, L, r.toList ++ st', h1, cells + mc, slots + ms)) (hL : mLR G ls L) (hz : ls.size = mMx j) (hl : ∀ q ∈ locs, mBase G ≤ q.base) : W p l e (mRm j) s m args below meth c H locs cells slots Q (F0 m pc ls st0) := by
  intro T hT X
  obtain ⟨v, st₀, t, T', L1, h0, X', hL1, e1, e2, ⟨hv, hrep⟩, st⟩ := hr T hT X
  have hv : v = r.map (mTr G) := Outcome.returned.inj hv
  subst hv
  obtain ⟨t2, a1, b1⟩ := kk ls T'.heap (locs ++ L1) hL hz (by rw [e1]; exact hrep) (fun q hq => by
      rcases List.mem_append.mp hq with y | y
      · exact hl q y
      · exact hL1 q y) T' rfl X'
  refine ⟨t2, st t2 ?_, b1⟩
  have : (r.map (mTr G)).toList ++ rest = (r.toList ++ st').map (mTr G) := by
    rw [hrest]
    cases r <;> simp
  rw [this]
  exact a1
theorem mStk {G : mG} {st as r : List Value} (h : st = as.reverse ++ r) : st.map (mTr G) = (as.map (mTr G)).reverse ++ r.map (mTr G) := by
  rw [h]
  simp
theorem mRm8 {G : mG} {m : MethodId} {pc : Nat} {ls : Array Slot} {st r : List Value} (h : Nat.ble (r.map fun v => v.category).sum 8 = true) : 2 * (F0 m pc ls st).monitorRoom + ((r.map (mTr G)).map fun v => v.category).sum ≤ 8 := by
  rw [mCat]
  show 2 * 0 + _ ≤ 8
  have := Nat.le_of_ble_eq_true h
  omega
/-- the parameters of a method by its descriptor -/
def mPar (y : MethodName) : Option Nat := (parseMethodDescriptor y.desc).map (fun d => d.parameters.length)
def a_invS (n k na mc ms cm cs : Nat) : mA := fun L st h c s => match mPop na [] st with
  | some (as, r) => match Nat.ble (c + cm) mc, Nat.ble (s + cs) ms, Nat.ble (r.map fun v => v.category).sum 8 with
    | true, true, true => oC k as n L r (c + cm) (s + cs)
    | _, _, _ => none
  | none => none
theorem snd_invS {j pc n k na mc ms cm cs ix : Nat} (hk : mCk j k cm cs) (hmc : (mRm j).cells = mc) (hms : (mRm j).slots = ms) (hw1 : Cond.methodLink (mNm j).cls ix (mNm k) ∈ mWt) (hw2 : Cond.static (mNm k) ∈ mWt) (hw3 : Cond.initialized (mNm k).cls ∈ mWt) (hp : (mNm k).cls ≠ "java/lang/invoke/MethodHandle" ∧ (mNm k).cls ≠ "java/lang/invoke/VarHandle" ∧ mPar (mNm k) = some na) (hd : decode (mBc j) pc = .ok (.invokestatic ix, 3)) (hn : n = pc + 3) : mSnd j pc (a_invS n k na mc ms cm cs) := by
  subst hn; subst hmc; subst hms
  intro G l p e s m args below meth c X L st h cc ss
  unfold a_invS
  split
  · next as r e0 =>
    split
    · next e1 e2 e3 =>
      intro Q r1 h1 hM kk ls H locs hL hz hR hl
      obtain ⟨hln, hst⟩ := mPop_0 e0
      obtain ⟨k1, k2, k3, k4, k5⟩ := hk
      have hK := X.2.2.2.2.2.2.2.2
      refine mGo (va_runS (As := as.map (mTr G)) (rest := r.map (mTr G)) (n := na) (nL := mMx j) (g := F0 m pc ls (st.map (mTr G))) ⟨X.1, X.2.1, X.2.2.1, X.2.2.2.1, X.2.2.2.2.1⟩ hM (va_cwS na X.2.2.2.2.1 (mGda (mGdl (fun w hw => ?_)) (mGood k3)) rfl rfl rfl hp ⟨k4, k5⟩) ⟨mBlind G _ h, fun U hU hW => ⟨rfl, by rw [hU]; exact hR, mKF.moved hW hK⟩⟩ rfl (by rw [List.length_map]; exact hln) hz (mStk hst) (mRm8 e3) hd ⟨by rw [k1]; exact Nat.le_of_ble_eq_true e1, by rw [k2]; exact Nat.le_of_ble_eq_true e2⟩) rfl ?_ hL hz hl
      · simp only [List.mem_cons, List.not_mem_nil, or_false] at hw
        rcases hw with rfl | rfl | rfl
        · exact hw1
        · exact hw2
        · exact hw3
      · rw [k1, k2]; exact kk
    · trivial
  · trivial
theorem snd_invSN {j pc n k na mc ms cm cs ix : Nat} {host : String} (hk : mCk j k cm cs) (hmc : (mRm j).cells = mc) (hms : (mRm j).slots = ms) (hw1 : Cond.methodLinkNest (mNm j).cls ix (mNm k) host ∈ mNw) (hw2 : Cond.static (mNm k) ∈ mWt) (hw3 : Cond.initialized (mNm k).cls ∈ mWt) (hp : (mNm k).cls ≠ "java/lang/invoke/MethodHandle" ∧ (mNm k).cls ≠ "java/lang/invoke/VarHandle" ∧ mPar (mNm k) = some na) (hd : decode (mBc j) pc = .ok (.invokestatic ix, 3)) (hn : n = pc + 3) : mSnd j pc (a_invS n k na mc ms cm cs) := by
  subst hn; subst hmc; subst hms
  intro G l p e s m args below meth c X L st h cc ss
  unfold a_invS
  split
  · next as r e0 =>
    split
    · next e1 e2 e3 =>
      intro Q r1 h1 hM kk ls H locs hL hz hR hl
      obtain ⟨hln, hst⟩ := mPop_0 e0
      obtain ⟨k1, k2, k3, k4, k5⟩ := hk
      have hK := X.2.2.2.2.2.2.2.2
      refine mGo (va_runSN (As := as.map (mTr G)) (rest := r.map (mTr G)) (n := na) (nL := mMx j) (g := F0 m pc ls (st.map (mTr G))) ⟨X.1, X.2.1, X.2.2.1, X.2.2.2.1, X.2.2.2.2.1⟩ hM ⟨va_cnB na X.2.2.2.2.1 (mGood k3) rfl rfl rfl (hK.2.1 _ hw1) (X.2.2.2.2.1 _ hw3) hp ⟨k4, k5⟩, X.2.2.2.2.1 _ hw2, trivial⟩ ⟨mBlind G _ h, fun U hU hW => ⟨rfl, by rw [hU]; exact hR, mKF.moved hW hK⟩⟩ rfl (by rw [List.length_map]; exact hln) hz (mStk hst) (mRm8 e3) hd ⟨by rw [k1]; exact Nat.le_of_ble_eq_true e1, by rw [k2]; exact Nat.le_of_ble_eq_true e2⟩) rfl ?_ hL hz hl
      rw [k1, k2]; exact kk
    · trivial
  · trivial
def a_invI (n k na mc ms cm cs : Nat) : mA := fun L st h c s => match mPop na [] st with
  | some (as, .ref a :: r) => match Nat.ble (c + cm) mc, Nat.ble (s + cs) ms, Nat.ble (r.map fun v => v.category).sum 8 with
    | true, true, true => oC k (.ref a :: as) n L r (c + cm) (s + cs)
    | _, _, _ => none
  | _ => none
theorem mStkR {G : mG} {st as r : List Value} {a : Nat} (h : st = as.reverse ++ .ref a :: r) : st.map (mTr G) = (as.map (mTr G)).reverse ++ .ref (mAd G a) :: r.map (mTr G) := by
  rw [h]
  simp [mTr]
theorem snd_invI {j pc n k na mc ms cm cs ix : Nat} (hk : mCk j k cm cs) (hrt : mRt k = none) (hnm : (mNm k).name = "<init>") (hmc : (mRm j).cells = mc) (hms : (mRm j).slots = ms) (hw1 : Cond.methodLink (mNm j).cls ix (mNm k) ∈ mWt) (hw2 : Cond.instanceMethod (mNm k) ∈ mWt) (hw3 : Cond.initialized (mNm k).cls ∈ mWt) (hp : (mNm k).cls ≠ "java/lang/invoke/MethodHandle" ∧ (mNm k).cls ≠ "java/lang/invoke/VarHandle" ∧ mPar (mNm k) = some na) (hd : decode (mBc j) pc = .ok (.invokespecial ix, 3)) (hn : n = pc + 3) : mSnd j pc (a_invI n k na mc ms cm cs) := by
  subst hn; subst hmc; subst hms
  intro G l p e s m args below meth c X L st h cc ss
  unfold a_invI
  split
  · next as a r e0 =>
    split
    · next e1 e2 e3 =>
      intro Q r1 h1 hM kk ls H locs hL hz hR hl
      obtain ⟨hln, hst⟩ := mPop_0 e0
      obtain ⟨k1, k2, k3, k4, k5⟩ := hk
      have hK := X.2.2.2.2.2.2.2.2
      refine mGo (va_runI (b := mAd G a) (As := as.map (mTr G)) (rest := r.map (mTr G)) (n := na) (nL := mMx j) (g := F0 m pc ls (st.map (mTr G))) ⟨X.1, X.2.1, X.2.2.1, X.2.2.2.1, X.2.2.2.2.1⟩ hM (cwI na X.2.2.2.2.1 (mGood k3) (by rw [← hrt]; rfl) rfl rfl (X.2.2.2.2.1 _ hw3) (X.2.2.2.2.1 _ hw1) (X.2.2.2.2.1 _ hw2) hnm hp ⟨k4, k5⟩) ⟨mBlind G _ h, fun U hU hW => ⟨rfl, by rw [hU]; exact hR, mKF.moved hW hK⟩⟩ rfl (by rw [List.length_map]; exact hln) hz (mStkR hst) (mRm8 e3) hd ⟨by rw [k1]; exact Nat.le_of_ble_eq_true e1, by rw [k2]; exact Nat.le_of_ble_eq_true e2⟩) rfl ?_ hL hz hl
      rw [k1, k2]; exact kk
    · trivial
  · trivial
/-- a receiver's class selects the method: class, method, its cells and slots -/
def mSel : List (Nat × Nat × Nat × Nat) → Nat → Option (Nat × Nat × Nat)
  | [], _ => none
  | (q, x) :: r, ci => match Nat.beq q ci with
    | true => some x
    | false => mSel r ci
theorem mSel_all {P : Nat → Nat → Nat → Nat → Prop} : ∀ (sel : List (Nat × Nat × Nat × Nat)), (∀ e ∈ sel, P e.1 e.2.1 e.2.2.1 e.2.2.2) → ∀ ci k cm cs, mSel sel ci = some (k, cm, cs) → P ci k cm cs
  | [], _, _, _, _, _, h => by simp [mSel] at h
  | (q, x) :: r, ha, ci, k, cm, cs, h => by
    unfold mSel at h
    split at h
    · next e1 =>
      have := ha (q, x) List.mem_cons_self
      rw [Nat.eq_of_beq_eq_true e1] at this
      simp only [Option.some.injEq] at h
      subst h
      exact this
    · exact mSel_all r (fun e he => ha e (List.mem_cons_of_mem _ he)) ci k cm cs h
def a_invV (n na mc ms : Nat) (sel : List (Nat × Nat × Nat × Nat)) : mA := fun L st h c s => match mPop na [] st with
  | some (as, .ref a :: r) => match h[a]? with
    | some (.inr (ci, _)) => match mSel sel ci with
      | some (k, cm, cs) => match Nat.ble (c + cm) mc, Nat.ble (s + cs) ms, Nat.ble (r.map fun v => v.category).sum 8 with
        | true, true, true => oC k (.ref a :: as) n L r (c + cm) (s + cs)
        | _, _, _ => none
      | none => none
    | _ => none
  | _ => none
theorem mRecv {G : mG} {s : State} {h : mH} {H : Heap} (hK : mKF G s) (hR : mRep G h H) {a ci : Nat} {fs : List Value} {q : vw_C} (he : h[a]? = some (.inr (ci, fs))) (hq : vwCl[ci]? = some q) : ∃ cellB : Cell, H[mAd G a]? = some cellB ∧ cellB.vm.isStatics = false ∧ s.vm.findClass q.1 = some cellB.cls := by
  obtain ⟨-, r, hr, cell, g1, g2, g3, -⟩ := mRep.obj hK hR he
  exact ⟨cell, g1, by rw [g3]; rfl, by rw [g2]; exact (hK.1.1 ci q hq).2.1⟩
/-- a method of the receiver's own class -/
def mVv (j ix na ci k cm cs : Nat) : Prop := mCk j k cm cs ∧ ∃ q : vw_C, vwCl[ci]? = some q ∧ Cond.methodLink (mNm j).cls ix (mNm k) ∈ mWt ∧ Cond.instanceMethod (mNm k) ∈ mWt ∧ Cond.selects q.1 (mNm k) (mNm k) ∈ mWt ∧ Cond.initialized q.1 ∈ mWt ∧ ((mNm k).cls = q.1 ∧ (mNm k).cls ≠ "java/lang/invoke/MethodHandle" ∧ (mNm k).cls ≠ "java/lang/invoke/VarHandle" ∧ mPar (mNm k) = some na)
/-- a method that is inherited or overridden -/
def mVo (j ix na ci k cm cs : Nat) (x : MethodName) (owner : String) : Prop := mCk j k cm cs ∧ ∃ q : vw_C, vwCl[ci]? = some q ∧ Cond.methodLink (mNm j).cls ix x ∈ mWt ∧ Cond.sameMethod x.cls owner x.name x.desc ∈ mWt ∧ Cond.instanceMethod ⟨owner, x.name, x.desc⟩ ∈ mWt ∧ Cond.selects q.1 x (mNm k) ∈ mWt ∧ Cond.instanceMethod (mNm k) ∈ mWt ∧ Cond.initialized (mNm k).cls ∈ mWt ∧ (∃ (b0 : ByteArray) (m0 : Nat) (r0 : Option FieldType), Cond.code ⟨owner, x.name, x.desc⟩ b0 m0 r0 ∈ mWt) ∧ (owner ≠ "java/lang/invoke/MethodHandle" ∧ owner ≠ "java/lang/invoke/VarHandle" ∧ mPar x = some na)
theorem snd_invV {j pc n na mc ms ix : Nat} {sel : List (Nat × Nat × Nat × Nat)} (hs : ∀ e ∈ sel, mVv j ix na e.1 e.2.1 e.2.2.1 e.2.2.2 ∨ ∃ x owner, mVo j ix na e.1 e.2.1 e.2.2.1 e.2.2.2 x owner) (hmc : (mRm j).cells = mc) (hms : (mRm j).slots = ms) (hd : decode (mBc j) pc = .ok (.invokevirtual ix, 3)) (hn : n = pc + 3) : mSnd j pc (a_invV n na mc ms sel) := by
  subst hn; subst hmc; subst hms
  intro G l p e s m args below meth c X L st h cc ss
  unfold a_invV
  split
  · next as a r e0 =>
    split
    · next ci fs e4 =>
      split
      · next k cm cs e5 =>
        split
        · next e1 e2 e3 =>
          intro Q r1 h1 hM kk ls H locs hL hz hR hl
          obtain ⟨hln, hst⟩ := mPop_0 e0
          have hK := X.2.2.2.2.2.2.2.2
          rcases mSel_all (P := fun ci k cm cs => mVv j ix na ci k cm cs ∨ ∃ x owner, mVo j ix na ci k cm cs x owner) sel hs ci k cm cs e5 with ⟨⟨k1, k2, k3, k4, k5⟩, q, q1, w1, w2, w3, w4, w5⟩ | ⟨x, owner, ⟨k1, k2, k3, k4, k5⟩, q, q1, w1, w2, w3, w4, w5, w6, ⟨b0, m0, r0, w7⟩, w8⟩
          · refine mGo (va_runV (C := q.1) (b := mAd G a) (As := as.map (mTr G)) (rest := r.map (mTr G)) (n := na) (nL := mMx j) (g := F0 m pc ls (st.map (mTr G))) ⟨X.1, X.2.1, X.2.2.1, X.2.2.2.1, X.2.2.2.2.1⟩ hM (cwV na X.2.2.2.2.1 (mGda (mGdl (fun w hw => ?_)) (mGood k3)) rfl rfl rfl w5 ⟨k4, k5⟩) ⟨mBlind G _ h, mRecv hK hR e4 q1, fun U hU hW => ⟨rfl, by rw [hU]; exact hR, mKF.moved hW hK⟩⟩ rfl (by rw [List.length_map]; exact hln) hz (mStkR hst) (mRm8 e3) hd ⟨by rw [k1]; exact Nat.le_of_ble_eq_true e1, by rw [k2]; exact Nat.le_of_ble_eq_true e2⟩) rfl ?_ hL hz hl
            · simp only [List.mem_cons, List.not_mem_nil, or_false] at hw
              rcases hw with rfl | rfl | rfl | rfl
              · exact w1
              · exact w2
              · exact w3
              · exact w4
            · rw [k1, k2]; exact kk
          · refine mGo (va_runU (C := q.1) (owner := owner) (x := x) (b := mAd G a) (As := as.map (mTr G)) (rest := r.map (mTr G)) (n := na) (nL := mMx j) (g := F0 m pc ls (st.map (mTr G))) ⟨X.1, X.2.1, X.2.2.1, X.2.2.2.1, X.2.2.2.2.1⟩ hM (va_cwO na X.2.2.2.2.1 (mGda (mGdl (fun w hw => ?_)) (mGood k3)) rfl rfl rfl w7 w8 ⟨k4, k5⟩) ⟨mBlind G _ h, mRecv hK hR e4 q1, fun U hU hW => ⟨rfl, by rw [hU]; exact hR, mKF.moved hW hK⟩⟩ rfl (by rw [List.length_map]; exact hln) hz (mStkR hst) (mRm8 e3) hd ⟨by rw [k1]; exact Nat.le_of_ble_eq_true e1, by rw [k2]; exact Nat.le_of_ble_eq_true e2⟩) rfl ?_ hL hz hl
            · simp only [List.mem_cons, List.not_mem_nil, or_false] at hw
              rcases hw with rfl | rfl | rfl | rfl | rfl | rfl
              · exact w1
              · exact w2
              · exact w3
              · exact w4
              · exact w5
              · exact w6
            · rw [k1, k2]; exact kk
        · trivial
      · trivial
    · trivial
  · trivial
/-- super.method -/
def mVu (j ix na ci k cm cs : Nat) : Prop := mCk j k cm cs ∧ ∃ q : vw_C, vwCl[ci]? = some q ∧ Cond.methodLink (mNm j).cls ix (mNm k) ∈ mWt ∧ Cond.sameMethod (mNm k).cls (mNm k).cls (mNm k).name (mNm k).desc ∈ mWt ∧ Cond.superclass (mNm j).cls (mNm k).cls ∈ mWt ∧ Cond.instanceMethod (mNm k) ∈ mWt ∧ Cond.initialized (mNm k).cls ∈ mWt ∧ ((mNm k).name ≠ "<init>" ∧ mPar (mNm k) = some na)
theorem snd_invU {j pc n na mc ms ix : Nat} {sel : List (Nat × Nat × Nat × Nat)} (hs : ∀ e ∈ sel, mVu j ix na e.1 e.2.1 e.2.2.1 e.2.2.2) (hmc : (mRm j).cells = mc) (hms : (mRm j).slots = ms) (hd : decode (mBc j) pc = .ok (.invokespecial ix, 3)) (hn : n = pc + 3) : mSnd j pc (a_invV n na mc ms sel) := by
  subst hn; subst hmc; subst hms
  intro G l p e s m args below meth c X L st h cc ss
  unfold a_invV
  split
  · next as a r e0 =>
    split
    · next ci fs e4 =>
      split
      · next k cm cs e5 =>
        split
        · next e1 e2 e3 =>
          intro Q r1 h1 hM kk ls H locs hL hz hR hl
          obtain ⟨hln, hst⟩ := mPop_0 e0
          have hK := X.2.2.2.2.2.2.2.2
          obtain ⟨⟨k1, k2, k3, k4, k5⟩, q, q1, w1, w2, w3, w4, w5, w6⟩ := mSel_all (P := fun ci k cm cs => mVu j ix na ci k cm cs) sel hs ci k cm cs e5
          refine mGo (va_runSU (C := q.1) (b := mAd G a) (As := as.map (mTr G)) (rest := r.map (mTr G)) (n := na) (nL := mMx j) (g := F0 m pc ls (st.map (mTr G))) (hK.1.1 ci q q1).2 ⟨X.1, X.2.1, X.2.2.1, X.2.2.2.1, X.2.2.2.2.1⟩ hM (va_cwSU na X.2.2.2.2.1 (mGda (mGdl (fun w hw => ?_)) (mGood k3)) rfl rfl rfl w6 ⟨k4, k5⟩) ⟨mBlind G _ h, mRecv hK hR e4 q1, fun U hU hW => ⟨rfl, by rw [hU]; exact hR, mKF.moved hW hK⟩⟩ rfl (by rw [List.length_map]; exact hln) hz (mStkR hst) (mRm8 e3) hd ⟨by rw [k1]; exact Nat.le_of_ble_eq_true e1, by rw [k2]; exact Nat.le_of_ble_eq_true e2⟩) rfl ?_ hL hz hl
          · simp only [List.mem_cons, List.not_mem_nil, or_false] at hw
            rcases hw with rfl | rfl | rfl | rfl | rfl
            · exact w1
            · exact w2
            · exact w3
            · exact w4
            · exact w5
          · rw [k1, k2]; exact kk
        · trivial
      · trivial
    · trivial
  · trivial
