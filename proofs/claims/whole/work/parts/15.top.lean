/-! THE CLAIM OUT OF ONE WALK OF THE LAW'S BODY. Your part is whole_start (and what it stands on); all else here is the same for every law, but numbers. -/
def R_law : String := "JointWorksLaw"
def lw_P (b : Addr) (xs : List Int32) (args : Array Value) (s : State) : Prop := args = #[.ref b] ∧ s.IntsAt b xs ∧ xs.length ≤ 3072 ∧ (Jvm.Cond.and given_1 narrow_1).before args s = true
def lw_Q (_ : Array Value) (s : State) (o : Outcome) (t : State) : Prop := o = .returned (some (.int 1)) ∧ Framed s o t [] 600000 7302250
def lw_Z (below : List Frame) (a : Array Value) (s : State) : State → Prop := fun t => ∃ o, t.status = .running ∧ Ended t below o ∧ lw_Q a s o t
/-- the law's own end, with 1 on the stack, nothing written that was there before, its room as the claim has it -/
theorem lw_ret {p : Program} {l : Launch} {e : Env} {s : State} {m : MethodId} {below : List Frame} {meth : Method} {c : Code} {b : Nat} (hx : p.tables.exec = Jvm.exec) (hb : c.code = code) (hr : meth.sig.returnType = ret) (hlocks : meth.locks = false) {pc : Nat} {H : Heap} {ls : Array Slot} (hdg : decode code pc = .ok (.ireturn, 1)) : W p l e room_1 s m #[Value.ref b] below meth c H [] 600000 7302250 (lw_Z below #[Value.ref b] s) (F0 m pc ls [.int 1]) := by
  intro T hT X
  obtain ⟨fs, hret, hrun, hended, hW, hframe⟩ := X.leave (v := some (.int 1)) (hlocks := hlocks) (fun h => by rw [hr] at h; cases h)
  have hmeth' : T.vm.method? m = some meth := X.method'
  refine ⟨T.setFrames fs, ?_, .returned (some (.int 1)), hrun, hended, rfl, ⟨_, rfl⟩, hW, hframe⟩
  jvm_step X.here [X.here.top, hx, hb, hdg, hmeth', hr, ret, narrow_b1]
  (try refine ⟨rfl, ?_⟩); (try refine ⟨rfl, ?_⟩)
  first | (intro acts; rw [hret _ acts rfl rfl rfl]) | rw [hret _ _ rfl rfl rfl]
  exact Steps.refl _
/-- what holds at the law's entry: the machine, the code, the tables' words (any of lw_tbl by 'hts w (by decide +kernel)'), the script of L ints xs at the cell b, what the Statement gives of the start (any of its parts by flat_of_before) -/
def lw_At (p : Program) (s : State) (m : MethodId) (meth : Method) (c : Code) (b L : Nat) (xs : Nat → Int32) : Prop :=
  p.tables.exec = Jvm.exec ∧ c.code = code ∧ meth.sig.returnType = ret ∧ c.maxLocals = 4 ∧ s.vm.findClass R_law = some m.cls ∧ (∀ w ∈ lw_tbl, w.before #[Value.ref b] s = true) ∧ va_X b L xs s s.heap ∧ b < s.heap.size ∧ meth.locks = false ∧ (Jvm.Cond.and given_1 narrow_1).before #[Value.ref b] s = true
/-! ===== from a run of the small machine to the law itself ===== -/
def leanL1 : List Int64 := []
def leanL2 : List Int64 := [5670]
def leanL3 : List Int64 := [1451590, 13894, 9814, 5734, 3363683]
def leanL4 : List Int64 := [371607174, 3556998, 2512518, 1468038, 861102982, 30342, 2508438, 26262, 1459878, 22182, 860263331, 1131647907, 18102, 1399030707, 1451718, 14022, 643011523, 594777027, 375628739, 326345667, 1955766978, 592688067, 325301187, 1382200514, 7582659, 9942, 862159827, 860070867, 325297107, 845325012, 7578579, 6534099, 5862, 861111267, 860066787, 592679907, 844272356, 7574499, 5485539, 3396579, 1924322018]
def leanF (l : List Int64) (j : Nat) : Int64 := l.getD j 0
def mH0 (L : Nat) (xs : Nat → Int32) : mH := [.inl (0, L, .inl xs), .inl (1, 0, .inr (.inl (leanF leanL1))), .inl (1, 1, .inr (.inl (leanF leanL2))), .inl (1, 5, .inr (.inl (leanF leanL3))), .inl (1, 41, .inr (.inl (leanF leanL4)))]
theorem leanT1 {args : Array Value} {s : State} {A : Nat → Prop} (hgv : (Jvm.Cond.and given_1 narrow_1).before args s = true) (hA : ∀ a : Nat, a < s.heap.size → ¬ A a) : ∃ t : Nat, (Term.static "JointWorks" "LEAN_OF_ONE" "[J").eval args s none [] s = some (.ref t) ∧ va_T .long t 0 (fun j => .long (leanF leanL1 j)) A s s.heap := by
  have hs := flat_of_before _ hgv
  refine va_Tof (by decide) (hs _ (by decide +kernel)) (va_eqt (hs _ (by decide +kernel))) (fun j hj => va_eqtl (hs _ ?_)) hA
  revert j
  decide +kernel
theorem leanT2 {args : Array Value} {s : State} {A : Nat → Prop} (hgv : (Jvm.Cond.and given_1 narrow_1).before args s = true) (hA : ∀ a : Nat, a < s.heap.size → ¬ A a) : ∃ t : Nat, (Term.static "JointWorks" "LEAN_OF_TWO" "[J").eval args s none [] s = some (.ref t) ∧ va_T .long t 1 (fun j => .long (leanF leanL2 j)) A s s.heap := by
  have hs := flat_of_before _ hgv
  refine va_Tof (by decide) (hs _ (by decide +kernel)) (va_eqt (hs _ (by decide +kernel))) (fun j hj => va_eqtl (hs _ ?_)) hA
  revert j
  decide +kernel
theorem leanT3 {args : Array Value} {s : State} {A : Nat → Prop} (hgv : (Jvm.Cond.and given_1 narrow_1).before args s = true) (hA : ∀ a : Nat, a < s.heap.size → ¬ A a) : ∃ t : Nat, (Term.static "JointWorks" "LEAN_OF_THREE" "[J").eval args s none [] s = some (.ref t) ∧ va_T .long t 5 (fun j => .long (leanF leanL3 j)) A s s.heap := by
  have hs := flat_of_before _ hgv
  refine va_Tof (by decide) (hs _ (by decide +kernel)) (va_eqt (hs _ (by decide +kernel))) (fun j hj => va_eqtl (hs _ ?_)) hA
  revert j
  decide +kernel
theorem leanT4 {args : Array Value} {s : State} {A : Nat → Prop} (hgv : (Jvm.Cond.and given_1 narrow_1).before args s = true) (hA : ∀ a : Nat, a < s.heap.size → ¬ A a) : ∃ t : Nat, (Term.static "JointWorks" "LEAN_OF_FOUR" "[J").eval args s none [] s = some (.ref t) ∧ va_T .long t 41 (fun j => .long (leanF leanL4 j)) A s s.heap := by
  have hs := flat_of_before _ hgv
  refine va_Tof (by decide) (hs _ (by decide +kernel)) (va_eqt (hs _ (by decide +kernel))) (fun j hj => va_eqtl (hs _ ?_)) hA
  revert j
  decide +kernel
theorem plainAll : ∀ j : Nat, plainFor (mNm j) = true := by
  have h : ∀ j, j < 222 → plainFor (mNm j) = true := by decide +kernel
  intro j
  rcases Nat.lt_or_ge j 222 with q | q
  · exact h j q
  · have hb : ∀ k, k ≤ 221 → Nat.blt j k = false := fun k hk => by
      cases hb : Nat.blt j k with
      | false => rfl
      | true => exact absurd (Nat.lt_of_succ_le (Nat.le_of_ble_eq_true hb)) (by omega)
    have : mRw j = mRow_221 := by
      unfold mRw
      simp only [hb 111 (by decide), hb 166 (by decide), hb 194 (by decide), hb 208 (by decide), hb 215 (by decide), hb 218 (by decide), hb 220 (by decide), hb 221 (by decide), cond_false]
    show plainFor (mRw j).1 = true
    rw [this]
    decide +kernel
theorem mTop (hrun : ∀ (L : Nat) (xs : Nat → Int32), L ≤ 3072 → mWp mCd 221 (0, [some (.ref 0), none, none, none], [], mH0 L xs, 0, 0) (fun r _ => r = some (.int 1)))
    {p : Program} {e : Env} {s : State} {m : MethodId} {below : List Frame} {meth : Method} {c : Code} (l : Launch) {b L : Nat} {xs : Nat → Int32} (hL : L ≤ 3072) (C0 : lw_At p s m meth c b L xs) (hnm : meth.name = "law") : W p l e room_1 s m #[Value.ref b] below meth c s.heap [] 0 0 (lw_Z below #[Value.ref b] s) (entryFrame m ([Value.ref b] : List Value).toArray 4) := by
  obtain ⟨hx, hb, hr, hml, hown, hts, hX, hbl, hlocks, hgv⟩ := C0
  have hW : ∀ w ∈ mWt, w.before #[Value.ref b] s = true := fun w hw => mPrivX_hts hts w (mWt_tbl hw)
  obtain ⟨c0, iS0, hKn0⟩ := u_known (C := RX0) (T := TX0) (N := 7) (n := 7) hW mIn0 (hW (.instantiable RX0 7) (by decide +kernel))
  obtain ⟨c1, iS1, hKn1⟩ := u_known (C := RX1) (T := TX1) (N := 6) (n := 6) hW mIn1 (hW (.instantiable RX1 6) (by decide +kernel))
  obtain ⟨c2, iS2, hKn2⟩ := u_known (C := RX2) (T := TX2) (N := 6) (n := 6) hW mIn2 (hW (.instantiable RX2 6) (by decide +kernel))
  obtain ⟨c3, iS3, hKn3⟩ := u_known (C := RX3) (T := TX3) (N := 2) (n := 2) hW mIn3 (hW (.instantiable RX3 2) (by decide +kernel))
  obtain ⟨c4, iS4, hKn4⟩ := u_known (C := RX4) (T := TX4) (N := 6) (n := 6) hW mIn4 (hW (.instantiable RX4 6) (by decide +kernel))
  obtain ⟨c5, iS5, hKn5⟩ := u_known (C := RX5) (T := TX5) (N := 2) (n := 2) hW mIn5 (hW (.instantiable RX5 2) (by decide +kernel))
  obtain ⟨c6, iS6, hKn6⟩ := u_known (C := RX6) (T := TX6) (N := 6) (n := 6) hW mIn6 (hW (.instantiable RX6 6) (by decide +kernel))
  obtain ⟨c7, iS7, hKn7⟩ := u_known (C := RX7) (T := TX7) (N := 2) (n := 2) hW mIn7 (hW (.instantiable RX7 2) (by decide +kernel))
  obtain ⟨c8, iS8, hKn8⟩ := u_known (C := RX8) (T := TX8) (N := 6) (n := 6) hW mIn8 (hW (.instantiable RX8 6) (by decide +kernel))
  obtain ⟨c9, iS9, hKn9⟩ := u_known (C := RX9) (T := TX9) (N := 6) (n := 6) hW mIn9 (hW (.instantiable RX9 6) (by decide +kernel))
  obtain ⟨c10, iS10, hKn10⟩ := u_known (C := RX10) (T := TX10) (N := 21) (n := 21) hW mIn10 (hW (.instantiable RX10 21) (by decide +kernel))
  obtain ⟨dC, dI, hKc⟩ : ∃ (dC : Nat → ClassId) (dI : Nat → Nat → Nat), ∀ (k : Nat) (q : vw_C), vwCl[k]? = some q → u_Kn s q.1 q.2.1 q.2.2 (dC k) (dI k) := by
    refine ⟨fun k => if k = 0 then c0 else if k = 1 then c1 else if k = 2 then c2 else if k = 3 then c3 else if k = 4 then c4 else if k = 5 then c5 else if k = 6 then c6 else if k = 7 then c7 else if k = 8 then c8 else if k = 9 then c9 else c10, fun k => if k = 0 then iS0 else if k = 1 then iS1 else if k = 2 then iS2 else if k = 3 then iS3 else if k = 4 then iS4 else if k = 5 then iS5 else if k = 6 then iS6 else if k = 7 then iS7 else if k = 8 then iS8 else if k = 9 then iS9 else iS10, ?_⟩
    intro k q hq
    match k, hq with
    | 0, hq => cases hq; exact hKn0
    | 1, hq => cases hq; exact hKn1
    | 2, hq => cases hq; exact hKn2
    | 3, hq => cases hq; exact hKn3
    | 4, hq => cases hq; exact hKn4
    | 5, hq => cases hq; exact hKn5
    | 6, hq => cases hq; exact hKn6
    | 7, hq => cases hq; exact hKn7
    | 8, hq => cases hq; exact hKn8
    | 9, hq => cases hq; exact hKn9
    | 10, hq => cases hq; exact hKn10
    | k + 11, hq => simp [vwCl] at hq
  obtain ⟨a0, k0, m0, f01, f02, f03⟩ := Cond.arrayClass_spec (hW (.arrayClass .int) (by decide +kernel))
  obtain ⟨a1, k1, m1, f11, f12, f13⟩ := Cond.arrayClass_spec (hW (.arrayClass .long) (by decide +kernel))
  have hAO2 := hts (.arrayOver (.object "JointWorks$Told")) (by decide +kernel)
  have hAO3 := hts (.arrayOver (.object "JointWorks$Sheet")) (by decide +kernel)
  obtain ⟨m2, a2, k2, f21, -, f22, f23, f24⟩ := Cond.arrayOver_spec hAO2
  obtain ⟨m3, a3, k3, f31, -, f32, f33, f34⟩ := Cond.arrayOver_spec hAO3
  have hA : ∀ a : Nat, a < s.heap.size → ¬ (fun q : Nat => s.heap.size ≤ q) a := fun a h => Nat.not_le.mpr h
  obtain ⟨t1, hv1, hT1⟩ := leanT1 hgv hA
  obtain ⟨t2, hv2, hT2⟩ := leanT2 hgv hA
  obtain ⟨t3, hv3, hT3⟩ := leanT3 hgv hA
  obtain ⟨t4, hv4, hT4⟩ := leanT4 hgv hA
  obtain ⟨G, hG⟩ : ∃ G : mG, G = ((dC, dI), (fun t => if t = 0 then a0 else if t = 1 then a1 else if t = 2 then a2 else a3), (fun k => if k = 0 then b else if k = 1 then t1 else if k = 2 then t2 else if k = 3 then t3 else t4), s.heap, mH0 L xs) := ⟨_, rfl⟩
  have hK : mKF G s := by
    subst hG
    refine ⟨⟨hKc, fun k q hk => ?_⟩, fun w hw => ?_, fun k hk => ?_, fun q hq => ?_, hAO2, hAO3⟩
    · match k, hk with
      | 0, hk => cases hk; exact ⟨fun n z => ⟨(fun k h => by cases h), k0, f02, m0, f03⟩, f01⟩
      | 1, hk => cases hk; exact ⟨fun n z => ⟨(fun k h => by cases h), k1, f12, m1, f13⟩, f11⟩
      | 2, hk => cases hk; exact ⟨fun n z => ⟨(fun k h => by cases h), k2, f22, m2, f23⟩, k2, m2, f22, f23, f21, f24⟩
      | 3, hk => cases hk; exact ⟨fun n z => ⟨(fun k h => by cases h), k3, f32, m3, f33⟩, k3, m3, f32, f33, f31, f34⟩
    · have hin : ∀ w ∈ mNw, w ∈ lw_tbl ∧ w.onTables = true := by decide +kernel
      exact va_Nw.of (hin w hw).2 (hts w (hin w hw).1)
    · have hT : ∀ {t N : Nat} {g : Nat → Int64}, va_T .long t N (fun j => .long (g j)) (fun q : Nat => s.heap.size ≤ q) s s.heap → t < s.heap.size ∧ mOld s s.heap t (.inl (1, N, .inr (.inl g))) := by
        intro t N g h
        obtain ⟨cell, y1, y2, y3, y4, y5, y6, y7⟩ := h
        exact ⟨Nat.not_le.mp y7, Or.inr rfl, ⟨cell, y1, y2, y3, ⟨y4, y5⟩, y6⟩, fun f z => by cases z⟩
      match k, hk with
      | 0, _ =>
        obtain ⟨scr, x1, x2, x3, x4, x5⟩ := hX
        exact ⟨hbl, _, rfl, Or.inl rfl, ⟨scr, x1, x2, x3, ⟨Nat.le_of_eq x4.symm, congrArg Nat.toInt32 x4⟩, x5⟩, fun f z => by cases z⟩
      | 1, _ => exact ⟨(hT hT1).1, _, rfl, (hT hT1).2⟩
      | 2, _ => exact ⟨(hT hT2).1, _, rfl, (hT hT2).2⟩
      | 3, _ => exact ⟨(hT hT3).1, _, rfl, (hT hT3).2⟩
      | 4, _ => exact ⟨(hT hT4).1, _, rfl, (hT hT4).2⟩
    · have hini := hts (.initialized "JointWorks") (by decide +kernel)
      simp only [mStc, List.mem_cons, List.not_mem_nil, or_false] at hq
      rcases hq with rfl | rfl | rfl | rfl
      · exact va_Zref (hts (.laysStatic "JointWorks" "LEAN_OF_ONE" "[J") (by decide +kernel)) hini hv1 hA
      · exact va_Zref (hts (.laysStatic "JointWorks" "LEAN_OF_TWO" "[J") (by decide +kernel)) hini hv2 hA
      · exact va_Zref (hts (.laysStatic "JointWorks" "LEAN_OF_THREE" "[J") (by decide +kernel)) hini hv3 hA
      · exact va_Zref (hts (.laysStatic "JointWorks" "LEAN_OF_FOUR" "[J") (by decide +kernel)) hini hv4 hA
  have hR : mRep G (mH0 L xs) s.heap := by
    subst hG
    refine ⟨fun q _ => rfl, rfl, fun k _ => rfl, Nat.le_refl 5, fun k e5 hk hke => ?_⟩
    have : k < 5 := (List.getElem?_eq_some_iff.mp hke).1
    omega
  have had : mAd G 0 = b := by
    subst hG
    rfl
  have hbase : mBase G = s.heap.size := by
    subst hG
    rfl
  have X : mFx G 221 p s m #[Value.ref b] meth c := ⟨hx, hb, hml, hown, hW, hr, hlocks, hnm, hK⟩
  obtain ⟨f, r, h', hlp, rfl⟩ := hrun L xs hL
  have hlp2 := mLp_mono (fun k as h r h' y => y (mMet G l) (mMet_of (G := G) (l := l) mSound plainAll)) f _ _ _ hlp
  have hw := mWalk (l := l) (e := e) (below := below) (mSound 221) X f _ _ _ hlp2 (MQ below (fun _ _ oc _ => oc = .returned (some (.int 1))) #[Value.ref b] s 600000 7302250 (fun q => mBase G ≤ q)) ⟨_, _, rfl, fun _ h => h, fun t ht => rfl⟩
  have hl := lv_entry ([.ref b]) (n := 4) (Nat.le_of_ble_eq_true rfl)
  rw [lg_entry_eq]
  generalize (lg_sl ([.ref b]) ++ List.replicate (4 - (lg_sl ([.ref b])).length) Slot.unset).toArray = ls at hl ⊢
  have hw2 := hw ls s.heap [] ⟨hl.2.1, fun i v hi => ?_⟩ hl.1 hR (fun q hq => by cases hq)
  · intro T hT Y
    obtain ⟨t, y1, o, y2, y3, y4, L1, y5, y6⟩ := hw2 T hT Y
    refine ⟨t, y1, o, y2, y3, y4, y5.1, y5.2.1, y5.2.2.weaken (fun q hq hlt => ?_) (Nat.le_refl _) (Nat.le_refl _)⟩
    have := y6 q hq
    rw [hbase] at this
    exact absurd hlt (Nat.not_lt.mpr this)
  · match i, hi with
    | 0, hi =>
      cases hi
      have := hl.2.2 (0, .ref b) List.mem_cons_self
      rw [show mTr G (.ref 0) = .ref b by show Value.ref (mAd G 0) = _; rw [had]]
      exact this
    | 1, hi => cases hi
    | 2, hi => cases hi
    | 3, hi => cases hi
    | i + 4, hi => simp at hi
