/-! ===== calls of the reference, its whole memory ===== -/

section IN
variable {h h' : mH} {Q : Option Value → mH → Prop} {i n c r N : Nat} {kd sz : Nat → Nat} {W : Nat → Nat → Int} {T : List Int} {f : Nat → Int64} {so : Nat → Int} {it : Nat → Nat} {im : Nat → Nat → Int} {a p s y k q u v : Int}
theorem Kr {K : List Nat} (hx : Eqx K h h') (hk : ∀ x, x ∈ K → x ∈ KRef) : Eqx KRef h h' := hx.mo hk
theorem RT.up (ht : RT h T) (h25 : h'[25]? = h[25]?) (h14 : ∀ v cor bA bB rw_ bo, h[14]? = some (oM v cor bA bB rw_ bo) → ∃ v' cor' bA' bB' rw', h'[14]? = some (oM v' cor' bA' bB' rw' bo)) : RT h' T := by
  obtain ⟨t1, tv, tc, ta, tb, tr, tf_, t2, t3, t4⟩ := ht
  obtain ⟨v', cor', bA', bB', rw', e⟩ := h14 _ _ _ _ _ _ t2
  exact ⟨t1, v', cor', bA', bB', rw', tf_, e, h25.trans t3, t4⟩
theorem RR.up (hp : RR h r f) (h23 : h'[23]? = h[23]?) (h14 : ∀ v cor bA bB rw_ bo, h[14]? = some (oM v cor bA bB rw_ bo) → ∃ v' cor' bA' bB' bo', h'[14]? = some (oM v' cor' bA' bB' rw_ bo')) : RR h' r f := by
  obtain ⟨p1, pv, pc, pa, pb, pbo, pg, p2, p3, p4⟩ := hp
  obtain ⟨v', cor', bA', bB', bo', e⟩ := h14 _ _ _ _ _ _ p2
  exact ⟨p1, v', cor', bA', bB', bo', pg, e, h23.trans p3, p4⟩
theorem RS.up {K : List Nat} (hs : RS h so it im) (hx : Eqx K h h') (h1 : 26 ∉ K) (h2 : 27 ∉ K) (h3 : 28 ∉ K) (h4 : 29 ∉ K) : RS h' so it im := by
  obtain ⟨s1, fs1, fi, sg, ga, s2, s3, s4, s5, s6⟩ := hs
  exact ⟨s1, fs1, fi, sg, ga, (hx.2 _ h1).trans s2, (hx.2 _ h2).trans s3, (hx.2 _ h3).trans s4, (hx.2 _ h4).trans s5, s6⟩
theorem RX.up {K : List Nat} (hx0 : RX h) (hx : Eqx K h h') (hk : ∀ x, x ∈ K → ¬ (18 ≤ x ∧ x ≤ 22) ∧ x ≠ 24) : RX h' := by
  obtain ⟨g0, fa, fu, wa, wb, pf, x1, x2, x3, x4, x5, x6⟩ := hx0
  have e : ∀ x, (18 ≤ x ∧ x ≤ 22) ∨ x = 24 → h'[x]? = h[x]? := fun x hh => hx.2 x (fun m => by have := hk x m; omega)
  exact ⟨g0, fa, fu, wa, wb, pf, (e _ (by omega)).trans x1, (e _ (by omega)).trans x2, (e _ (by omega)).trans x3, (e _ (by omega)).trans x4, (e _ (by omega)).trans x5, (e _ (by omega)).trans x6⟩
theorem RI.o (hr : RI h c kd sz W T r f so it im) : ∃ (cor : Int32) (bA bB : Int64) (rw_ bo : Int32), h[14]? = some (oM (iZ c) cor bA bB rw_ bo) := hr.1.o
theorem rmk {jj : Nat} {args : List Value} {e : Int ⊕ (Nat × Nat × (Nat → Int))} (hr : RI h c kd sz W T r f so it im) (hj : ∀ {Q : Option Value → mH → Prop}, mkQ h c kd sz W Q e → mCt mCd jj args h Q) (hq : ∀ h', RI h' (nC e c) (nK e c kd) (nS e c sz) (nW e c W) T r f so it im → Eqx KRef h h' → Q (some (.int (iZ (ansE e c)))) h') : mCt mCd jj args h Q := by
  obtain ⟨rv, rx, rt, rr, rs⟩ := hr
  have k4 : ∀ {h' : mH}, Eqx K4 h h' → oMs h h' → (RX h' ∧ RT h' T ∧ RR h' r f ∧ RS h' so it im) ∧ Eqx KRef h h' := fun {h'} hx ho => ⟨⟨rx.up hx (by decide), rt.up (hx.2 25 (by decide)) (fun v cor bA bB rw_ bo e => by
    obtain ⟨v', e'⟩ := ho v cor bA bB rw_ bo e
    exact ⟨v', cor, bA, bB, rw_, e'⟩), rr.up (hx.2 23 (by decide)) (fun v cor bA bB rw_ bo e => by
    obtain ⟨v', e'⟩ := ho v cor bA bB rw_ bo e
    exact ⟨v', cor, bA, bB, bo, e'⟩), rs.up hx (by decide) (by decide) (by decide) (by decide)⟩, hx.mo (by decide)⟩
  refine hj ?_
  rcases e with r' | ⟨kn, n, w⟩
  · intro h' hx ho hv
    obtain ⟨k, kx⟩ := k4 hx ho
    exact hq h' ⟨hv, k⟩ kx
  · intro h' hx ho hv
    obtain ⟨k, kx⟩ := k4 hx ho
    exact hq h' ⟨hv, k⟩ kx
theorem RI.ask (hr : RI h c kd sz W T r f so it im) (ha : AskS h h') : RI h' c kd sz W T r f so it im ∧ Eqx KRef h h' := by
  obtain ⟨rv, rx, rt, rr, rs⟩ := hr
  refine ⟨⟨ha.rv rv, ha.2.1, rt.up (ha.1.2 25 (by decide)) (fun v cor bA bB rw_ bo e => ?_), rr.up (ha.1.2 23 (by decide)) (fun v cor bA bB rw_ bo e => ?_), rs.up ha.1 (by decide) (by decide) (by decide) (by decide)⟩, ha.1.mo (by decide)⟩
  · obtain ⟨c', b1, b2, e'⟩ := ha.2.2 v cor bA bB rw_ bo e
    exact ⟨v, c', b1, b2, rw_, e'⟩
  · obtain ⟨c', b1, b2, e'⟩ := ha.2.2 v cor bA bB rw_ bo e
    exact ⟨v, c', b1, b2, bo, e'⟩
theorem rask {jj : Nat} {args : List Value} {x : Value} (hr : RI h c kd sz W T r f so it im) (hj : ∀ {Q : Option Value → mH → Prop}, RV h c kd sz W → RX h → (∀ h', AskS h h' → Q (some x) h') → mCt mCd jj args h Q) (hq : ∀ h', RI h' c kd sz W T r f so it im → Eqx KRef h h' → Q (some x) h') : mCt mCd jj args h Q := by
  refine hj hr.1 hr.2.1 (fun h' ha => ?_)
  obtain ⟨h1, h2⟩ := hr.ask ha
  exact hq h' h1 h2
theorem rread {jj : Nat} {args : List Value} {x : Value} (hr : RI h c kd sz W T r f so it im) (hj : ∀ {Q : Option Value → mH → Prop}, RV h c kd sz W → Q (some x) h → mCt mCd jj args h Q) (hq : ∀ h', RI h' c kd sz W T r f so it im → Eqx KRef h h' → Q (some x) h') : mCt mCd jj args h Q := hj hr.1 (hq h hr (Eqx.rf _ _))
theorem RI.w17 (hr : RI h c kd sz W T r f so it im) {W' : Nat → Nat → Int} (hx : Eqx [17] h h') (hv : RV h' c kd sz W') : RI h' c kd sz W' T r f so it im ∧ Eqx KRef h h' := by
  obtain ⟨rv, rx, rt, rr, rs⟩ := hr
  have e14 := hx.2 14 (by decide)
  exact ⟨⟨hv, rx.up hx (by decide), rt.up (hx.2 25 (by decide)) (fun v cor bA bB rw_ bo e => ⟨v, cor, bA, bB, rw_, e14.trans e⟩), rr.up (hx.2 23 (by decide)) (fun v cor bA bB rw_ bo e => ⟨v, cor, bA, bB, bo, e14.trans e⟩), rs.up hx (by decide) (by decide) (by decide) (by decide)⟩, hx.mo (by decide)⟩
theorem y148 (hr : RI h c kd sz W T r f so it im) (ha : i32 a) (hs' : i32 s) (hv : i32 v) (hq : ∀ h', RI h' c kd sz (sSetW c kd sz W a s v) T r f so it im → Eqx KRef h h' → Q (some (.int (iZ (sSet c kd sz a s v)))) h') : mCt mCd 148 [.ref 14, .int (iZ a), .int (iZ s), .int (iZ v)] h Q := by
  refine c148 hr.1 ha hs' hv (fun h' hx hv' => ?_)
  obtain ⟨h1, h2⟩ := hr.w17 hx hv'
  exact hq h' h1 h2
theorem y213 {x : Int} (hr : RI h c kd sz W T r f so it im) (ha : i32 a) (hx' : i32 x) (hk : i32 k) (hv : i32 v) (hq : ∀ h', RI h' c kd sz (sLayW c kd sz W so it im a x k v) T r f so it im → Eqx KRef h h' → Q (some (.int (iZ (sLay c kd sz so it im a x k v)))) h') : mCt mCd 213 [.ref 14, .int (iZ a), .int (iZ x), .int (iZ k), .int (iZ v)] h Q := by
  refine c213 hr.1 hr.2.2.2.2 ha hx' hk hv (fun h' hx hv' => ?_)
  obtain ⟨h1, h2⟩ := hr.w17 hx hv'
  exact hq h' h1 h2
theorem y159 (hr : RI h c kd sz W T r f so it im) (hq : ∀ h', RI h' (c - 1) kd sz W T r f so it im → Eqx KRef h h' → Q (some (.int (iZ (if c = 0 then -3 else ((c - 1 : Nat) : Int))))) h') : mCt mCd 159 [.ref 14] h Q := by
  have hr0 := hr
  obtain ⟨rv, rx, rt, rr, rs⟩ := hr
  refine c159 rv (fun h0 => ?_) (fun hne h' hx ho hv => ?_)
  · have := hq h (by rw [h0]; rw [h0] at hr0; exact hr0) (Eqx.rf _ _)
    rw [if_pos h0] at this
    exact this
  · have := hq h' ⟨hv, rx.up hx (by decide), rt.up (hx.2 25 (by decide)) (fun v cor bA bB rw_ bo e => by
      obtain ⟨v', e'⟩ := ho v cor bA bB rw_ bo e
      exact ⟨v', cor, bA, bB, rw_, e'⟩), rr.up (hx.2 23 (by decide)) (fun v cor bA bB rw_ bo e => by
      obtain ⟨v', e'⟩ := ho v cor bA bB rw_ bo e
      exact ⟨v', cor, bA, bB, bo, e'⟩), rs.up hx (by decide) (by decide) (by decide) (by decide)⟩ (hx.mo (by decide))
    rw [if_neg hne] at this
    exact this
theorem y196 (hr : RI h c kd sz W T r f so it im) (ha : i32 a) (hq : ∀ h', RI h' c kd sz W T (sWr c sz W a r f).1 (sWr c sz W a r f).2 so it im → Eqx KRef h h' → Q (some (.int (iZ (sWrite c sz a)))) h') : mCt mCd 196 [.ref 14, .int (iZ a)] h Q := by
  obtain ⟨rv, rx, rt, rr, rs⟩ := hr
  refine r196 rv rx rr ha (fun h' hw hr' => ?_)
  obtain ⟨hx, hx', ho⟩ := hw
  refine hq h' ⟨?_, hx', rt.up (hx.2 25 (by decide)) (fun v cor bA bB rw_ bo e => ?_), hr', rs.up hx (by decide) (by decide) (by decide) (by decide)⟩ (hx.mo (by decide))
  · obtain ⟨v1, v2, cor, bA, bB, rw_, bo, fk, fs, g, e1, e2, e3, e4, v3⟩ := rv
    obtain ⟨c', b1, b2, r', e'⟩ := ho _ _ _ _ _ _ e1
    exact ⟨v1, v2, c', b1, b2, r', bo, fk, fs, g, e', (hx.2 15 (by decide)).trans e2, (hx.2 16 (by decide)).trans e3, (hx.2 17 (by decide)).trans e4, v3⟩
  · obtain ⟨c', b1, b2, r', e'⟩ := ho v cor bA bB rw_ bo e
    exact ⟨v, c', b1, b2, r', e'⟩
theorem y197 (hr : RI h c kd sz W T r f so it im) (hk : i32 k) (hq : ∀ h', RI h' c kd sz W T r f so it im → Eqx KRef h h' → Q (some (.long (sRow r f k))) h') : mCt mCd 197 [.ref 14, .int (iZ k)] h Q := c197 hr.2.2.2.1 hk (hq h hr (Eqx.rf _ _))
theorem y198 {x : Int64} (hr : RI h c kd sz W T r f so it im) (hk : i32 k) (hq : ∀ h', RI h' c kd sz W T r (if 0 ≤ k ∧ k < r then set1 f k.toNat x else f) so it im → Eqx KRef h h' → Q (some (.int (iZ (if 0 ≤ k ∧ k < r then 1 else -2)))) h') : mCt mCd 198 [.ref 14, .int (iZ k), .long x] h Q := by
  obtain ⟨rv, rx, rt, rr, rs⟩ := hr
  refine c198 rr hk (fun h' hx hr' => ?_)
  have e14 := hx.2 14 (by decide)
  refine hq h' ⟨?_, rx.up hx (by decide), rt.up (hx.2 25 (by decide)) (fun v cor bA bB rw_ bo e => ⟨v, cor, bA, bB, rw_, e14.trans e⟩), hr', rs.up hx (by decide) (by decide) (by decide) (by decide)⟩ (hx.mo (by decide))
  obtain ⟨v1, v2, cor, bA, bB, rw_, bo, fk, fs, g, e1, e2, e3, e4, v3⟩ := rv
  exact ⟨v1, v2, cor, bA, bB, rw_, bo, fk, fs, g, e14.trans e1, (hx.2 15 (by decide)).trans e2, (hx.2 16 (by decide)).trans e3, (hx.2 17 (by decide)).trans e4, v3⟩
theorem y199 (hr : RI h c kd sz W T r f so it im) (ha : i32 a) (hq : ∀ h', RI h' c kd sz W T r f so it im → Eqx KRef h h' → Q (some (.int (iZ (sCheck c sz W r f a)))) h') : mCt mCd 199 [.ref 14, .int (iZ a)] h Q := by
  refine r199 hr.1 hr.2.1 hr.2.2.2.1 ha (fun h' ask => ?_)
  obtain ⟨h1, h2⟩ := hr.ask ask
  exact hq h' h1 h2
theorem y207 {x : Int32} (hr : RI h c kd sz W T r f so it im) (hy : i32 y) (hk : i32 k) (hq : ∀ h', RI h' c kd sz W (sActT c kd y k) r f so it im → Eqx KRef h h' → Q (some (.int (sActV c kd sz W y k x))) h') : mCt mCd 207 [.ref 14, .int (iZ y), .int (iZ k), .int x] h Q := by
  obtain ⟨rv, rx, rt, rr, rs⟩ := hr
  refine c207 rv rt hy hk (fun h' ha ht' => ?_)
  refine hq h' ⟨rv.act ha, rx.up ha.1 (by decide), ht', rr.up (ha.1.2 23 (by decide)) (fun v cor bA bB rw_ bo e => ?_), rs.up ha.1 (by decide) (by decide) (by decide) (by decide)⟩ (ha.1.mo (by decide))
  obtain ⟨bo', e'⟩ := ha.2 v cor bA bB rw_ bo e
  exact ⟨v, cor, bA, bB, bo', e'⟩
theorem y208 (hr : RI h c kd sz W T r f so it im) (hk : i32 k) (hq : ∀ h', RI h' c kd sz W T r f so it im → Eqx KRef h h' → Q (some (.int (iZ (sTrace T k)))) h') : mCt mCd 208 [.ref 14, .int (iZ k)] h Q := c208 hr.2.2.1 hk (hq h hr (Eqx.rf _ _))
theorem y209 (hr : RI h c kd sz W T r f so it im) (hk : i32 k) (hq : ∀ h', RI h' c kd sz W T r f so it im → Eqx KRef h h' → Q (some (.int (iZ (sCount c r T k)))) h') : mCt mCd 209 [.ref 14, .int (iZ k)] h Q := c209 hr.1 hr.2.2.1 hr.2.2.2.1 hk (hq h hr (Eqx.rf _ _))
theorem RI.sh (hr : RI h c kd sz W T r f so it im) {so' : Nat → Int} {it' : Nat → Nat} {im' : Nat → Nat → Int} {K : List Nat} (hx : Eqx K h h') (hk : ∀ x, x ∈ K → 26 ≤ x ∧ x ≤ 29) (hs : RS h' so' it' im') : RI h' c kd sz W T r f so' it' im' ∧ Eqx KRef h h' := by
  obtain ⟨rv, rx, rt, rr, rs⟩ := hr
  have e : ∀ x, x < 26 → h'[x]? = h[x]? := fun x hh => hx.2 x (fun m => by have := hk x m; omega)
  have e14 := e 14 (by decide)
  refine ⟨⟨?_, rx.up hx (fun x m => by have := hk x m; omega), rt.up (e 25 (by decide)) (fun v cor bA bB rw_ bo q => ⟨v, cor, bA, bB, rw_, e14.trans q⟩), rr.up (e 23 (by decide)) (fun v cor bA bB rw_ bo q => ⟨v, cor, bA, bB, bo, e14.trans q⟩), hs⟩, hx.mo (fun x m => by rw [KRef_in]; have := hk x m; omega)⟩
  obtain ⟨v1, v2, cor, bA, bB, rw_, bo, fk, fs, g, e1, e2, e3, e4, v3⟩ := rv
  exact ⟨v1, v2, cor, bA, bB, rw_, bo, fk, fs, g, e14.trans e1, (e 15 (by decide)).trans e2, (e 16 (by decide)).trans e3, (e 17 (by decide)).trans e4, v3⟩
theorem y211 (hr : RI h c kd sz W T r f so it im) (ha : i32 a) (hk : i32 k) (hv : i32 v) (hq : ∀ h', RI h' c kd sz W T r f (if okSheet a k v = true then set1 so a.toNat k else so) (if okSheet a k v = true then set1 it a.toNat (if k < 0 then 0 else v.toNat) else it) (if okSheet a k v = true then set1 im a.toNat (fun _ => 0) else im) → Eqx KRef h h' → Q (some (.int (iZ (sSheet a k v)))) h') : mCt mCd 211 [.ref 14, .int (iZ a), .int (iZ k), .int (iZ v)] h Q := by
  obtain ⟨cor, bA, bB, rw_, bo, e1⟩ := hr.o
  refine c211 e1 hr.2.2.2.2 ha hk hv (fun h' hx hs => ?_)
  have hs' : RS h' (if okSheet a k v = true then set1 so a.toNat k else so) (if okSheet a k v = true then set1 it a.toNat (if k < 0 then 0 else v.toNat) else it) (if okSheet a k v = true then set1 im a.toNat (fun _ => 0) else im) := by
    by_cases q : okSheet a k v = true
    · rw [if_pos q] at hs
      rw [if_pos q, if_pos q, if_pos q]
      exact hs
    · rw [if_neg q] at hs
      rw [if_neg q, if_neg q, if_neg q]
      exact hs
  obtain ⟨h1, h2⟩ := hr.sh hx (by decide) hs'
  exact hq h' h1 h2
theorem y212 (hr : RI h c kd sz W T r f so it im) (ha : i32 a) (hy : i32 y) (hv : i32 v) (hq : ∀ h', RI h' c kd sz W T r f so it (sCellM so it im a y v) → Eqx KRef h h' → Q (some (.int (iZ (sCell so it a y)))) h') : mCt mCd 212 [.ref 14, .int (iZ a), .int (iZ y), .int (iZ v)] h Q := by
  obtain ⟨cor, bA, bB, rw_, bo, e1⟩ := hr.o
  refine c212 e1 hr.2.2.2.2 ha hy hv (fun h' hx hs => ?_)
  obtain ⟨h1, h2⟩ := hr.sh hx (by decide) hs
  exact hq h' h1 h2
theorem y214 {x o j : Int} (hr : RI h c kd sz W T r f so it im) (hx' : i32 x) (hy : i32 y) (ho : i32 o) (hj : i32 j) (hv : i32 v) (hq : ∀ h', RI h' c kd sz W T r f so it (sCopyM so it im x y o j v) → Eqx KRef h h' → Q (some (.int (iZ (sCopy so it x y o j v)))) h') : mCt mCd 214 [.ref 14, .int (iZ x), .int (iZ y), .int (iZ o), .int (iZ j), .int (iZ v)] h Q := by
  obtain ⟨cor, bA, bB, rw_, bo, e1⟩ := hr.o
  refine c214 e1 hr.2.2.2.2 hx' hy ho hj hv (fun h' hx hs => ?_)
  obtain ⟨h1, h2⟩ := hr.sh hx (by decide) hs
  exact hq h' h1 h2
end IN
