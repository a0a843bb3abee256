/-! ===== the class: things made ===== -/

theorem a0_45 {h : mH} {Q : Option Value → mH → Prop} {r0 : Nat} {q0 : Nat} {ci101 : Nat} {fs102 : List Value} (e1 : h[r0]? = some (.inr (ci101, fs102))) (e2 : ([0] : List Nat).contains ci101 = true) (e3 : Nat.blt 5 fs102.length = true) (e6 : ([0] : List Nat).contains ci101 = true) (e7 : Nat.blt 6 (fs102.set 5 (.ref q0)).length = true) (k : Q none ((h.set r0 (.inr (ci101, fs102.set 5 (.ref q0)))).set r0 (.inr (ci101, (fs102.set 5 (.ref q0)).set 6 (.int (iZ 0)))))) : mWp mCd 0 (45, [some (.ref r0)], [.ref q0, .ref r0], h, 5, 125) Q := by
  refine mWp_pf rfl e1 e2 rfl e3 ?_
  show mWp mCd 0 (48, [some (.ref r0)], [], (h.set r0 (.inr (ci101, fs102.set 5 (.ref q0)))), 5, 125) Q
  refine mWp_run 2 (t' := (50, [some (.ref r0)], [.int (iZ 0), .ref r0], (h.set r0 (.inr (ci101, fs102.set 5 (.ref q0)))), 5, 125)) rfl ?_
  refine mWp_pf rfl (mGs e1) e6 rfl e7 ?_
  show mWp mCd 0 (53, [some (.ref r0)], [], ((h.set r0 (.inr (ci101, fs102.set 5 (.ref q0)))).set r0 (.inr (ci101, (fs102.set 5 (.ref q0)).set 6 (.int (iZ 0))))), 5, 125) Q
  exact mWp_r (v := none) rfl k
theorem a37_37 {h : mH} {Q : Option Value → mH → Prop} {r0 : Nat} {q0 : Nat} {ci101 : Nat} {fs102 : List Value} (e1 : h[r0]? = some (.inr (ci101, fs102))) (e2 : ([1, 2, 4, 6, 8] : List Nat).contains ci101 = true) (e3 : Nat.blt 4 fs102.length = true) (e6 : ([1, 2, 4, 6, 8] : List Nat).contains ci101 = true) (e7 : Nat.blt 5 (fs102.set 4 (.ref q0)).length = true) (k : Q none ((h.set r0 (.inr (ci101, fs102.set 4 (.ref q0)))).set r0 (.inr (ci101, (fs102.set 4 (.ref q0)).set 5 (.int (iZ 0)))))) : mWp mCd 37 (37, [some (.ref r0), none, none], [.ref q0, .ref r0], h, 8, 152) Q := by
  refine mWp_pf rfl e1 e2 rfl e3 ?_
  show mWp mCd 37 (40, [some (.ref r0), none, none], [], (h.set r0 (.inr (ci101, fs102.set 4 (.ref q0)))), 8, 152) Q
  refine mWp_run 2 (t' := (42, [some (.ref r0), none, none], [.int (iZ 0), .ref r0], (h.set r0 (.inr (ci101, fs102.set 4 (.ref q0)))), 8, 152)) rfl ?_
  refine mWp_pf rfl (mGs e1) e6 rfl e7 ?_
  show mWp mCd 37 (45, [some (.ref r0), none, none], [], ((h.set r0 (.inr (ci101, fs102.set 4 (.ref q0)))).set r0 (.inr (ci101, (fs102.set 4 (.ref q0)).set 5 (.int (iZ 0))))), 8, 152) Q
  exact mWp_r (v := none) rfl k
theorem a78_10 {h : mH} {Q : Option Value → mH → Prop} {r0 : Nat} {q0 : Nat} {ci101 : Nat} {fs102 : List Value} (e1 : h[r0]? = some (.inr (ci101, fs102))) (e2 : ([9] : List Nat).contains ci101 = true) (e3 : Nat.blt 0 fs102.length = true) (e6 : ([9] : List Nat).contains ci101 = true) (e7 : Nat.blt 1 (fs102.set 0 (.ref q0)).length = true) (k : mWp mCd 78 (22, [some (.ref r0)], [.ref ((((h.set r0 (.inr (ci101, fs102.set 0 (.ref q0)))).set r0 (.inr (ci101, (fs102.set 0 (.ref q0)).set 1 (.int (iZ 0)))))).length), .ref r0], (((h.set r0 (.inr (ci101, fs102.set 0 (.ref q0)))).set r0 (.inr (ci101, (fs102.set 0 (.ref q0)).set 1 (.int (iZ 0))))) ++ [.inr (3, [.int 0, .null])]), 2, 12) Q) : mWp mCd 78 (10, [some (.ref r0)], [.ref q0, .ref r0], h, 1, 10) Q := by
  refine mWp_pf rfl e1 e2 rfl e3 ?_
  show mWp mCd 78 (13, [some (.ref r0)], [], (h.set r0 (.inr (ci101, fs102.set 0 (.ref q0)))), 1, 10) Q
  refine mWp_run 2 (t' := (15, [some (.ref r0)], [.int (iZ 0), .ref r0], (h.set r0 (.inr (ci101, fs102.set 0 (.ref q0)))), 1, 10)) rfl ?_
  refine mWp_pf rfl (mGs e1) e6 rfl e7 ?_
  show mWp mCd 78 (18, [some (.ref r0)], [], ((h.set r0 (.inr (ci101, fs102.set 0 (.ref q0)))).set r0 (.inr (ci101, (fs102.set 0 (.ref q0)).set 1 (.int (iZ 0))))), 1, 10) Q
  refine mWp_run 1 (t' := (19, [some (.ref r0)], [.ref r0], ((h.set r0 (.inr (ci101, fs102.set 0 (.ref q0)))).set r0 (.inr (ci101, (fs102.set 0 (.ref q0)).set 1 (.int (iZ 0))))), 1, 10)) rfl ?_
  refine mWp_run 1 (t' := (22, [some (.ref r0)], [.ref ((((h.set r0 (.inr (ci101, fs102.set 0 (.ref q0)))).set r0 (.inr (ci101, (fs102.set 0 (.ref q0)).set 1 (.int (iZ 0)))))).length), .ref r0], (((h.set r0 (.inr (ci101, fs102.set 0 (.ref q0)))).set r0 (.inr (ci101, (fs102.set 0 (.ref q0)).set 1 (.int (iZ 0))))) ++ [.inr (3, [.int 0, .null])]), 2, 12)) rfl ?_
  exact k
/-- an object at r being filled, new cells behind it -/
def St (h g : mH) (r ci : Nat) (fs : List Value) (cs : List mE) : Prop := g.length = r + 1 + cs.length ∧ g[r]? = some (.inr (ci, fs)) ∧ (∀ j e, cs[j]? = some e → g[r + 1 + j]? = some e) ∧ ∀ x e, x ≠ r → h[x]? = some e → g[x]? = some e
theorem St.o {h g : mH} {r ci : Nat} {fs : List Value} {cs : List mE} (s : St h g r ci fs cs) : g[r]? = some (.inr (ci, fs)) := s.2.1
theorem St.set {h g : mH} {r ci : Nat} {fs : List Value} {cs : List mE} (s : St h g r ci fs cs) (fs' : List Value) : St h (g.set r (.inr (ci, fs'))) r ci fs' cs :=
  ⟨by rw [List.length_set]; exact s.1, mGs s.2.1, fun j e q => mGn (by omega) (s.2.2.1 j e q), fun x e hx q => mGn (Ne.symm hx) (s.2.2.2 x e hx q)⟩
theorem St.app {h g : mH} {r ci : Nat} {fs : List Value} {cs : List mE} (s : St h g r ci fs cs) (e : mE) : St h (g ++ [e]) r ci fs (cs ++ [e]) := by
  refine ⟨?_, mAl _ s.2.1, fun j e' q => ?_, fun x e' hx q => mAl _ (s.2.2.2 x e' hx q)⟩
  · simp only [List.length_append, List.length_cons, List.length_nil]
    rw [s.1]
    omega
  · by_cases hj : j < cs.length
    · rw [List.getElem?_append_left hj] at q
      exact mAl _ (s.2.2.1 j e' q)
    · have hl := mltS q
      rw [List.length_append, List.length_singleton] at hl
      have : j = cs.length := by omega
      subst this
      rw [List.getElem?_append_right (Nat.le_refl _), Nat.sub_self] at q
      have h9 := mAr g e
      rw [s.1] at h9
      rw [h9]
      exact q
theorem St.c {h g : mH} {r ci : Nat} {fs : List Value} {cs : List mE} (s : St h g r ci fs cs) (j : Nat) {e : mE} (q : cs[j]? = some e) : g[r + 1 + j]? = some e := s.2.2.1 j e q
section CM
variable {h h' : mH} {Q : Option Value → mH → Prop} {i n c r ci : Nat} {w : Nat → Int} {kd sz : Nat → Nat} {W : Nat → Nat → Int} {A : Nat → Nat}
theorem k0 (s : St h h r 0 [.int 0, .null, .null, .null, .null, .null, .int 0] []) (hq : ∀ h', St h h' r 0 [.int (iZ 0), .ref (r + 1), .ref (r + 2), .ref (r + 3), .ref (r + 4), .ref (r + 5), .int (iZ 0)] [aI 96 (fun _ => 0), aI 4 (fun _ => 0), aI 8 (fun _ => 0), aI 8 (fun _ => 0), aI 9 (fun _ => 0)] → Q none h') : mCt mCd 0 [.ref r] h Q := by
  refine en0 (b0_0 s.o rfl rfl ?_)
  have u0 := s.set ([.int 0, .null, .null, .null, .null, .null, .int 0].set 0 (.int (iZ 0)))
  have l0 : _ = r + 1 := u0.1.trans (by simp)
  have s0 := u0.app (aI 96 (fun _ => 0))
  rw [l0]
  refine b0_14 s0.o rfl rfl ?_
  have u1 := s0.set (([.int 0, .null, .null, .null, .null, .null, .int 0].set 0 (.int (iZ 0))).set 1 (.ref (r + 1)))
  have l1 : _ = r + 2 := u1.1.trans (by simp)
  have s1 := u1.app (aI 4 (fun _ => 0))
  rw [l1]
  refine b0_21 s1.o rfl rfl ?_
  have u2 := s1.set ((([.int 0, .null, .null, .null, .null, .null, .int 0].set 0 (.int (iZ 0))).set 1 (.ref (r + 1))).set 2 (.ref (r + 2)))
  have l2 : _ = r + 3 := u2.1.trans (by simp)
  have s2 := u2.app (aI 8 (fun _ => 0))
  rw [l2]
  refine b0_29 s2.o rfl rfl ?_
  have u3 := s2.set (((([.int 0, .null, .null, .null, .null, .null, .int 0].set 0 (.int (iZ 0))).set 1 (.ref (r + 1))).set 2 (.ref (r + 2))).set 3 (.ref (r + 3)))
  have l3 : _ = r + 4 := u3.1.trans (by simp)
  have s3 := u3.app (aI 8 (fun _ => 0))
  rw [l3]
  refine b0_37 s3.o rfl rfl ?_
  have u4 := s3.set ((((([.int 0, .null, .null, .null, .null, .null, .int 0].set 0 (.int (iZ 0))).set 1 (.ref (r + 1))).set 2 (.ref (r + 2))).set 3 (.ref (r + 3))).set 4 (.ref (r + 4)))
  have l4 : _ = r + 5 := u4.1.trans (by simp)
  have s4 := u4.app (aI 9 (fun _ => 0))
  rw [l4]
  refine a0_45 s4.o rfl rfl rfl rfl ?_
  have u5 := s4.set (((((([.int 0, .null, .null, .null, .null, .null, .int 0].set 0 (.int (iZ 0))).set 1 (.ref (r + 1))).set 2 (.ref (r + 2))).set 3 (.ref (r + 3))).set 4 (.ref (r + 4))).set 5 (.ref (r + 5)))
  have u6 := u5.set ((((((([.int 0, .null, .null, .null, .null, .null, .int 0].set 0 (.int (iZ 0))).set 1 (.ref (r + 1))).set 2 (.ref (r + 2))).set 3 (.ref (r + 3))).set 4 (.ref (r + 4))).set 5 (.ref (r + 5))).set 6 (.int (iZ 0)))
  exact hq _ u6
/-- a venture just made at a -/
def NV (h h' : mH) (a ci : Nat) (num n : Int32) : Prop := h'.length = a + 9 ∧ (h'[a]? = some (oV ci a num n (iZ 0)) ∧ h'[a + 1]? = some (aI 16 (fun _ => 0)) ∧ h'[a + 2]? = some (aI 4 (fun _ => 0)) ∧ h'[a + 3]? = some (oK (a + 3) (iZ 0) (iZ 0)) ∧ h'[a + 4]? = some (aI 96 (fun _ => 0)) ∧ h'[a + 5]? = some (aI 4 (fun _ => 0)) ∧ h'[a + 6]? = some (aI 8 (fun _ => 0)) ∧ h'[a + 7]? = some (aI 8 (fun _ => 0)) ∧ h'[a + 8]? = some (aI 9 (fun _ => 0))) ∧ ∀ x e, x ≠ a → h[x]? = some e → h'[x]? = some e
theorem k37 {num n : Int32} (hc : [1, 2, 4, 6, 8].contains ci = true) (s : St h h r ci [.int 0, .int 0, .null, .null, .null, .int 0] []) (hq : ∀ h', NV h h' r ci num n → Q none h') : mCt mCd 37 [.ref r, .int num, .int n] h Q := by
  refine en37 (b37_0 s.o hc rfl hc rfl ?_)
  have u9 := s.set ([.int 0, .int 0, .null, .null, .null, .int 0].set 0 (.int num))
  have u0 := u9.set (([.int 0, .int 0, .null, .null, .null, .int 0].set 0 (.int num)).set 1 (.int n))
  have l0 : _ = r + 1 := u0.1.trans (by simp)
  have s0 := u0.app (aI 16 (fun _ => 0))
  rw [l0]
  refine b37_19 s0.o hc rfl ?_
  have u1 := s0.set ((([.int 0, .int 0, .null, .null, .null, .int 0].set 0 (.int num)).set 1 (.int n)).set 2 (.ref (r + 1)))
  have l1 : _ = r + 2 := u1.1.trans (by simp)
  have s1 := u1.app (aI 4 (fun _ => 0))
  rw [l1]
  refine b37_26 s1.o hc rfl ?_
  have u2 := s1.set (((([.int 0, .int 0, .null, .null, .null, .int 0].set 0 (.int num)).set 1 (.int n)).set 2 (.ref (r + 1))).set 3 (.ref (r + 2)))
  have l2 : _ = r + 3 := u2.1.trans (by simp)
  have s2 := u2.app (.inr (0, [.int 0, .null, .null, .null, .null, .null, .int 0]))
  rw [l2]
  generalize hg : (List.set _ _ _ ++ [Sum.inr (0, [.int 0, .null, .null, .null, .null, .null, .int 0])] : mH) = g at s2 ⊢
  have o3 := s2.c 2 rfl
  have t3 : St g g (r + 3) 0 [.int 0, .null, .null, .null, .null, .null, .int 0] [] := ⟨s2.1.trans (by simp), o3, fun j e q => absurd q (by simp), fun _ _ _ q => q⟩
  refine b37_33 (k0 t3 (fun g2 t => ?_))
  have og : g2[r]? = some (.inr (ci, ((([.int 0, .int 0, .null, .null, .null, .int 0].set 0 (.int num)).set 1 (.int n)).set 2 (.ref (r + 1))).set 3 (.ref (r + 2)))) := t.2.2.2 r _ (by omega) s2.o
  refine a37_37 og hc rfl hc rfl ?_
  have hl : g2.length = r + 9 := t.1.trans (by simp)
  have kp : ∀ x e, x ≠ r → g2[x]? = some e → ∀ X Y : mE, ((g2.set r X).set r Y)[x]? = some e := fun x e hx q X Y => mGn (Ne.symm hx) (mGn (Ne.symm hx) q)
  refine hq _ ⟨by rw [List.length_set, List.length_set]; exact hl, ⟨mGs (mGs og), ?_, ?_, ?_, ?_, ?_, ?_, ?_, ?_⟩, fun x e hx q => ?_⟩
  · exact kp _ _ (by omega) (t.2.2.2 _ _ (by omega) (s2.c 0 rfl)) _ _
  · exact kp _ _ (by omega) (t.2.2.2 _ _ (by omega) (s2.c 1 rfl)) _ _
  · exact kp _ _ (by omega) t.o _ _
  · exact kp _ _ (by omega) (t.c 0 rfl) _ _
  · exact kp _ _ (by omega) (t.c 1 rfl) _ _
  · exact kp _ _ (by omega) (t.c 2 rfl) _ _
  · exact kp _ _ (by omega) (t.c 3 rfl) _ _
  · exact kp _ _ (by omega) (t.c 4 rfl) _ _
  · have hx9 := mltS q
    have hl9 : h.length = r + 1 := s.1.trans (by simp)
    exact kp x e hx (t.2.2.2 x e (by omega) (s2.2.2.2 x e hx q)) _ _
end CM
