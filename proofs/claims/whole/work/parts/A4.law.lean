/-! ===== the law: its calls ===== -/
def QL : Option Value → mH → Prop := fun r _ => r = some (.int 1)
def LX (L : Nat) (xs : Nat → Int32) (h : mH) : Prop := h[0]? = some (aI L xs) ∧ ∃ (c : Nat) (kd sz : Nat → Nat) (W : Nat → Nat → Int) (T : List Int) (r : Nat) (f : Nat → Int64) (so : Nat → Int) (it : Nat → Nat) (im : Nat → Nat → Int), RI h c kd sz W T r f so it im ∧ CI h c kd sz W T r f so it im ∧ GI c kd sz W
theorem iz (x : Int32) : i32 x.toInt := by
  have h1 := Int32.minValue_le_toInt x
  have h2 := Int32.toInt_lt x
  have h3 : Int32.minValue.toInt = -2147483648 := by decide +kernel
  unfold i32
  omega
theorem izx (x : Int32) : x = iZ x.toInt := (Int32.ofInt_toInt x).symm
section LW
variable {L : Nat} {xs : Nat → Int32} {h : mH} {k cc ss c r : Nat} {kd sz : Nat → Nat} {W : Nat → Nat → Int} {T : List Int} {f : Nat → Int64} {so : Nat → Int} {it : Nat → Nat} {im : Nat → Nat → Int}
theorem xin (hL : L ≤ 3072) (hk : 6 * k + 6 ≤ L) {j : Nat} (hj : j < 6) : ¬ (iZ ((6 * k : Nat) : Int) + iZ (j : Int) < 0 ∨ L ≤ (iZ ((6 * k : Nat) : Int) + iZ (j : Int)).toNatClampNeg) := by
  rw [iZ_add]
  exact iZ_in (by omega) (by omega) (by omega)
theorem CI.o (hc : CI h c kd sz W T r f so it im) : h[5]? = some (oJ (iZ c)) := by
  obtain ⟨A, B, M, G, hd, _⟩ := hc
  exact hd.o
def NX (L : Nat) (xs : Nat → Int32) (k : Nat) : Prop := ∀ h' c' s', LX L xs h' → c' ≤ 25 + 9 * (k + 1) → s' ≤ 3899 + 158 * (k + 1) → mWp mCd 221 (1532, [some (.ref 0), some (.ref 5), some (.ref 14), some (.int (iZ ((6 * k : Nat) : Int)))], [], h', c', s') QL
theorem wc0 (hL : L ≤ 3072) (hk : 6 * k + 6 ≤ L) (hcc : cc ≤ 25 + 9 * k) (hss : ss ≤ 3899 + 158 * k) (hS : h[0]? = some (aI L xs)) (hr : RI h c kd sz W T r f so it im) (hc : CI h c kd sz W T r f so it im) (hg : GI c kd sz W) (hn : NX L xs k) : mWp mCd 221 (188, [some (.ref 0), some (.ref 5), some (.ref 14), some (.int (iZ ((6 * k : Nat) : Int)))], [], h, cc, ss) QL := by
  obtain ⟨z1, e1⟩ : ∃ z : Int32, xs (iZ ((6 * k : Nat) : Int) + iZ 1).toNatClampNeg = z := ⟨_, rfl⟩
  rw [izx z1] at e1
  refine b221_188 hS (xin hL hk (j := 1) (by decide)) hc.o rfl (Nat.ble_eq.mpr (by omega)) (Nat.ble_eq.mpr (by omega)) ?_
  rw [e1]
  refine cmk hc (fun hd hl hq => j79 hd hl (iz _) hq) (fun h1 hc1 kp => ?_)
  have hS1 := kp.1 0 _ (by decide) (by decide) hS
  have hr1 := hr.sub kp.2
  obtain ⟨q1, q2, q3, q4, q5, o1⟩ := hr1.o
  refine b221_197 hS1 (xin hL hk (j := 1) (by decide)) o1 rfl (Nat.ble_eq.mpr (by omega)) (Nat.ble_eq.mpr (by omega)) ?_
  rw [e1]
  refine rmk hr1 (fun hq => c147 hr1.1 (iz _) hq) (fun h2 hr2 ex => ?_)
  refine b221_206 (fun _ => hn h2 _ _ ⟨(ex.2 0 (by decide)).trans hS1, _, _, _, _, _, _, _, _, _, _, hr2, hc1.ref ex, hg.mk (g_ven trivial)⟩ (by omega) (by omega)) (fun z => absurd rfl z)
theorem wc1 (hL : L ≤ 3072) (hk : 6 * k + 6 ≤ L) (hcc : cc ≤ 25 + 9 * k) (hss : ss ≤ 3899 + 158 * k) (hS : h[0]? = some (aI L xs)) (hr : RI h c kd sz W T r f so it im) (hc : CI h c kd sz W T r f so it im) (hg : GI c kd sz W) (hn : NX L xs k) : mWp mCd 221 (211, [some (.ref 0), some (.ref 5), some (.ref 14), some (.int (iZ ((6 * k : Nat) : Int)))], [], h, cc, ss) QL := by
  obtain ⟨z1, e1⟩ : ∃ z : Int32, xs (iZ ((6 * k : Nat) : Int) + iZ 1).toNatClampNeg = z := ⟨_, rfl⟩
  rw [izx z1] at e1
  obtain ⟨z2, e2⟩ : ∃ z : Int32, xs (iZ ((6 * k : Nat) : Int) + iZ 2).toNatClampNeg = z := ⟨_, rfl⟩
  rw [izx z2] at e2
  obtain ⟨z3, e3⟩ : ∃ z : Int32, xs (iZ ((6 * k : Nat) : Int) + iZ 3).toNatClampNeg = z := ⟨_, rfl⟩
  rw [izx z3] at e3
  refine b221_211 hS (xin hL hk (j := 1) (by decide)) (xin hL hk (j := 2) (by decide)) (xin hL hk (j := 3) (by decide)) hc.o rfl (Nat.ble_eq.mpr (by omega)) (Nat.ble_eq.mpr (by omega)) ?_
  rw [e1, e2, e3]
  refine x80 hc (iz _) (iz _) (iz _) (fun h1 hc1 kp => ?_)
  have hS1 := kp.1 0 _ (by decide) (by decide) hS
  have hr1 := hr.sub kp.2
  obtain ⟨q1, q2, q3, q4, q5, o1⟩ := hr1.o
  refine b221_230 hS1 (xin hL hk (j := 1) (by decide)) (xin hL hk (j := 2) (by decide)) (xin hL hk (j := 3) (by decide)) o1 rfl (Nat.ble_eq.mpr (by omega)) (Nat.ble_eq.mpr (by omega)) ?_
  rw [e1, e2, e3]
  refine y148 hr1 (iz _) (iz _) (iz _) (fun h2 hr2 ex => ?_)
  refine b221_249 (fun _ => hn h2 _ _ ⟨(ex.2 0 (by decide)).trans hS1, _, _, _, _, _, _, _, _, _, _, hr2, hc1.ref ex, g_set hg⟩ (by omega) (by omega)) (fun z => absurd rfl z)
theorem wc2 (hL : L ≤ 3072) (hk : 6 * k + 6 ≤ L) (hcc : cc ≤ 25 + 9 * k) (hss : ss ≤ 3899 + 158 * k) (hS : h[0]? = some (aI L xs)) (hr : RI h c kd sz W T r f so it im) (hc : CI h c kd sz W T r f so it im) (hg : GI c kd sz W) (hn : NX L xs k) : mWp mCd 221 (254, [some (.ref 0), some (.ref 5), some (.ref 14), some (.int (iZ ((6 * k : Nat) : Int)))], [], h, cc, ss) QL := by
  obtain ⟨z1, e1⟩ : ∃ z : Int32, xs (iZ ((6 * k : Nat) : Int) + iZ 1).toNatClampNeg = z := ⟨_, rfl⟩
  rw [izx z1] at e1
  obtain ⟨z2, e2⟩ : ∃ z : Int32, xs (iZ ((6 * k : Nat) : Int) + iZ 2).toNatClampNeg = z := ⟨_, rfl⟩
  rw [izx z2] at e2
  obtain ⟨z3, e3⟩ : ∃ z : Int32, xs (iZ ((6 * k : Nat) : Int) + iZ 3).toNatClampNeg = z := ⟨_, rfl⟩
  rw [izx z3] at e3
  refine b221_254 hS (xin hL hk (j := 1) (by decide)) (xin hL hk (j := 2) (by decide)) (xin hL hk (j := 3) (by decide)) hc.o rfl (Nat.ble_eq.mpr (by omega)) (Nat.ble_eq.mpr (by omega)) ?_
  rw [e1, e2, e3]
  refine cmk hc (fun hd hl hq => j81 hd hl (iz _) (iz _) (iz _) hq) (fun h1 hc1 kp => ?_)
  have hS1 := kp.1 0 _ (by decide) (by decide) hS
  have hr1 := hr.sub kp.2
  obtain ⟨q1, q2, q3, q4, q5, o1⟩ := hr1.o
  refine b221_273 hS1 (xin hL hk (j := 1) (by decide)) (xin hL hk (j := 2) (by decide)) (xin hL hk (j := 3) (by decide)) o1 rfl (Nat.ble_eq.mpr (by omega)) (Nat.ble_eq.mpr (by omega)) ?_
  rw [e1, e2, e3]
  refine rmk hr1 (fun hq => c151 hr1.1 (iz _) (iz _) (iz _) hq) (fun h2 hr2 ex => ?_)
  refine b221_292 (fun _ => hn h2 _ _ ⟨(ex.2 0 (by decide)).trans hS1, _, _, _, _, _, _, _, _, _, _, hr2, hc1.ref ex, hg.mk g_vot⟩ (by omega) (by omega)) (fun z => absurd rfl z)
theorem wc3 (hL : L ≤ 3072) (hk : 6 * k + 6 ≤ L) (hcc : cc ≤ 25 + 9 * k) (hss : ss ≤ 3899 + 158 * k) (hS : h[0]? = some (aI L xs)) (hr : RI h c kd sz W T r f so it im) (hc : CI h c kd sz W T r f so it im) (hg : GI c kd sz W) (hn : NX L xs k) : mWp mCd 221 (297, [some (.ref 0), some (.ref 5), some (.ref 14), some (.int (iZ ((6 * k : Nat) : Int)))], [], h, cc, ss) QL := by
  obtain ⟨z1, e1⟩ : ∃ z : Int32, xs (iZ ((6 * k : Nat) : Int) + iZ 1).toNatClampNeg = z := ⟨_, rfl⟩
  rw [izx z1] at e1
  obtain ⟨z2, e2⟩ : ∃ z : Int32, xs (iZ ((6 * k : Nat) : Int) + iZ 2).toNatClampNeg = z := ⟨_, rfl⟩
  rw [izx z2] at e2
  refine b221_297 hS (xin hL hk (j := 1) (by decide)) (xin hL hk (j := 2) (by decide)) hc.o rfl (Nat.ble_eq.mpr (by omega)) (Nat.ble_eq.mpr (by omega)) ?_
  rw [e1, e2]
  refine cmk hc (fun hd hl hq => j82 hd hl (iz _) (iz _) hq) (fun h1 hc1 kp => ?_)
  have hS1 := kp.1 0 _ (by decide) (by decide) hS
  have hr1 := hr.sub kp.2
  obtain ⟨q1, q2, q3, q4, q5, o1⟩ := hr1.o
  refine b221_311 hS1 (xin hL hk (j := 1) (by decide)) (xin hL hk (j := 2) (by decide)) o1 rfl (Nat.ble_eq.mpr (by omega)) (Nat.ble_eq.mpr (by omega)) ?_
  rw [e1, e2]
  refine rmk hr1 (fun hq => c152 hr1.1 (iz _) (iz _) hq) (fun h2 hr2 ex => ?_)
  refine b221_325 (fun _ => hn h2 _ _ ⟨(ex.2 0 (by decide)).trans hS1, _, _, _, _, _, _, _, _, _, _, hr2, hc1.ref ex, hg.mk g_run⟩ (by omega) (by omega)) (fun z => absurd rfl z)
theorem wc4 (hL : L ≤ 3072) (hk : 6 * k + 6 ≤ L) (hcc : cc ≤ 25 + 9 * k) (hss : ss ≤ 3899 + 158 * k) (hS : h[0]? = some (aI L xs)) (hr : RI h c kd sz W T r f so it im) (hc : CI h c kd sz W T r f so it im) (hg : GI c kd sz W) (hn : NX L xs k) : mWp mCd 221 (330, [some (.ref 0), some (.ref 5), some (.ref 14), some (.int (iZ ((6 * k : Nat) : Int)))], [], h, cc, ss) QL := by
  obtain ⟨z1, e1⟩ : ∃ z : Int32, xs (iZ ((6 * k : Nat) : Int) + iZ 1).toNatClampNeg = z := ⟨_, rfl⟩
  rw [izx z1] at e1
  obtain ⟨z2, e2⟩ : ∃ z : Int32, xs (iZ ((6 * k : Nat) : Int) + iZ 2).toNatClampNeg = z := ⟨_, rfl⟩
  rw [izx z2] at e2
  refine b221_330 hS (xin hL hk (j := 1) (by decide)) (xin hL hk (j := 2) (by decide)) hc.o rfl (Nat.ble_eq.mpr (by omega)) (Nat.ble_eq.mpr (by omega)) ?_
  rw [e1, e2]
  refine cmk hc (fun hd hl hq => j83 hd hl (iz _) (iz _) hq) (fun h1 hc1 kp => ?_)
  have hS1 := kp.1 0 _ (by decide) (by decide) hS
  have hr1 := hr.sub kp.2
  obtain ⟨q1, q2, q3, q4, q5, o1⟩ := hr1.o
  refine b221_344 hS1 (xin hL hk (j := 1) (by decide)) (xin hL hk (j := 2) (by decide)) o1 rfl (Nat.ble_eq.mpr (by omega)) (Nat.ble_eq.mpr (by omega)) ?_
  rw [e1, e2]
  refine rmk hr1 (fun hq => c153 hr1.1 (iz _) (iz _) hq) (fun h2 hr2 ex => ?_)
  refine b221_358 (fun _ => hn h2 _ _ ⟨(ex.2 0 (by decide)).trans hS1, _, _, _, _, _, _, _, _, _, _, hr2, hc1.ref ex, hg.mk g_glo⟩ (by omega) (by omega)) (fun z => absurd rfl z)
theorem wc5 (hL : L ≤ 3072) (hk : 6 * k + 6 ≤ L) (hcc : cc ≤ 25 + 9 * k) (hss : ss ≤ 3899 + 158 * k) (hS : h[0]? = some (aI L xs)) (hr : RI h c kd sz W T r f so it im) (hc : CI h c kd sz W T r f so it im) (hg : GI c kd sz W) (hn : NX L xs k) : mWp mCd 221 (363, [some (.ref 0), some (.ref 5), some (.ref 14), some (.int (iZ ((6 * k : Nat) : Int)))], [], h, cc, ss) QL := by
  obtain ⟨z1, e1⟩ : ∃ z : Int32, xs (iZ ((6 * k : Nat) : Int) + iZ 1).toNatClampNeg = z := ⟨_, rfl⟩
  rw [izx z1] at e1
  obtain ⟨z2, e2⟩ : ∃ z : Int32, xs (iZ ((6 * k : Nat) : Int) + iZ 2).toNatClampNeg = z := ⟨_, rfl⟩
  rw [izx z2] at e2
  obtain ⟨z3, e3⟩ : ∃ z : Int32, xs (iZ ((6 * k : Nat) : Int) + iZ 3).toNatClampNeg = z := ⟨_, rfl⟩
  rw [izx z3] at e3
  obtain ⟨z4, e4⟩ : ∃ z : Int32, xs (iZ ((6 * k : Nat) : Int) + iZ 4).toNatClampNeg = z := ⟨_, rfl⟩
  rw [izx z4] at e4
  refine b221_363 hS (xin hL hk (j := 1) (by decide)) (xin hL hk (j := 2) (by decide)) (xin hL hk (j := 3) (by decide)) (xin hL hk (j := 4) (by decide)) hc.o rfl (Nat.ble_eq.mpr (by omega)) (Nat.ble_eq.mpr (by omega)) ?_
  rw [e1, e2, e3, e4]
  refine cmk hc (fun hd hl hq => j84 hd hl (iz _) (iz _) (iz _) (iz _) hq) (fun h1 hc1 kp => ?_)
  have hS1 := kp.1 0 _ (by decide) (by decide) hS
  have hr1 := hr.sub kp.2
  obtain ⟨q1, q2, q3, q4, q5, o1⟩ := hr1.o
  refine b221_387 hS1 (xin hL hk (j := 1) (by decide)) (xin hL hk (j := 2) (by decide)) (xin hL hk (j := 3) (by decide)) (xin hL hk (j := 4) (by decide)) o1 rfl (Nat.ble_eq.mpr (by omega)) (Nat.ble_eq.mpr (by omega)) ?_
  rw [e1, e2, e3, e4]
  refine rmk hr1 (fun hq => c154 hr1.1 (iz _) (iz _) (iz _) (iz _) hq) (fun h2 hr2 ex => ?_)
  refine b221_411 (fun _ => hn h2 _ _ ⟨(ex.2 0 (by decide)).trans hS1, _, _, _, _, _, _, _, _, _, _, hr2, hc1.ref ex, hg.mk (g_sum hg)⟩ (by omega) (by omega)) (fun z => absurd rfl z)
theorem wc6 (hL : L ≤ 3072) (hk : 6 * k + 6 ≤ L) (hcc : cc ≤ 25 + 9 * k) (hss : ss ≤ 3899 + 158 * k) (hS : h[0]? = some (aI L xs)) (hr : RI h c kd sz W T r f so it im) (hc : CI h c kd sz W T r f so it im) (hg : GI c kd sz W) (hn : NX L xs k) : mWp mCd 221 (416, [some (.ref 0), some (.ref 5), some (.ref 14), some (.int (iZ ((6 * k : Nat) : Int)))], [], h, cc, ss) QL := by
  obtain ⟨z1, e1⟩ : ∃ z : Int32, xs (iZ ((6 * k : Nat) : Int) + iZ 1).toNatClampNeg = z := ⟨_, rfl⟩
  rw [izx z1] at e1
  obtain ⟨z2, e2⟩ : ∃ z : Int32, xs (iZ ((6 * k : Nat) : Int) + iZ 2).toNatClampNeg = z := ⟨_, rfl⟩
  rw [izx z2] at e2
  refine b221_416 hS (xin hL hk (j := 1) (by decide)) (xin hL hk (j := 2) (by decide)) hc.o rfl (Nat.ble_eq.mpr (by omega)) (Nat.ble_eq.mpr (by omega)) ?_
  rw [e1, e2]
  refine cmk hc (fun hd hl hq => j85 hd hl (iz _) (iz _) hq) (fun h1 hc1 kp => ?_)
  have hS1 := kp.1 0 _ (by decide) (by decide) hS
  have hr1 := hr.sub kp.2
  obtain ⟨q1, q2, q3, q4, q5, o1⟩ := hr1.o
  refine b221_430 hS1 (xin hL hk (j := 1) (by decide)) (xin hL hk (j := 2) (by decide)) o1 rfl (Nat.ble_eq.mpr (by omega)) (Nat.ble_eq.mpr (by omega)) ?_
  rw [e1, e2]
  refine rmk hr1 (fun hq => c156 hr1.1 (iz _) (iz _) hq) (fun h2 hr2 ex => ?_)
  refine b221_444 (fun _ => hn h2 _ _ ⟨(ex.2 0 (by decide)).trans hS1, _, _, _, _, _, _, _, _, _, _, hr2, hc1.ref ex, hg.mk (g_dro hg)⟩ (by omega) (by omega)) (fun z => absurd rfl z)
theorem wc7 (hL : L ≤ 3072) (hk : 6 * k + 6 ≤ L) (hcc : cc ≤ 25 + 9 * k) (hss : ss ≤ 3899 + 158 * k) (hS : h[0]? = some (aI L xs)) (hr : RI h c kd sz W T r f so it im) (hc : CI h c kd sz W T r f so it im) (hg : GI c kd sz W) (hn : NX L xs k) : mWp mCd 221 (449, [some (.ref 0), some (.ref 5), some (.ref 14), some (.int (iZ ((6 * k : Nat) : Int)))], [], h, cc, ss) QL := by
  obtain ⟨z1, e1⟩ : ∃ z : Int32, xs (iZ ((6 * k : Nat) : Int) + iZ 1).toNatClampNeg = z := ⟨_, rfl⟩
  rw [izx z1] at e1
  obtain ⟨z2, e2⟩ : ∃ z : Int32, xs (iZ ((6 * k : Nat) : Int) + iZ 2).toNatClampNeg = z := ⟨_, rfl⟩
  rw [izx z2] at e2
  obtain ⟨z3, e3⟩ : ∃ z : Int32, xs (iZ ((6 * k : Nat) : Int) + iZ 3).toNatClampNeg = z := ⟨_, rfl⟩
  rw [izx z3] at e3
  refine b221_449 hS (xin hL hk (j := 1) (by decide)) (xin hL hk (j := 2) (by decide)) (xin hL hk (j := 3) (by decide)) hc.o rfl (Nat.ble_eq.mpr (by omega)) (Nat.ble_eq.mpr (by omega)) ?_
  rw [e1, e2, e3]
  refine cmk hc (fun hd hl hq => j86 hd hl (iz _) (iz _) (iz _) hq) (fun h1 hc1 kp => ?_)
  have hS1 := kp.1 0 _ (by decide) (by decide) hS
  have hr1 := hr.sub kp.2
  obtain ⟨q1, q2, q3, q4, q5, o1⟩ := hr1.o
  refine b221_468 hS1 (xin hL hk (j := 1) (by decide)) (xin hL hk (j := 2) (by decide)) (xin hL hk (j := 3) (by decide)) o1 rfl (Nat.ble_eq.mpr (by omega)) (Nat.ble_eq.mpr (by omega)) ?_
  rw [e1, e2, e3]
  refine rmk hr1 (fun hq => c157 hr1.1 (iz _) (iz _) (iz _) hq) (fun h2 hr2 ex => ?_)
  refine b221_487 (fun _ => hn h2 _ _ ⟨(ex.2 0 (by decide)).trans hS1, _, _, _, _, _, _, _, _, _, _, hr2, hc1.ref ex, hg.mk (g_joi hg)⟩ (by omega) (by omega)) (fun z => absurd rfl z)
theorem wc8 (hL : L ≤ 3072) (hk : 6 * k + 6 ≤ L) (hcc : cc ≤ 25 + 9 * k) (hss : ss ≤ 3899 + 158 * k) (hS : h[0]? = some (aI L xs)) (hr : RI h c kd sz W T r f so it im) (hc : CI h c kd sz W T r f so it im) (hg : GI c kd sz W) (hn : NX L xs k) : mWp mCd 221 (492, [some (.ref 0), some (.ref 5), some (.ref 14), some (.int (iZ ((6 * k : Nat) : Int)))], [], h, cc, ss) QL := by
  obtain ⟨z1, e1⟩ : ∃ z : Int32, xs (iZ ((6 * k : Nat) : Int) + iZ 1).toNatClampNeg = z := ⟨_, rfl⟩
  rw [izx z1] at e1
  refine b221_492 hS (xin hL hk (j := 1) (by decide)) hc.o rfl (Nat.ble_eq.mpr (by omega)) (Nat.ble_eq.mpr (by omega)) ?_
  rw [e1]
  refine cmk hc (fun hd hl hq => j87 hd hl (iz _) hg.ot hq) (fun h1 hc1 kp => ?_)
  have hS1 := kp.1 0 _ (by decide) (by decide) hS
  have hr1 := hr.sub kp.2
  obtain ⟨q1, q2, q3, q4, q5, o1⟩ := hr1.o
  refine b221_501 hS1 (xin hL hk (j := 1) (by decide)) o1 rfl (Nat.ble_eq.mpr (by omega)) (Nat.ble_eq.mpr (by omega)) ?_
  rw [e1]
  refine rmk hr1 (fun hq => c158 hr1.1 hg.ot (iz _) hq) (fun h2 hr2 ex => ?_)
  refine b221_510 (fun _ => hn h2 _ _ ⟨(ex.2 0 (by decide)).trans hS1, _, _, _, _, _, _, _, _, _, _, hr2, hc1.ref ex, hg.mk (g_oth hg)⟩ (by omega) (by omega)) (fun z => absurd rfl z)
theorem wc9 (hL : L ≤ 3072) (hk : 6 * k + 6 ≤ L) (hcc : cc ≤ 25 + 9 * k) (hss : ss ≤ 3899 + 158 * k) (hS : h[0]? = some (aI L xs)) (hr : RI h c kd sz W T r f so it im) (hc : CI h c kd sz W T r f so it im) (hg : GI c kd sz W) (hn : NX L xs k) : mWp mCd 221 (515, [some (.ref 0), some (.ref 5), some (.ref 14), some (.int (iZ ((6 * k : Nat) : Int)))], [], h, cc, ss) QL := by
  refine b221_515 hc.o rfl (Nat.ble_eq.mpr (by omega)) (Nat.ble_eq.mpr (by omega)) ?_
  refine x88 hc (fun h1 hc1 kp => ?_)
  have hS1 := kp.1 0 _ (by decide) (by decide) hS
  have hr1 := hr.sub kp.2
  obtain ⟨q1, q2, q3, q4, q5, o1⟩ := hr1.o
  refine b221_519 o1 rfl (Nat.ble_eq.mpr (by omega)) (Nat.ble_eq.mpr (by omega)) ?_
  refine y159 hr1 (fun h2 hr2 ex => ?_)
  refine b221_523 (fun _ => hn h2 _ _ ⟨(ex.2 0 (by decide)).trans hS1, _, _, _, _, _, _, _, _, _, _, hr2, hc1.ref ex, hg.less⟩ (by omega) (by omega)) (fun z => absurd rfl z)
theorem wc10 (hL : L ≤ 3072) (hk : 6 * k + 6 ≤ L) (hcc : cc ≤ 25 + 9 * k) (hss : ss ≤ 3899 + 158 * k) (hS : h[0]? = some (aI L xs)) (hr : RI h c kd sz W T r f so it im) (hc : CI h c kd sz W T r f so it im) (hg : GI c kd sz W) (hn : NX L xs k) : mWp mCd 221 (528, [some (.ref 0), some (.ref 5), some (.ref 14), some (.int (iZ ((6 * k : Nat) : Int)))], [], h, cc, ss) QL := by
  obtain ⟨z1, e1⟩ : ∃ z : Int32, xs (iZ ((6 * k : Nat) : Int) + iZ 1).toNatClampNeg = z := ⟨_, rfl⟩
  rw [izx z1] at e1
  obtain ⟨z2, e2⟩ : ∃ z : Int32, xs (iZ ((6 * k : Nat) : Int) + iZ 2).toNatClampNeg = z := ⟨_, rfl⟩
  rw [izx z2] at e2
  refine b221_528 hS (xin hL hk (j := 1) (by decide)) (xin hL hk (j := 2) (by decide)) hc.o rfl (Nat.ble_eq.mpr (by omega)) (Nat.ble_eq.mpr (by omega)) ?_
  rw [e1, e2]
  refine cask hc (fun hd hq => j89 hd (iz _) (iz _) hq) (fun h1 hc1 kp => ?_)
  have hS1 := kp.1 0 _ (by decide) (by decide) hS
  have hr1 := hr.sub kp.2
  obtain ⟨q1, q2, q3, q4, q5, o1⟩ := hr1.o
  refine b221_542 hS1 (xin hL hk (j := 1) (by decide)) (xin hL hk (j := 2) (by decide)) o1 rfl (Nat.ble_eq.mpr (by omega)) (Nat.ble_eq.mpr (by omega)) ?_
  rw [e1, e2]
  refine rask hr1 (fun rv rx hq => r192 rv rx hg.z (iz _) (iz _) hq) (fun h2 hr2 ex => ?_)
  refine b221_556 (fun _ => hn h2 _ _ ⟨(ex.2 0 (by decide)).trans hS1, _, _, _, _, _, _, _, _, _, _, hr2, hc1.ref ex, hg⟩ (by omega) (by omega)) (fun z => absurd rfl z)
theorem wc11 (hL : L ≤ 3072) (hk : 6 * k + 6 ≤ L) (hcc : cc ≤ 25 + 9 * k) (hss : ss ≤ 3899 + 158 * k) (hS : h[0]? = some (aI L xs)) (hr : RI h c kd sz W T r f so it im) (hc : CI h c kd sz W T r f so it im) (hg : GI c kd sz W) (hn : NX L xs k) : mWp mCd 221 (561, [some (.ref 0), some (.ref 5), some (.ref 14), some (.int (iZ ((6 * k : Nat) : Int)))], [], h, cc, ss) QL := by
  obtain ⟨z1, e1⟩ : ∃ z : Int32, xs (iZ ((6 * k : Nat) : Int) + iZ 1).toNatClampNeg = z := ⟨_, rfl⟩
  rw [izx z1] at e1
  obtain ⟨z2, e2⟩ : ∃ z : Int32, xs (iZ ((6 * k : Nat) : Int) + iZ 2).toNatClampNeg = z := ⟨_, rfl⟩
  rw [izx z2] at e2
  refine b221_561 hS (xin hL hk (j := 1) (by decide)) (xin hL hk (j := 2) (by decide)) hc.o rfl (Nat.ble_eq.mpr (by omega)) (Nat.ble_eq.mpr (by omega)) ?_
  rw [e1, e2]
  refine cread hc (fun hd _ hq => j90 hd (iz _) (iz _) hq) (fun h1 hc1 kp => ?_)
  have hS1 := kp.1 0 _ (by decide) (by decide) hS
  have hr1 := hr.sub kp.2
  obtain ⟨q1, q2, q3, q4, q5, o1⟩ := hr1.o
  refine b221_575 hS1 (xin hL hk (j := 1) (by decide)) (xin hL hk (j := 2) (by decide)) o1 rfl (Nat.ble_eq.mpr (by omega)) (Nat.ble_eq.mpr (by omega)) ?_
  rw [e1, e2]
  refine rread hr1 (fun rv hq => r163 rv (iz _) (iz _) hq) (fun h2 hr2 ex => ?_)
  refine b221_589 (fun _ => hn h2 _ _ ⟨(ex.2 0 (by decide)).trans hS1, _, _, _, _, _, _, _, _, _, _, hr2, hc1.ref ex, hg⟩ (by omega) (by omega)) (fun z => absurd ((lgc0 _ _).mpr rfl) z)
theorem wc12 (hL : L ≤ 3072) (hk : 6 * k + 6 ≤ L) (hcc : cc ≤ 25 + 9 * k) (hss : ss ≤ 3899 + 158 * k) (hS : h[0]? = some (aI L xs)) (hr : RI h c kd sz W T r f so it im) (hc : CI h c kd sz W T r f so it im) (hg : GI c kd sz W) (hn : NX L xs k) : mWp mCd 221 (595, [some (.ref 0), some (.ref 5), some (.ref 14), some (.int (iZ ((6 * k : Nat) : Int)))], [], h, cc, ss) QL := by
  obtain ⟨z1, e1⟩ : ∃ z : Int32, xs (iZ ((6 * k : Nat) : Int) + iZ 1).toNatClampNeg = z := ⟨_, rfl⟩
  rw [izx z1] at e1
  obtain ⟨z2, e2⟩ : ∃ z : Int32, xs (iZ ((6 * k : Nat) : Int) + iZ 2).toNatClampNeg = z := ⟨_, rfl⟩
  rw [izx z2] at e2
  obtain ⟨z3, e3⟩ : ∃ z : Int32, xs (iZ ((6 * k : Nat) : Int) + iZ 3).toNatClampNeg = z := ⟨_, rfl⟩
  rw [izx z3] at e3
  refine b221_595 hS (xin hL hk (j := 1) (by decide)) (xin hL hk (j := 2) (by decide)) (xin hL hk (j := 3) (by decide)) hc.o rfl (Nat.ble_eq.mpr (by omega)) (Nat.ble_eq.mpr (by omega)) ?_
  rw [e1, e2, e3]
  refine cread hc (fun hd _ hq => j91 hd (iz _) (iz _) (iz _) hq) (fun h1 hc1 kp => ?_)
  have hS1 := kp.1 0 _ (by decide) (by decide) hS
  have hr1 := hr.sub kp.2
  obtain ⟨q1, q2, q3, q4, q5, o1⟩ := hr1.o
  refine b221_614 hS1 (xin hL hk (j := 1) (by decide)) (xin hL hk (j := 2) (by decide)) (xin hL hk (j := 3) (by decide)) o1 rfl (Nat.ble_eq.mpr (by omega)) (Nat.ble_eq.mpr (by omega)) ?_
  rw [e1, e2, e3]
  refine rread hr1 (fun rv hq => r164 rv (iz _) (iz _) (iz _) hq) (fun h2 hr2 ex => ?_)
  refine b221_633 (fun _ => hn h2 _ _ ⟨(ex.2 0 (by decide)).trans hS1, _, _, _, _, _, _, _, _, _, _, hr2, hc1.ref ex, hg⟩ (by omega) (by omega)) (fun z => absurd ((lgc0 _ _).mpr rfl) z)
theorem wc13 (hL : L ≤ 3072) (hk : 6 * k + 6 ≤ L) (hcc : cc ≤ 25 + 9 * k) (hss : ss ≤ 3899 + 158 * k) (hS : h[0]? = some (aI L xs)) (hr : RI h c kd sz W T r f so it im) (hc : CI h c kd sz W T r f so it im) (hg : GI c kd sz W) (hn : NX L xs k) : mWp mCd 221 (639, [some (.ref 0), some (.ref 5), some (.ref 14), some (.int (iZ ((6 * k : Nat) : Int)))], [], h, cc, ss) QL := by
  obtain ⟨z1, e1⟩ : ∃ z : Int32, xs (iZ ((6 * k : Nat) : Int) + iZ 1).toNatClampNeg = z := ⟨_, rfl⟩
  rw [izx z1] at e1
  obtain ⟨z2, e2⟩ : ∃ z : Int32, xs (iZ ((6 * k : Nat) : Int) + iZ 2).toNatClampNeg = z := ⟨_, rfl⟩
  rw [izx z2] at e2
  obtain ⟨z3, e3⟩ : ∃ z : Int32, xs (iZ ((6 * k : Nat) : Int) + iZ 3).toNatClampNeg = z := ⟨_, rfl⟩
  rw [izx z3] at e3
  obtain ⟨z4, e4⟩ : ∃ z : Int32, xs (iZ ((6 * k : Nat) : Int) + iZ 4).toNatClampNeg = z := ⟨_, rfl⟩
  rw [izx z4] at e4
  refine b221_639 hS (xin hL hk (j := 1) (by decide)) (xin hL hk (j := 2) (by decide)) (xin hL hk (j := 3) (by decide)) (xin hL hk (j := 4) (by decide)) hc.o rfl (Nat.ble_eq.mpr (by omega)) (Nat.ble_eq.mpr (by omega)) ?_
  rw [e1, e2, e3, e4]
  refine cread hc (fun hd _ hq => j92 hd (iz _) (iz _) (iz _) (iz _) hq) (fun h1 hc1 kp => ?_)
  have hS1 := kp.1 0 _ (by decide) (by decide) hS
  have hr1 := hr.sub kp.2
  obtain ⟨q1, q2, q3, q4, q5, o1⟩ := hr1.o
  refine b221_663 hS1 (xin hL hk (j := 1) (by decide)) (xin hL hk (j := 2) (by decide)) (xin hL hk (j := 3) (by decide)) (xin hL hk (j := 4) (by decide)) o1 rfl (Nat.ble_eq.mpr (by omega)) (Nat.ble_eq.mpr (by omega)) ?_
  rw [e1, e2, e3, e4]
  refine rread hr1 (fun rv hq => r170 rv (iz _) (iz _) (iz _) (iz _) hq) (fun h2 hr2 ex => ?_)
  refine b221_687 (fun _ => hn h2 _ _ ⟨(ex.2 0 (by decide)).trans hS1, _, _, _, _, _, _, _, _, _, _, hr2, hc1.ref ex, hg⟩ (by omega) (by omega)) (fun z => absurd ((lgc0 _ _).mpr rfl) z)
theorem wc14 (hL : L ≤ 3072) (hk : 6 * k + 6 ≤ L) (hcc : cc ≤ 25 + 9 * k) (hss : ss ≤ 3899 + 158 * k) (hS : h[0]? = some (aI L xs)) (hr : RI h c kd sz W T r f so it im) (hc : CI h c kd sz W T r f so it im) (hg : GI c kd sz W) (hn : NX L xs k) : mWp mCd 221 (693, [some (.ref 0), some (.ref 5), some (.ref 14), some (.int (iZ ((6 * k : Nat) : Int)))], [], h, cc, ss) QL := by
  obtain ⟨z1, e1⟩ : ∃ z : Int32, xs (iZ ((6 * k : Nat) : Int) + iZ 1).toNatClampNeg = z := ⟨_, rfl⟩
  rw [izx z1] at e1
  obtain ⟨z2, e2⟩ : ∃ z : Int32, xs (iZ ((6 * k : Nat) : Int) + iZ 2).toNatClampNeg = z := ⟨_, rfl⟩
  rw [izx z2] at e2
  obtain ⟨z3, e3⟩ : ∃ z : Int32, xs (iZ ((6 * k : Nat) : Int) + iZ 3).toNatClampNeg = z := ⟨_, rfl⟩
  rw [izx z3] at e3
  obtain ⟨z4, e4⟩ : ∃ z : Int32, xs (iZ ((6 * k : Nat) : Int) + iZ 4).toNatClampNeg = z := ⟨_, rfl⟩
  rw [izx z4] at e4
  refine b221_693 hS (xin hL hk (j := 1) (by decide)) (xin hL hk (j := 2) (by decide)) (xin hL hk (j := 3) (by decide)) (xin hL hk (j := 4) (by decide)) hc.o rfl (Nat.ble_eq.mpr (by omega)) (Nat.ble_eq.mpr (by omega)) ?_
  rw [e1, e2, e3, e4]
  refine cask hc (fun hd hq => j93 hd (iz _) (iz _) (iz _) (iz _) hq) (fun h1 hc1 kp => ?_)
  have hS1 := kp.1 0 _ (by decide) (by decide) hS
  have hr1 := hr.sub kp.2
  obtain ⟨q1, q2, q3, q4, q5, o1⟩ := hr1.o
  refine b221_717 hS1 (xin hL hk (j := 1) (by decide)) (xin hL hk (j := 2) (by decide)) (xin hL hk (j := 3) (by decide)) (xin hL hk (j := 4) (by decide)) o1 rfl (Nat.ble_eq.mpr (by omega)) (Nat.ble_eq.mpr (by omega)) ?_
  rw [e1, e2, e3, e4]
  refine rread hr1 (fun rv hq => r172 rv (iz _) (iz _) (iz _) (iz _) hq) (fun h2 hr2 ex => ?_)
  refine b221_741 (fun _ => hn h2 _ _ ⟨(ex.2 0 (by decide)).trans hS1, _, _, _, _, _, _, _, _, _, _, hr2, hc1.ref ex, hg⟩ (by omega) (by omega)) (fun z => absurd ((lgc0 _ _).mpr rfl) z)
theorem wc15 (hL : L ≤ 3072) (hk : 6 * k + 6 ≤ L) (hcc : cc ≤ 25 + 9 * k) (hss : ss ≤ 3899 + 158 * k) (hS : h[0]? = some (aI L xs)) (hr : RI h c kd sz W T r f so it im) (hc : CI h c kd sz W T r f so it im) (hg : GI c kd sz W) (hn : NX L xs k) : mWp mCd 221 (747, [some (.ref 0), some (.ref 5), some (.ref 14), some (.int (iZ ((6 * k : Nat) : Int)))], [], h, cc, ss) QL := by
  obtain ⟨z1, e1⟩ : ∃ z : Int32, xs (iZ ((6 * k : Nat) : Int) + iZ 1).toNatClampNeg = z := ⟨_, rfl⟩
  rw [izx z1] at e1
  obtain ⟨z2, e2⟩ : ∃ z : Int32, xs (iZ ((6 * k : Nat) : Int) + iZ 2).toNatClampNeg = z := ⟨_, rfl⟩
  rw [izx z2] at e2
  refine b221_747 hS (xin hL hk (j := 1) (by decide)) (xin hL hk (j := 2) (by decide)) hc.o rfl (Nat.ble_eq.mpr (by omega)) (Nat.ble_eq.mpr (by omega)) ?_
  rw [e1, e2]
  refine cask hc (fun hd hq => j94 hd (iz _) (iz _) hq) (fun h1 hc1 kp => ?_)
  have hS1 := kp.1 0 _ (by decide) (by decide) hS
  have hr1 := hr.sub kp.2
  obtain ⟨q1, q2, q3, q4, q5, o1⟩ := hr1.o
  refine b221_761 hS1 (xin hL hk (j := 1) (by decide)) (xin hL hk (j := 2) (by decide)) o1 rfl (Nat.ble_eq.mpr (by omega)) (Nat.ble_eq.mpr (by omega)) ?_
  rw [e1, e2]
  refine rread hr1 (fun rv hq => r173 rv (iz _) (iz _) hq) (fun h2 hr2 ex => ?_)
  refine b221_775 (fun _ => hn h2 _ _ ⟨(ex.2 0 (by decide)).trans hS1, _, _, _, _, _, _, _, _, _, _, hr2, hc1.ref ex, hg⟩ (by omega) (by omega)) (fun z => absurd rfl z)
theorem wc16 (hL : L ≤ 3072) (hk : 6 * k + 6 ≤ L) (hcc : cc ≤ 25 + 9 * k) (hss : ss ≤ 3899 + 158 * k) (hS : h[0]? = some (aI L xs)) (hr : RI h c kd sz W T r f so it im) (hc : CI h c kd sz W T r f so it im) (hg : GI c kd sz W) (hn : NX L xs k) : mWp mCd 221 (780, [some (.ref 0), some (.ref 5), some (.ref 14), some (.int (iZ ((6 * k : Nat) : Int)))], [], h, cc, ss) QL := by
  obtain ⟨z1, e1⟩ : ∃ z : Int32, xs (iZ ((6 * k : Nat) : Int) + iZ 1).toNatClampNeg = z := ⟨_, rfl⟩
  rw [izx z1] at e1
  obtain ⟨z2, e2⟩ : ∃ z : Int32, xs (iZ ((6 * k : Nat) : Int) + iZ 2).toNatClampNeg = z := ⟨_, rfl⟩
  rw [izx z2] at e2
  obtain ⟨z3, e3⟩ : ∃ z : Int32, xs (iZ ((6 * k : Nat) : Int) + iZ 3).toNatClampNeg = z := ⟨_, rfl⟩
  rw [izx z3] at e3
  obtain ⟨z4, e4⟩ : ∃ z : Int32, xs (iZ ((6 * k : Nat) : Int) + iZ 4).toNatClampNeg = z := ⟨_, rfl⟩
  rw [izx z4] at e4
  refine b221_780 hS (xin hL hk (j := 1) (by decide)) (xin hL hk (j := 2) (by decide)) (xin hL hk (j := 3) (by decide)) (xin hL hk (j := 4) (by decide)) hc.o rfl (Nat.ble_eq.mpr (by omega)) (Nat.ble_eq.mpr (by omega)) ?_
  rw [e1, e2, e3, e4]
  refine cask hc (fun hd hq => j95 hd (iz _) (iz _) (iz _) (iz _) hq) (fun h1 hc1 kp => ?_)
  have hS1 := kp.1 0 _ (by decide) (by decide) hS
  have hr1 := hr.sub kp.2
  obtain ⟨q1, q2, q3, q4, q5, o1⟩ := hr1.o
  refine b221_804 hS1 (xin hL hk (j := 1) (by decide)) (xin hL hk (j := 2) (by decide)) (xin hL hk (j := 3) (by decide)) (xin hL hk (j := 4) (by decide)) o1 rfl (Nat.ble_eq.mpr (by omega)) (Nat.ble_eq.mpr (by omega)) ?_
  rw [e1, e2, e3, e4]
  refine rask hr1 (fun rv rx hq => r183 rv rx hg.z (iz _) (iz _) (iz _) (iz _) hq) (fun h2 hr2 ex => ?_)
  refine b221_828 (fun _ => hn h2 _ _ ⟨(ex.2 0 (by decide)).trans hS1, _, _, _, _, _, _, _, _, _, _, hr2, hc1.ref ex, hg⟩ (by omega) (by omega)) (fun z => absurd ((lgc0 _ _).mpr rfl) z)
theorem wc17 (hL : L ≤ 3072) (hk : 6 * k + 6 ≤ L) (hcc : cc ≤ 25 + 9 * k) (hss : ss ≤ 3899 + 158 * k) (hS : h[0]? = some (aI L xs)) (hr : RI h c kd sz W T r f so it im) (hc : CI h c kd sz W T r f so it im) (hg : GI c kd sz W) (hn : NX L xs k) : mWp mCd 221 (834, [some (.ref 0), some (.ref 5), some (.ref 14), some (.int (iZ ((6 * k : Nat) : Int)))], [], h, cc, ss) QL := by
  obtain ⟨z1, e1⟩ : ∃ z : Int32, xs (iZ ((6 * k : Nat) : Int) + iZ 1).toNatClampNeg = z := ⟨_, rfl⟩
  rw [izx z1] at e1
  obtain ⟨z2, e2⟩ : ∃ z : Int32, xs (iZ ((6 * k : Nat) : Int) + iZ 2).toNatClampNeg = z := ⟨_, rfl⟩
  rw [izx z2] at e2
  obtain ⟨z3, e3⟩ : ∃ z : Int32, xs (iZ ((6 * k : Nat) : Int) + iZ 3).toNatClampNeg = z := ⟨_, rfl⟩
  rw [izx z3] at e3
  obtain ⟨z4, e4⟩ : ∃ z : Int32, xs (iZ ((6 * k : Nat) : Int) + iZ 4).toNatClampNeg = z := ⟨_, rfl⟩
  rw [izx z4] at e4
  refine b221_834 hS (xin hL hk (j := 1) (by decide)) (xin hL hk (j := 2) (by decide)) (xin hL hk (j := 3) (by decide)) (xin hL hk (j := 4) (by decide)) hc.o rfl (Nat.ble_eq.mpr (by omega)) (Nat.ble_eq.mpr (by omega)) ?_
  rw [e1, e2, e3, e4]
  refine cask hc (fun hd hq => j96 hd (iz _) (iz _) (iz _) (iz _) hq) (fun h1 hc1 kp => ?_)
  have hS1 := kp.1 0 _ (by decide) (by decide) hS
  have hr1 := hr.sub kp.2
  obtain ⟨q1, q2, q3, q4, q5, o1⟩ := hr1.o
  refine b221_858 hS1 (xin hL hk (j := 1) (by decide)) (xin hL hk (j := 2) (by decide)) (xin hL hk (j := 3) (by decide)) (xin hL hk (j := 4) (by decide)) o1 rfl (Nat.ble_eq.mpr (by omega)) (Nat.ble_eq.mpr (by omega)) ?_
  rw [e1, e2, e3, e4]
  refine rask hr1 (fun rv rx hq => r184 rv rx hg.z (iz _) (iz _) (iz _) (iz _) hq) (fun h2 hr2 ex => ?_)
  refine b221_882 (fun _ => hn h2 _ _ ⟨(ex.2 0 (by decide)).trans hS1, _, _, _, _, _, _, _, _, _, _, hr2, hc1.ref ex, hg⟩ (by omega) (by omega)) (fun z => absurd ((lgc0 _ _).mpr rfl) z)
theorem wc18 (hL : L ≤ 3072) (hk : 6 * k + 6 ≤ L) (hcc : cc ≤ 25 + 9 * k) (hss : ss ≤ 3899 + 158 * k) (hS : h[0]? = some (aI L xs)) (hr : RI h c kd sz W T r f so it im) (hc : CI h c kd sz W T r f so it im) (hg : GI c kd sz W) (hn : NX L xs k) : mWp mCd 221 (888, [some (.ref 0), some (.ref 5), some (.ref 14), some (.int (iZ ((6 * k : Nat) : Int)))], [], h, cc, ss) QL := by
  obtain ⟨z1, e1⟩ : ∃ z : Int32, xs (iZ ((6 * k : Nat) : Int) + iZ 1).toNatClampNeg = z := ⟨_, rfl⟩
  rw [izx z1] at e1
  obtain ⟨z2, e2⟩ : ∃ z : Int32, xs (iZ ((6 * k : Nat) : Int) + iZ 2).toNatClampNeg = z := ⟨_, rfl⟩
  rw [izx z2] at e2
  refine b221_888 hS (xin hL hk (j := 1) (by decide)) (xin hL hk (j := 2) (by decide)) hc.o rfl (Nat.ble_eq.mpr (by omega)) (Nat.ble_eq.mpr (by omega)) ?_
  rw [e1, e2]
  refine cread hc (fun hd hl hq => j97 hd hl (iz _) (iz _) hq) (fun h1 hc1 kp => ?_)
  have hS1 := kp.1 0 _ (by decide) (by decide) hS
  have hr1 := hr.sub kp.2
  obtain ⟨q1, q2, q3, q4, q5, o1⟩ := hr1.o
  refine b221_902 hS1 (xin hL hk (j := 1) (by decide)) (xin hL hk (j := 2) (by decide)) o1 rfl (Nat.ble_eq.mpr (by omega)) (Nat.ble_eq.mpr (by omega)) ?_
  rw [e1, e2]
  refine rask hr1 (fun rv rx hq => r187 rv rx (iz _) (iz _) hq) (fun h2 hr2 ex => ?_)
  refine b221_916 (fun _ => hn h2 _ _ ⟨(ex.2 0 (by decide)).trans hS1, _, _, _, _, _, _, _, _, _, _, hr2, hc1.ref ex, hg⟩ (by omega) (by omega)) (fun z => absurd ((lgc0 _ _).mpr rfl) z)
theorem wc19 (hL : L ≤ 3072) (hk : 6 * k + 6 ≤ L) (hcc : cc ≤ 25 + 9 * k) (hss : ss ≤ 3899 + 158 * k) (hS : h[0]? = some (aI L xs)) (hr : RI h c kd sz W T r f so it im) (hc : CI h c kd sz W T r f so it im) (hg : GI c kd sz W) (hn : NX L xs k) : mWp mCd 221 (922, [some (.ref 0), some (.ref 5), some (.ref 14), some (.int (iZ ((6 * k : Nat) : Int)))], [], h, cc, ss) QL := by
  obtain ⟨z1, e1⟩ : ∃ z : Int32, xs (iZ ((6 * k : Nat) : Int) + iZ 1).toNatClampNeg = z := ⟨_, rfl⟩
  rw [izx z1] at e1
  obtain ⟨z2, e2⟩ : ∃ z : Int32, xs (iZ ((6 * k : Nat) : Int) + iZ 2).toNatClampNeg = z := ⟨_, rfl⟩
  rw [izx z2] at e2
  obtain ⟨z3, e3⟩ : ∃ z : Int32, xs (iZ ((6 * k : Nat) : Int) + iZ 3).toNatClampNeg = z := ⟨_, rfl⟩
  rw [izx z3] at e3
  refine b221_922 hS (xin hL hk (j := 1) (by decide)) (xin hL hk (j := 2) (by decide)) (xin hL hk (j := 3) (by decide)) hc.o rfl (Nat.ble_eq.mpr (by omega)) (Nat.ble_eq.mpr (by omega)) ?_
  rw [e1, e2, e3]
  refine cread hc (fun hd hl hq => j98 hd hl (iz _) (iz _) (iz _) hq) (fun h1 hc1 kp => ?_)
  have hS1 := kp.1 0 _ (by decide) (by decide) hS
  have hr1 := hr.sub kp.2
  obtain ⟨q1, q2, q3, q4, q5, o1⟩ := hr1.o
  refine b221_941 hS1 (xin hL hk (j := 1) (by decide)) (xin hL hk (j := 2) (by decide)) (xin hL hk (j := 3) (by decide)) o1 rfl (Nat.ble_eq.mpr (by omega)) (Nat.ble_eq.mpr (by omega)) ?_
  rw [e1, e2, e3]
  refine rask hr1 (fun rv rx hq => r188 rv rx (iz _) (iz _) (iz _) hq) (fun h2 hr2 ex => ?_)
  refine b221_960 (fun _ => hn h2 _ _ ⟨(ex.2 0 (by decide)).trans hS1, _, _, _, _, _, _, _, _, _, _, hr2, hc1.ref ex, hg⟩ (by omega) (by omega)) (fun z => absurd ((lgc0 _ _).mpr rfl) z)
theorem wc20 (hL : L ≤ 3072) (hk : 6 * k + 6 ≤ L) (hcc : cc ≤ 25 + 9 * k) (hss : ss ≤ 3899 + 158 * k) (hS : h[0]? = some (aI L xs)) (hr : RI h c kd sz W T r f so it im) (hc : CI h c kd sz W T r f so it im) (hg : GI c kd sz W) (hn : NX L xs k) : mWp mCd 221 (966, [some (.ref 0), some (.ref 5), some (.ref 14), some (.int (iZ ((6 * k : Nat) : Int)))], [], h, cc, ss) QL := by
  obtain ⟨z1, e1⟩ : ∃ z : Int32, xs (iZ ((6 * k : Nat) : Int) + iZ 1).toNatClampNeg = z := ⟨_, rfl⟩
  rw [izx z1] at e1
  refine b221_966 hS (xin hL hk (j := 1) (by decide)) hc.o rfl (Nat.ble_eq.mpr (by omega)) (Nat.ble_eq.mpr (by omega)) ?_
  rw [e1]
  refine cread hc (fun hd _ hq => j99 hd (iz _) hq) (fun h1 hc1 kp => ?_)
  have hS1 := kp.1 0 _ (by decide) (by decide) hS
  have hr1 := hr.sub kp.2
  obtain ⟨q1, q2, q3, q4, q5, o1⟩ := hr1.o
  refine b221_975 hS1 (xin hL hk (j := 1) (by decide)) o1 rfl (Nat.ble_eq.mpr (by omega)) (Nat.ble_eq.mpr (by omega)) ?_
  rw [e1]
  refine rread hr1 (fun rv hq => r189 rv (iz _) hq) (fun h2 hr2 ex => ?_)
  refine b221_984 (fun _ => hn h2 _ _ ⟨(ex.2 0 (by decide)).trans hS1, _, _, _, _, _, _, _, _, _, _, hr2, hc1.ref ex, hg⟩ (by omega) (by omega)) (fun z => absurd rfl z)
theorem wc21 (hL : L ≤ 3072) (hk : 6 * k + 6 ≤ L) (hcc : cc ≤ 25 + 9 * k) (hss : ss ≤ 3899 + 158 * k) (hS : h[0]? = some (aI L xs)) (hr : RI h c kd sz W T r f so it im) (hc : CI h c kd sz W T r f so it im) (hg : GI c kd sz W) (hn : NX L xs k) : mWp mCd 221 (989, [some (.ref 0), some (.ref 5), some (.ref 14), some (.int (iZ ((6 * k : Nat) : Int)))], [], h, cc, ss) QL := by
  obtain ⟨z1, e1⟩ : ∃ z : Int32, xs (iZ ((6 * k : Nat) : Int) + iZ 1).toNatClampNeg = z := ⟨_, rfl⟩
  rw [izx z1] at e1
  obtain ⟨z2, e2⟩ : ∃ z : Int32, xs (iZ ((6 * k : Nat) : Int) + iZ 2).toNatClampNeg = z := ⟨_, rfl⟩
  rw [izx z2] at e2
  obtain ⟨z3, e3⟩ : ∃ z : Int32, xs (iZ ((6 * k : Nat) : Int) + iZ 3).toNatClampNeg = z := ⟨_, rfl⟩
  rw [izx z3] at e3
  refine b221_989 hS (xin hL hk (j := 1) (by decide)) (xin hL hk (j := 2) (by decide)) (xin hL hk (j := 3) (by decide)) hc.o rfl (Nat.ble_eq.mpr (by omega)) (Nat.ble_eq.mpr (by omega)) ?_
  rw [e1, e2, e3]
  refine cread hc (fun hd _ hq => j100 hd (iz _) (iz _) (iz _) hq) (fun h1 hc1 kp => ?_)
  have hS1 := kp.1 0 _ (by decide) (by decide) hS
  have hr1 := hr.sub kp.2
  obtain ⟨q1, q2, q3, q4, q5, o1⟩ := hr1.o
  refine b221_1008 hS1 (xin hL hk (j := 1) (by decide)) (xin hL hk (j := 2) (by decide)) (xin hL hk (j := 3) (by decide)) o1 rfl (Nat.ble_eq.mpr (by omega)) (Nat.ble_eq.mpr (by omega)) ?_
  rw [e1, e2, e3]
  refine rread hr1 (fun rv hq => r193 rv (iz _) (iz _) (iz _) hq) (fun h2 hr2 ex => ?_)
  refine b221_1027 (fun _ => hn h2 _ _ ⟨(ex.2 0 (by decide)).trans hS1, _, _, _, _, _, _, _, _, _, _, hr2, hc1.ref ex, hg⟩ (by omega) (by omega)) (fun z => absurd rfl z)
theorem wc22 (hL : L ≤ 3072) (hk : 6 * k + 6 ≤ L) (hcc : cc ≤ 25 + 9 * k) (hss : ss ≤ 3899 + 158 * k) (hS : h[0]? = some (aI L xs)) (hr : RI h c kd sz W T r f so it im) (hc : CI h c kd sz W T r f so it im) (hg : GI c kd sz W) (hn : NX L xs k) : mWp mCd 221 (1032, [some (.ref 0), some (.ref 5), some (.ref 14), some (.int (iZ ((6 * k : Nat) : Int)))], [], h, cc, ss) QL := by
  obtain ⟨z1, e1⟩ : ∃ z : Int32, xs (iZ ((6 * k : Nat) : Int) + iZ 1).toNatClampNeg = z := ⟨_, rfl⟩
  rw [izx z1] at e1
  obtain ⟨z2, e2⟩ : ∃ z : Int32, xs (iZ ((6 * k : Nat) : Int) + iZ 2).toNatClampNeg = z := ⟨_, rfl⟩
  rw [izx z2] at e2
  obtain ⟨z3, e3⟩ : ∃ z : Int32, xs (iZ ((6 * k : Nat) : Int) + iZ 3).toNatClampNeg = z := ⟨_, rfl⟩
  rw [izx z3] at e3
  refine b221_1032 hS (xin hL hk (j := 1) (by decide)) (xin hL hk (j := 2) (by decide)) (xin hL hk (j := 3) (by decide)) hc.o rfl (Nat.ble_eq.mpr (by omega)) (Nat.ble_eq.mpr (by omega)) ?_
  rw [e1, e2, e3]
  refine cread hc (fun hd _ hq => j101 hd (iz _) (iz _) (iz _) hq) (fun h1 hc1 kp => ?_)
  have hS1 := kp.1 0 _ (by decide) (by decide) hS
  have hr1 := hr.sub kp.2
  obtain ⟨q1, q2, q3, q4, q5, o1⟩ := hr1.o
  refine b221_1051 hS1 (xin hL hk (j := 1) (by decide)) (xin hL hk (j := 2) (by decide)) (xin hL hk (j := 3) (by decide)) o1 rfl (Nat.ble_eq.mpr (by omega)) (Nat.ble_eq.mpr (by omega)) ?_
  rw [e1, e2, e3]
  refine rread hr1 (fun rv hq => r194 rv (iz _) (iz _) (iz _) hq) (fun h2 hr2 ex => ?_)
  refine b221_1070 (fun _ => hn h2 _ _ ⟨(ex.2 0 (by decide)).trans hS1, _, _, _, _, _, _, _, _, _, _, hr2, hc1.ref ex, hg⟩ (by omega) (by omega)) (fun z => absurd rfl z)
theorem wc23 (hL : L ≤ 3072) (hk : 6 * k + 6 ≤ L) (hcc : cc ≤ 25 + 9 * k) (hss : ss ≤ 3899 + 158 * k) (hS : h[0]? = some (aI L xs)) (hr : RI h c kd sz W T r f so it im) (hc : CI h c kd sz W T r f so it im) (hg : GI c kd sz W) (hn : NX L xs k) : mWp mCd 221 (1075, [some (.ref 0), some (.ref 5), some (.ref 14), some (.int (iZ ((6 * k : Nat) : Int)))], [], h, cc, ss) QL := by
  obtain ⟨z1, e1⟩ : ∃ z : Int32, xs (iZ ((6 * k : Nat) : Int) + iZ 1).toNatClampNeg = z := ⟨_, rfl⟩
  rw [izx z1] at e1
  refine b221_1075 hS (xin hL hk (j := 1) (by decide)) hc.o rfl (Nat.ble_eq.mpr (by omega)) (Nat.ble_eq.mpr (by omega)) ?_
  rw [e1]
  refine x102 hc (iz _) (fun h1 hc1 kp => ?_)
  have hS1 := kp.1 0 _ (by decide) (by decide) hS
  have hr1 := hr.sub kp.2
  obtain ⟨q1, q2, q3, q4, q5, o1⟩ := hr1.o
  refine b221_1084 hS1 (xin hL hk (j := 1) (by decide)) o1 rfl (Nat.ble_eq.mpr (by omega)) (Nat.ble_eq.mpr (by omega)) ?_
  rw [e1]
  refine y196 hr1 (iz _) (fun h2 hr2 ex => ?_)
  refine b221_1093 (fun _ => hn h2 _ _ ⟨(ex.2 0 (by decide)).trans hS1, _, _, _, _, _, _, _, _, _, _, hr2, hc1.ref ex, hg⟩ (by omega) (by omega)) (fun z => absurd rfl z)
theorem wc24 (hL : L ≤ 3072) (hk : 6 * k + 6 ≤ L) (hcc : cc ≤ 25 + 9 * k) (hss : ss ≤ 3899 + 158 * k) (hS : h[0]? = some (aI L xs)) (hr : RI h c kd sz W T r f so it im) (hc : CI h c kd sz W T r f so it im) (hg : GI c kd sz W) (hn : NX L xs k) : mWp mCd 221 (1098, [some (.ref 0), some (.ref 5), some (.ref 14), some (.int (iZ ((6 * k : Nat) : Int)))], [], h, cc, ss) QL := by
  obtain ⟨z1, e1⟩ : ∃ z : Int32, xs (iZ ((6 * k : Nat) : Int) + iZ 1).toNatClampNeg = z := ⟨_, rfl⟩
  rw [izx z1] at e1
  refine b221_1098 hS (xin hL hk (j := 1) (by decide)) hc.o rfl (Nat.ble_eq.mpr (by omega)) (Nat.ble_eq.mpr (by omega)) ?_
  rw [e1]
  refine x103 hc (iz _) (fun h1 hc1 kp => ?_)
  have hS1 := kp.1 0 _ (by decide) (by decide) hS
  have hr1 := hr.sub kp.2
  obtain ⟨q1, q2, q3, q4, q5, o1⟩ := hr1.o
  refine b221_1107 hS1 (xin hL hk (j := 1) (by decide)) o1 rfl (Nat.ble_eq.mpr (by omega)) (Nat.ble_eq.mpr (by omega)) ?_
  rw [e1]
  refine y197 hr1 (iz _) (fun h2 hr2 ex => ?_)
  refine b221_1116 (fun _ => hn h2 _ _ ⟨(ex.2 0 (by decide)).trans hS1, _, _, _, _, _, _, _, _, _, _, hr2, hc1.ref ex, hg⟩ (by omega) (by omega)) (fun z => absurd ((lgc0 _ _).mpr rfl) z)
theorem wc25 (hL : L ≤ 3072) (hk : 6 * k + 6 ≤ L) (hcc : cc ≤ 25 + 9 * k) (hss : ss ≤ 3899 + 158 * k) (hS : h[0]? = some (aI L xs)) (hr : RI h c kd sz W T r f so it im) (hc : CI h c kd sz W T r f so it im) (hg : GI c kd sz W) (hn : NX L xs k) : mWp mCd 221 (1122, [some (.ref 0), some (.ref 5), some (.ref 14), some (.int (iZ ((6 * k : Nat) : Int)))], [], h, cc, ss) QL := by
  obtain ⟨z1, e1⟩ : ∃ z : Int32, xs (iZ ((6 * k : Nat) : Int) + iZ 1).toNatClampNeg = z := ⟨_, rfl⟩
  rw [izx z1] at e1
  refine b221_1122 hS (xin hL hk (j := 1) (by decide)) (xin hL hk (j := 2) (by decide)) (xin hL hk (j := 3) (by decide)) hc.o rfl (Nat.ble_eq.mpr (by omega)) (Nat.ble_eq.mpr (by omega)) ?_
  rw [e1]
  refine x104 hc (iz _) (fun h1 hc1 kp => ?_)
  have hS1 := kp.1 0 _ (by decide) (by decide) hS
  have hr1 := hr.sub kp.2
  obtain ⟨q1, q2, q3, q4, q5, o1⟩ := hr1.o
  refine b221_1151 hS1 (xin hL hk (j := 1) (by decide)) (xin hL hk (j := 2) (by decide)) (xin hL hk (j := 3) (by decide)) o1 rfl (Nat.ble_eq.mpr (by omega)) (Nat.ble_eq.mpr (by omega)) ?_
  rw [e1]
  refine y198 hr1 (iz _) (fun h2 hr2 ex => ?_)
  refine b221_1180 (fun _ => hn h2 _ _ ⟨(ex.2 0 (by decide)).trans hS1, _, _, _, _, _, _, _, _, _, _, hr2, hc1.ref ex, hg⟩ (by omega) (by omega)) (fun z => absurd rfl z)
theorem wc26 (hL : L ≤ 3072) (hk : 6 * k + 6 ≤ L) (hcc : cc ≤ 25 + 9 * k) (hss : ss ≤ 3899 + 158 * k) (hS : h[0]? = some (aI L xs)) (hr : RI h c kd sz W T r f so it im) (hc : CI h c kd sz W T r f so it im) (hg : GI c kd sz W) (hn : NX L xs k) : mWp mCd 221 (1185, [some (.ref 0), some (.ref 5), some (.ref 14), some (.int (iZ ((6 * k : Nat) : Int)))], [], h, cc, ss) QL := by
  obtain ⟨z1, e1⟩ : ∃ z : Int32, xs (iZ ((6 * k : Nat) : Int) + iZ 1).toNatClampNeg = z := ⟨_, rfl⟩
  rw [izx z1] at e1
  refine b221_1185 hS (xin hL hk (j := 1) (by decide)) hc.o rfl (Nat.ble_eq.mpr (by omega)) (Nat.ble_eq.mpr (by omega)) ?_
  rw [e1]
  refine x105 hc (iz _) (fun h1 hc1 kp => ?_)
  have hS1 := kp.1 0 _ (by decide) (by decide) hS
  have hr1 := hr.sub kp.2
  obtain ⟨q1, q2, q3, q4, q5, o1⟩ := hr1.o
  refine b221_1194 hS1 (xin hL hk (j := 1) (by decide)) o1 rfl (Nat.ble_eq.mpr (by omega)) (Nat.ble_eq.mpr (by omega)) ?_
  rw [e1]
  refine y199 hr1 (iz _) (fun h2 hr2 ex => ?_)
  refine b221_1203 (fun _ => hn h2 _ _ ⟨(ex.2 0 (by decide)).trans hS1, _, _, _, _, _, _, _, _, _, _, hr2, hc1.ref ex, hg⟩ (by omega) (by omega)) (fun z => absurd rfl z)
theorem wc27 (hL : L ≤ 3072) (hk : 6 * k + 6 ≤ L) (hcc : cc ≤ 25 + 9 * k) (hss : ss ≤ 3899 + 158 * k) (hS : h[0]? = some (aI L xs)) (hr : RI h c kd sz W T r f so it im) (hc : CI h c kd sz W T r f so it im) (hg : GI c kd sz W) (hn : NX L xs k) : mWp mCd 221 (1208, [some (.ref 0), some (.ref 5), some (.ref 14), some (.int (iZ ((6 * k : Nat) : Int)))], [], h, cc, ss) QL := by
  obtain ⟨z1, e1⟩ : ∃ z : Int32, xs (iZ ((6 * k : Nat) : Int) + iZ 1).toNatClampNeg = z := ⟨_, rfl⟩
  rw [izx z1] at e1
  obtain ⟨z2, e2⟩ : ∃ z : Int32, xs (iZ ((6 * k : Nat) : Int) + iZ 2).toNatClampNeg = z := ⟨_, rfl⟩
  rw [izx z2] at e2
  refine b221_1208 hS (xin hL hk (j := 1) (by decide)) (xin hL hk (j := 2) (by decide)) (xin hL hk (j := 3) (by decide)) hc.o rfl (Nat.ble_eq.mpr (by omega)) (Nat.ble_eq.mpr (by omega)) ?_
  rw [e1, e2]
  refine x106 hc (iz _) (iz _) (fun h1 hc1 kp => ?_)
  have hS1 := kp.1 0 _ (by decide) (by decide) hS
  have hr1 := hr.sub kp.2
  obtain ⟨q1, q2, q3, q4, q5, o1⟩ := hr1.o
  refine b221_1227 hS1 (xin hL hk (j := 1) (by decide)) (xin hL hk (j := 2) (by decide)) (xin hL hk (j := 3) (by decide)) o1 rfl (Nat.ble_eq.mpr (by omega)) (Nat.ble_eq.mpr (by omega)) ?_
  rw [e1, e2]
  refine y207 hr1 (iz _) (iz _) (fun h2 hr2 ex => ?_)
  refine b221_1246 (fun _ => hn h2 _ _ ⟨(ex.2 0 (by decide)).trans hS1, _, _, _, _, _, _, _, _, _, _, hr2, hc1.ref ex, hg⟩ (by omega) (by omega)) (fun z => absurd rfl z)
theorem wc28 (hL : L ≤ 3072) (hk : 6 * k + 6 ≤ L) (hcc : cc ≤ 25 + 9 * k) (hss : ss ≤ 3899 + 158 * k) (hS : h[0]? = some (aI L xs)) (hr : RI h c kd sz W T r f so it im) (hc : CI h c kd sz W T r f so it im) (hg : GI c kd sz W) (hn : NX L xs k) : mWp mCd 221 (1251, [some (.ref 0), some (.ref 5), some (.ref 14), some (.int (iZ ((6 * k : Nat) : Int)))], [], h, cc, ss) QL := by
  obtain ⟨z1, e1⟩ : ∃ z : Int32, xs (iZ ((6 * k : Nat) : Int) + iZ 1).toNatClampNeg = z := ⟨_, rfl⟩
  rw [izx z1] at e1
  refine b221_1251 hS (xin hL hk (j := 1) (by decide)) hc.o rfl (Nat.ble_eq.mpr (by omega)) (Nat.ble_eq.mpr (by omega)) ?_
  rw [e1]
  refine x107 hc (iz _) (fun h1 hc1 kp => ?_)
  have hS1 := kp.1 0 _ (by decide) (by decide) hS
  have hr1 := hr.sub kp.2
  obtain ⟨q1, q2, q3, q4, q5, o1⟩ := hr1.o
  refine b221_1260 hS1 (xin hL hk (j := 1) (by decide)) o1 rfl (Nat.ble_eq.mpr (by omega)) (Nat.ble_eq.mpr (by omega)) ?_
  rw [e1]
  refine y208 hr1 (iz _) (fun h2 hr2 ex => ?_)
  refine b221_1269 (fun _ => hn h2 _ _ ⟨(ex.2 0 (by decide)).trans hS1, _, _, _, _, _, _, _, _, _, _, hr2, hc1.ref ex, hg⟩ (by omega) (by omega)) (fun z => absurd rfl z)
theorem wc29 (hL : L ≤ 3072) (hk : 6 * k + 6 ≤ L) (hcc : cc ≤ 25 + 9 * k) (hss : ss ≤ 3899 + 158 * k) (hS : h[0]? = some (aI L xs)) (hr : RI h c kd sz W T r f so it im) (hc : CI h c kd sz W T r f so it im) (hg : GI c kd sz W) (hn : NX L xs k) : mWp mCd 221 (1274, [some (.ref 0), some (.ref 5), some (.ref 14), some (.int (iZ ((6 * k : Nat) : Int)))], [], h, cc, ss) QL := by
  obtain ⟨z1, e1⟩ : ∃ z : Int32, xs (iZ ((6 * k : Nat) : Int) + iZ 1).toNatClampNeg = z := ⟨_, rfl⟩
  rw [izx z1] at e1
  refine b221_1274 hS (xin hL hk (j := 1) (by decide)) hc.o rfl (Nat.ble_eq.mpr (by omega)) (Nat.ble_eq.mpr (by omega)) ?_
  rw [e1]
  refine x108 hc (iz _) (fun h1 hc1 kp => ?_)
  have hS1 := kp.1 0 _ (by decide) (by decide) hS
  have hr1 := hr.sub kp.2
  obtain ⟨q1, q2, q3, q4, q5, o1⟩ := hr1.o
  refine b221_1283 hS1 (xin hL hk (j := 1) (by decide)) o1 rfl (Nat.ble_eq.mpr (by omega)) (Nat.ble_eq.mpr (by omega)) ?_
  rw [e1]
  refine y209 hr1 (iz _) (fun h2 hr2 ex => ?_)
  refine b221_1292 (fun _ => hn h2 _ _ ⟨(ex.2 0 (by decide)).trans hS1, _, _, _, _, _, _, _, _, _, _, hr2, hc1.ref ex, hg⟩ (by omega) (by omega)) (fun z => absurd rfl z)
theorem wc30 (hL : L ≤ 3072) (hk : 6 * k + 6 ≤ L) (hcc : cc ≤ 25 + 9 * k) (hss : ss ≤ 3899 + 158 * k) (hS : h[0]? = some (aI L xs)) (hr : RI h c kd sz W T r f so it im) (hc : CI h c kd sz W T r f so it im) (hg : GI c kd sz W) (hn : NX L xs k) : mWp mCd 221 (1297, [some (.ref 0), some (.ref 5), some (.ref 14), some (.int (iZ ((6 * k : Nat) : Int)))], [], h, cc, ss) QL := by
  obtain ⟨z1, e1⟩ : ∃ z : Int32, xs (iZ ((6 * k : Nat) : Int) + iZ 1).toNatClampNeg = z := ⟨_, rfl⟩
  rw [izx z1] at e1
  obtain ⟨z2, e2⟩ : ∃ z : Int32, xs (iZ ((6 * k : Nat) : Int) + iZ 2).toNatClampNeg = z := ⟨_, rfl⟩
  rw [izx z2] at e2
  obtain ⟨z3, e3⟩ : ∃ z : Int32, xs (iZ ((6 * k : Nat) : Int) + iZ 3).toNatClampNeg = z := ⟨_, rfl⟩
  rw [izx z3] at e3
  refine b221_1297 hS (xin hL hk (j := 1) (by decide)) (xin hL hk (j := 2) (by decide)) (xin hL hk (j := 3) (by decide)) hc.o rfl (Nat.ble_eq.mpr (by omega)) (Nat.ble_eq.mpr (by omega)) ?_
  rw [e1, e2, e3]
  refine x109 hc (iz _) (iz _) (iz _) (fun h1 hc1 kp => ?_)
  have hS1 := kp.1 0 _ (by decide) (by decide) hS
  have hr1 := hr.sub kp.2
  obtain ⟨q1, q2, q3, q4, q5, o1⟩ := hr1.o
  refine b221_1316 hS1 (xin hL hk (j := 1) (by decide)) (xin hL hk (j := 2) (by decide)) (xin hL hk (j := 3) (by decide)) o1 rfl (Nat.ble_eq.mpr (by omega)) (Nat.ble_eq.mpr (by omega)) ?_
  rw [e1, e2, e3]
  refine y211 hr1 (iz _) (iz _) (iz _) (fun h2 hr2 ex => ?_)
  refine b221_1335 (fun _ => hn h2 _ _ ⟨(ex.2 0 (by decide)).trans hS1, _, _, _, _, _, _, _, _, _, _, hr2, hc1.ref ex, hg⟩ (by omega) (by omega)) (fun z => absurd rfl z)
theorem wc31 (hL : L ≤ 3072) (hk : 6 * k + 6 ≤ L) (hcc : cc ≤ 25 + 9 * k) (hss : ss ≤ 3899 + 158 * k) (hS : h[0]? = some (aI L xs)) (hr : RI h c kd sz W T r f so it im) (hc : CI h c kd sz W T r f so it im) (hg : GI c kd sz W) (hn : NX L xs k) : mWp mCd 221 (1340, [some (.ref 0), some (.ref 5), some (.ref 14), some (.int (iZ ((6 * k : Nat) : Int)))], [], h, cc, ss) QL := by
  obtain ⟨z1, e1⟩ : ∃ z : Int32, xs (iZ ((6 * k : Nat) : Int) + iZ 1).toNatClampNeg = z := ⟨_, rfl⟩
  rw [izx z1] at e1
  obtain ⟨z2, e2⟩ : ∃ z : Int32, xs (iZ ((6 * k : Nat) : Int) + iZ 2).toNatClampNeg = z := ⟨_, rfl⟩
  rw [izx z2] at e2
  obtain ⟨z3, e3⟩ : ∃ z : Int32, xs (iZ ((6 * k : Nat) : Int) + iZ 3).toNatClampNeg = z := ⟨_, rfl⟩
  rw [izx z3] at e3
  refine b221_1340 hS (xin hL hk (j := 1) (by decide)) (xin hL hk (j := 2) (by decide)) (xin hL hk (j := 3) (by decide)) hc.o rfl (Nat.ble_eq.mpr (by omega)) (Nat.ble_eq.mpr (by omega)) ?_
  rw [e1, e2, e3]
  refine x110 hc (iz _) (iz _) (iz _) (fun h1 hc1 kp => ?_)
  have hS1 := kp.1 0 _ (by decide) (by decide) hS
  have hr1 := hr.sub kp.2
  obtain ⟨q1, q2, q3, q4, q5, o1⟩ := hr1.o
  refine b221_1359 hS1 (xin hL hk (j := 1) (by decide)) (xin hL hk (j := 2) (by decide)) (xin hL hk (j := 3) (by decide)) o1 rfl (Nat.ble_eq.mpr (by omega)) (Nat.ble_eq.mpr (by omega)) ?_
  rw [e1, e2, e3]
  refine y212 hr1 (iz _) (iz _) (iz _) (fun h2 hr2 ex => ?_)
  refine b221_1378 (fun _ => hn h2 _ _ ⟨(ex.2 0 (by decide)).trans hS1, _, _, _, _, _, _, _, _, _, _, hr2, hc1.ref ex, hg⟩ (by omega) (by omega)) (fun z => absurd rfl z)
theorem wc32 (hL : L ≤ 3072) (hk : 6 * k + 6 ≤ L) (hcc : cc ≤ 25 + 9 * k) (hss : ss ≤ 3899 + 158 * k) (hS : h[0]? = some (aI L xs)) (hr : RI h c kd sz W T r f so it im) (hc : CI h c kd sz W T r f so it im) (hg : GI c kd sz W) (hn : NX L xs k) : mWp mCd 221 (1383, [some (.ref 0), some (.ref 5), some (.ref 14), some (.int (iZ ((6 * k : Nat) : Int)))], [], h, cc, ss) QL := by
  obtain ⟨z1, e1⟩ : ∃ z : Int32, xs (iZ ((6 * k : Nat) : Int) + iZ 1).toNatClampNeg = z := ⟨_, rfl⟩
  rw [izx z1] at e1
  obtain ⟨z2, e2⟩ : ∃ z : Int32, xs (iZ ((6 * k : Nat) : Int) + iZ 2).toNatClampNeg = z := ⟨_, rfl⟩
  rw [izx z2] at e2
  obtain ⟨z3, e3⟩ : ∃ z : Int32, xs (iZ ((6 * k : Nat) : Int) + iZ 3).toNatClampNeg = z := ⟨_, rfl⟩
  rw [izx z3] at e3
  obtain ⟨z4, e4⟩ : ∃ z : Int32, xs (iZ ((6 * k : Nat) : Int) + iZ 4).toNatClampNeg = z := ⟨_, rfl⟩
  rw [izx z4] at e4
  refine b221_1383 hS (xin hL hk (j := 1) (by decide)) (xin hL hk (j := 2) (by decide)) (xin hL hk (j := 3) (by decide)) (xin hL hk (j := 4) (by decide)) hc.o rfl (Nat.ble_eq.mpr (by omega)) (Nat.ble_eq.mpr (by omega)) ?_
  rw [e1, e2, e3, e4]
  refine x111 hc (iz _) (iz _) (iz _) (iz _) (fun h1 hc1 kp => ?_)
  have hS1 := kp.1 0 _ (by decide) (by decide) hS
  have hr1 := hr.sub kp.2
  obtain ⟨q1, q2, q3, q4, q5, o1⟩ := hr1.o
  refine b221_1407 hS1 (xin hL hk (j := 1) (by decide)) (xin hL hk (j := 2) (by decide)) (xin hL hk (j := 3) (by decide)) (xin hL hk (j := 4) (by decide)) o1 rfl (Nat.ble_eq.mpr (by omega)) (Nat.ble_eq.mpr (by omega)) ?_
  rw [e1, e2, e3, e4]
  refine y213 hr1 (iz _) (iz _) (iz _) (iz _) (fun h2 hr2 ex => ?_)
  refine b221_1431 (fun _ => hn h2 _ _ ⟨(ex.2 0 (by decide)).trans hS1, _, _, _, _, _, _, _, _, _, _, hr2, hc1.ref ex, g_lay hg⟩ (by omega) (by omega)) (fun z => absurd rfl z)
theorem wc33 (hL : L ≤ 3072) (hk : 6 * k + 6 ≤ L) (hcc : cc ≤ 25 + 9 * k) (hss : ss ≤ 3899 + 158 * k) (hS : h[0]? = some (aI L xs)) (hr : RI h c kd sz W T r f so it im) (hc : CI h c kd sz W T r f so it im) (hg : GI c kd sz W) (hn : NX L xs k) : mWp mCd 221 (1436, [some (.ref 0), some (.ref 5), some (.ref 14), some (.int (iZ ((6 * k : Nat) : Int)))], [], h, cc, ss) QL := by
  obtain ⟨z1, e1⟩ : ∃ z : Int32, xs (iZ ((6 * k : Nat) : Int) + iZ 1).toNatClampNeg = z := ⟨_, rfl⟩
  rw [izx z1] at e1
  obtain ⟨z2, e2⟩ : ∃ z : Int32, xs (iZ ((6 * k : Nat) : Int) + iZ 2).toNatClampNeg = z := ⟨_, rfl⟩
  rw [izx z2] at e2
  obtain ⟨z3, e3⟩ : ∃ z : Int32, xs (iZ ((6 * k : Nat) : Int) + iZ 3).toNatClampNeg = z := ⟨_, rfl⟩
  rw [izx z3] at e3
  obtain ⟨z4, e4⟩ : ∃ z : Int32, xs (iZ ((6 * k : Nat) : Int) + iZ 4).toNatClampNeg = z := ⟨_, rfl⟩
  rw [izx z4] at e4
  obtain ⟨z5, e5⟩ : ∃ z : Int32, xs (iZ ((6 * k : Nat) : Int) + iZ 5).toNatClampNeg = z := ⟨_, rfl⟩
  rw [izx z5] at e5
  refine b221_1436 hS (xin hL hk (j := 1) (by decide)) (xin hL hk (j := 2) (by decide)) (xin hL hk (j := 3) (by decide)) (xin hL hk (j := 4) (by decide)) (xin hL hk (j := 5) (by decide)) hc.o rfl (Nat.ble_eq.mpr (by omega)) (Nat.ble_eq.mpr (by omega)) ?_
  rw [e1, e2, e3, e4, e5]
  refine x112 hc (iz _) (iz _) (iz _) (iz _) (iz _) (fun h1 hc1 kp => ?_)
  have hS1 := kp.1 0 _ (by decide) (by decide) hS
  have hr1 := hr.sub kp.2
  obtain ⟨q1, q2, q3, q4, q5, o1⟩ := hr1.o
  refine b221_1465 hS1 (xin hL hk (j := 1) (by decide)) (xin hL hk (j := 2) (by decide)) (xin hL hk (j := 3) (by decide)) (xin hL hk (j := 4) (by decide)) (xin hL hk (j := 5) (by decide)) o1 rfl (Nat.ble_eq.mpr (by omega)) (Nat.ble_eq.mpr (by omega)) ?_
  rw [e1, e2, e3, e4, e5]
  refine y214 hr1 (iz _) (iz _) (iz _) (iz _) (iz _) (fun h2 hr2 ex => ?_)
  refine b221_1494 (fun _ => hn h2 _ _ ⟨(ex.2 0 (by decide)).trans hS1, _, _, _, _, _, _, _, _, _, _, hr2, hc1.ref ex, hg⟩ (by omega) (by omega)) (fun z => absurd rfl z)
theorem wc34 (hL : L ≤ 3072) (hk : 6 * k + 6 ≤ L) (hcc : cc ≤ 25 + 9 * k) (hss : ss ≤ 3899 + 158 * k) (hS : h[0]? = some (aI L xs)) (hr : RI h c kd sz W T r f so it im) (hc : CI h c kd sz W T r f so it im) (hg : GI c kd sz W) (hn : NX L xs k) : mWp mCd 221 (1499, [some (.ref 0), some (.ref 5), some (.ref 14), some (.int (iZ ((6 * k : Nat) : Int)))], [], h, cc, ss) QL := by
  obtain ⟨z1, e1⟩ : ∃ z : Int32, xs (iZ ((6 * k : Nat) : Int) + iZ 1).toNatClampNeg = z := ⟨_, rfl⟩
  rw [izx z1] at e1
  obtain ⟨z2, e2⟩ : ∃ z : Int32, xs (iZ ((6 * k : Nat) : Int) + iZ 2).toNatClampNeg = z := ⟨_, rfl⟩
  rw [izx z2] at e2
  refine b221_1499 hS (xin hL hk (j := 1) (by decide)) (xin hL hk (j := 2) (by decide)) hc.o rfl (Nat.ble_eq.mpr (by omega)) (Nat.ble_eq.mpr (by omega)) ?_
  rw [e1, e2]
  refine cread hc (fun hd _ hq => j113 hd (iz _) (iz _) hq) (fun h1 hc1 kp => ?_)
  have hS1 := kp.1 0 _ (by decide) (by decide) hS
  have hr1 := hr.sub kp.2
  obtain ⟨q1, q2, q3, q4, q5, o1⟩ := hr1.o
  refine b221_1513 hS1 (xin hL hk (j := 1) (by decide)) (xin hL hk (j := 2) (by decide)) o1 rfl (Nat.ble_eq.mpr (by omega)) (Nat.ble_eq.mpr (by omega)) ?_
  rw [e1, e2]
  refine rread hr1 (fun rv hq => r215 rv (iz _) (iz _) hq) (fun h2 hr2 ex => ?_)
  refine b221_1527 (fun _ => hn h2 _ _ ⟨(ex.2 0 (by decide)).trans hS1, _, _, _, _, _, _, _, _, _, _, hr2, hc1.ref ex, hg⟩ (by omega) (by omega)) (fun z => absurd rfl z)
end LW
