/-! ===== rules for runs of the small machine ===== -/
def mRun (cd : Nat → mA) : Nat → mS → Option mS
  | 0, t => some t
  | n + 1, (pc, L, st, h, c, s) => match cd pc L st h c s with
    | some (.inl t) => mRun cd n t
    | _ => none
section RULES
variable {j pc : Nat} {L : mL} {st : List Value} {h : mH} {c s : Nat} {Q : Option Value → mH → Prop}
theorem mWp_run (n : Nat) {t t' : mS} (e : mRun (mCd j) n t = some t') (x : mWp mCd j t' Q) : mWp mCd j t Q := by
  induction n generalizing t with
  | zero => simp only [mRun, Option.some.injEq] at e; rw [e]; exact x
  | succ n ih =>
    obtain ⟨pc, L, st, h, c, s⟩ := t
    unfold mRun at e
    split at e
    · next t2 e2 => exact mWp_n e2 (ih e)
    · cases e
theorem mWp_gf {n k a ci : Nat} {cs : List Nat} {fs r : List Value} {v : Value} (e : mCd j pc = a_getf n k cs) (h1 : h[a]? = some (.inr (ci, fs))) (h2 : cs.contains ci = true) (h3 : fs[k]? = some v) (x : mWp mCd j (n, L, v :: r, h, c, s) Q) : mWp mCd j (pc, L, .ref a :: r, h, c, s) Q := by
  refine mWp_n (t := (n, L, v :: r, h, c, s)) ?_ x
  rw [e]
  simp only [a_getf, h1, h2, h3]
theorem mWp_pf {n k kd a ci : Nat} {cs : List Nat} {fs r : List Value} {v : Value} (e : mCd j pc = a_putf n k kd cs) (h1 : h[a]? = some (.inr (ci, fs))) (h2 : cs.contains ci = true) (h3 : mPok kd v = true) (h4 : Nat.blt k fs.length = true) (x : mWp mCd j (n, L, r, h.set a (.inr (ci, fs.set k v)), c, s) Q) : mWp mCd j (pc, L, v :: .ref a :: r, h, c, s) Q := by
  refine mWp_n (t := (n, L, r, h.set a (.inr (ci, fs.set k v)), c, s)) ?_ x
  rw [e]
  simp only [a_putf, h1, h2, h3, h4]
theorem mWp_ial {n a m : Nat} {i : Int32} {f : Nat → Int32} {r : List Value} (e : mCd j pc = a_iald n) (h1 : h[a]? = some (.inl (0, m, .inl f))) (h2 : ¬ (i < 0 ∨ m ≤ i.toNatClampNeg)) (x : mWp mCd j (n, L, .int (f i.toNatClampNeg) :: r, h, c, s) Q) : mWp mCd j (pc, L, .int i :: .ref a :: r, h, c, s) Q := by
  refine mWp_n (t := (n, L, .int (f i.toNatClampNeg) :: r, h, c, s)) ?_ x
  rw [e]
  simp only [a_iald, h1, if_neg h2]
theorem mWp_lal {n a m : Nat} {i : Int32} {f : Nat → Int64} {r : List Value} (e : mCd j pc = a_lald n) (h1 : h[a]? = some (.inl (1, m, .inr (.inl f)))) (h2 : ¬ (i < 0 ∨ m ≤ i.toNatClampNeg)) (x : mWp mCd j (n, L, .long (f i.toNatClampNeg) :: r, h, c, s) Q) : mWp mCd j (pc, L, .int i :: .ref a :: r, h, c, s) Q := by
  refine mWp_n (t := (n, L, .long (f i.toNatClampNeg) :: r, h, c, s)) ?_ x
  rw [e]
  simp only [a_lald, h1, if_neg h2]
theorem mWp_aal {n a m t : Nat} {i : Int32} {f : Nat → Option Nat} {r : List Value} {v : Value} (e : mCd j pc = a_aald n) (ht : t = 2 ∨ t = 3) (h1 : h[a]? = some (.inl (t, m, .inr (.inr (.inr (.inr f)))))) (h2 : ¬ (i < 0 ∨ m ≤ i.toNatClampNeg)) (h3 : va_rf (f i.toNatClampNeg) = v) (x : mWp mCd j (n, L, v :: r, h, c, s) Q) : mWp mCd j (pc, L, .int i :: .ref a :: r, h, c, s) Q := by
  refine mWp_n (t := (n, L, v :: r, h, c, s)) ?_ x
  rw [e]
  rcases ht with rfl | rfl
  · simp only [a_aald, h1, if_neg h2, h3]
  · simp only [a_aald, h1, if_neg h2, h3]
theorem mWp_aln {n a t : Nat} {y : vp_A} {r : List Value} (e : mCd j pc = a_alen n) (h1 : h[a]? = some (.inl (t, y))) (h2 : t < 4) (x : mWp mCd j (n, L, .int (Int32.ofNat y.1) :: r, h, c, s) Q) : mWp mCd j (pc, L, .ref a :: r, h, c, s) Q := by
  refine mWp_n (t := (n, L, .int (Int32.ofNat y.1) :: r, h, c, s)) ?_ x
  rw [e]
  simp only [a_alen, h1, if_pos h2]
theorem mWp_ias {n a m : Nat} {i y : Int32} {f : Nat → Int32} {r : List Value} (e : mCd j pc = a_iast n) (h5 : 5 ≤ a) (h1 : h[a]? = some (.inl (0, m, .inl f))) (h2 : ¬ (i < 0 ∨ m ≤ i.toNatClampNeg)) (x : mWp mCd j (n, L, r, h.set a (.inl (0, m, .inl (upd f i.toNatClampNeg y))), c, s) Q) : mWp mCd j (pc, L, .int y :: .int i :: .ref a :: r, h, c, s) Q := by
  refine mWp_n (t := (n, L, r, h.set a (.inl (0, m, .inl (upd f i.toNatClampNeg y))), c, s)) ?_ x
  rw [e]
  simp only [a_iast, h1, Nat.ble_eq_true_of_le h5, if_neg h2]
theorem mWp_las {n a m : Nat} {i : Int32} {y : Int64} {f : Nat → Int64} {r : List Value} (e : mCd j pc = a_last n) (h5 : 5 ≤ a) (h1 : h[a]? = some (.inl (1, m, .inr (.inl f)))) (h2 : ¬ (i < 0 ∨ m ≤ i.toNatClampNeg)) (x : mWp mCd j (n, L, r, h.set a (.inl (1, m, .inr (.inl (vp_updL f i.toNatClampNeg y)))), c, s) Q) : mWp mCd j (pc, L, .long y :: .int i :: .ref a :: r, h, c, s) Q := by
  refine mWp_n (t := (n, L, r, h.set a (.inl (1, m, .inr (.inl (vp_updL f i.toNatClampNeg y)))), c, s)) ?_ x
  rw [e]
  simp only [a_last, h1, Nat.ble_eq_true_of_le h5, if_neg h2]
theorem mWp_aas {n a m t v ci : Nat} {i : Int32} {f : Nat → Option Nat} {vs r : List Value} (e : mCd j pc = a_aast n) (h5 : 5 ≤ a) (h1 : h[a]? = some (.inl (t, m, .inr (.inr (.inr (.inr f)))))) (h3 : h[v]? = some (.inr (ci, vs))) (h4 : mCok t ci = true) (h2 : ¬ (i < 0 ∨ m ≤ i.toNatClampNeg)) (x : mWp mCd j (n, L, r, h.set a (.inl (t, m, .inr (.inr (.inr (.inr (va_up f i.toNatClampNeg (some v))))))), c, s) Q) : mWp mCd j (pc, L, .ref v :: .int i :: .ref a :: r, h, c, s) Q := by
  refine mWp_n (t := (n, L, r, h.set a (.inl (t, m, .inr (.inr (.inr (.inr (va_up f i.toNatClampNeg (some v))))))), c, s)) ?_ x
  rw [e]
  simp only [a_aast, h1, h3, Nat.ble_eq_true_of_le h5, h4, if_neg h2]
theorem mWp_aan {n a m t : Nat} {i : Int32} {f : Nat → Option Nat} {r : List Value} (e : mCd j pc = a_aast n) (h5 : 5 ≤ a) (h1 : h[a]? = some (.inl (t, m, .inr (.inr (.inr (.inr f)))))) (h4 : t = 2 ∨ t = 3) (h2 : ¬ (i < 0 ∨ m ≤ i.toNatClampNeg)) (x : mWp mCd j (n, L, r, h.set a (.inl (t, m, .inr (.inr (.inr (.inr (va_up f i.toNatClampNeg none)))))), c, s) Q) : mWp mCd j (pc, L, .null :: .int i :: .ref a :: r, h, c, s) Q := by
  refine mWp_n (t := (n, L, r, h.set a (.inl (t, m, .inr (.inr (.inr (.inr (va_up f i.toNatClampNeg none)))))), c, s)) ?_ x
  rw [e]
  simp only [a_aast, h1, Nat.ble_eq_true_of_le h5, if_pos h4, if_neg h2]
theorem mWp_idv {n : Nat} {f : Int32 → Int32 → Int32} {a b : Int32} {r : List Value} (e : mCd j pc = a_iid n f) (h1 : ¬ b = 0) (x : mWp mCd j (n, L, .int (f a b) :: r, h, c, s) Q) : mWp mCd j (pc, L, .int b :: .int a :: r, h, c, s) Q := by
  refine mWp_n (t := (n, L, .int (f a b) :: r, h, c, s)) ?_ x
  rw [e]
  simp only [a_iid, if_neg h1]
theorem mWp_ldv {n : Nat} {f : Int64 → Int64 → Int64} {a b : Int64} {r : List Value} (e : mCd j pc = a_lld n f) (h1 : ¬ b = 0) (x : mWp mCd j (n, L, .long (f a b) :: r, h, c, s) Q) : mWp mCd j (pc, L, .long b :: .long a :: r, h, c, s) Q := by
  refine mWp_n (t := (n, L, .long (f a b) :: r, h, c, s)) ?_ x
  rw [e]
  simp only [a_lld, if_neg h1]
theorem mWp_if {n t : Nat} {P : Int32 → Prop} [DecidablePred P] {a : Int32} {r : List Value} (e : mCd j pc = a_if n t (fun x => decide (P x))) (x1 : P a → mWp mCd j (t, L, r, h, c, s) Q) (x2 : ¬ P a → mWp mCd j (n, L, r, h, c, s) Q) : mWp mCd j (pc, L, .int a :: r, h, c, s) Q := by
  by_cases hP : P a
  · refine mWp_n (t := (t, L, r, h, c, s)) ?_ (x1 hP)
    rw [e]
    simp only [a_if, decide_eq_true hP, cond_true]
  · refine mWp_n (t := (n, L, r, h, c, s)) ?_ (x2 hP)
    rw [e]
    simp only [a_if, decide_eq_false hP, cond_false]
theorem mWp_ic {n t : Nat} {P : Int32 → Int32 → Prop} [∀ x y, Decidable (P x y)] {a b : Int32} {r : List Value} (e : mCd j pc = a_icmp n t (fun x y => decide (P x y))) (x1 : P a b → mWp mCd j (t, L, r, h, c, s) Q) (x2 : ¬ P a b → mWp mCd j (n, L, r, h, c, s) Q) : mWp mCd j (pc, L, .int b :: .int a :: r, h, c, s) Q := by
  by_cases hP : P a b
  · refine mWp_n (t := (t, L, r, h, c, s)) ?_ (x1 hP)
    rw [e]
    simp only [a_icmp, decide_eq_true hP, cond_true]
  · refine mWp_n (t := (n, L, r, h, c, s)) ?_ (x2 hP)
    rw [e]
    simp only [a_icmp, decide_eq_false hP, cond_false]
theorem mWp_ts {d : Nat} {lo hi : Int} {ts : List Nat} {a : Int32} {r : List Value} (e : mCd j pc = a_tsw d lo hi ts) (x1 : (a.toInt < lo ∨ hi < a.toInt) → mWp mCd j (d, L, r, h, c, s) Q) (x2 : ¬ (a.toInt < lo ∨ hi < a.toInt) → ∃ t, ts[(a.toInt - lo).toNat]? = some t ∧ mWp mCd j (t, L, r, h, c, s) Q) : mWp mCd j (pc, L, .int a :: r, h, c, s) Q := by
  by_cases hP : a.toInt < lo ∨ hi < a.toInt
  · refine mWp_n (t := (d, L, r, h, c, s)) ?_ (x1 hP)
    rw [e]
    simp only [a_tsw, if_pos hP]
  · obtain ⟨t, y1, y2⟩ := x2 hP
    refine mWp_n (t := (t, L, r, h, c, s)) ?_ y2
    rw [e]
    simp only [a_tsw, if_neg hP, y1]
theorem mWp_iv {n na mc ms a ci k cm cs : Nat} {sel : List (Nat × Nat × Nat × Nat)} {as fs r : List Value} (e : mCd j pc = a_invV n na mc ms sel) (h0 : mPop na [] st = some (as, .ref a :: r)) (h1 : h[a]? = some (.inr (ci, fs))) (h2 : mSel sel ci = some (k, cm, cs)) (h3 : Nat.ble (c + cm) mc = true) (h4 : Nat.ble (s + cs) ms = true) (h5 : Nat.ble (r.map fun v => v.category).sum 8 = true) (x : mCt mCd k (.ref a :: as) h (fun r1 h2 => mWp mCd j (n, L, r1.toList ++ r, h2, c + cm, s + cs) Q)) : mWp mCd j (pc, L, st, h, c, s) Q := by
  refine mWp_c (k := k) (as := .ref a :: as) (pc' := n) (L' := L) (st' := r) (c' := c + cm) (s' := s + cs) ?_ x
  rw [e]
  simp only [a_invV, h0, h1, h2, h3, h4, h5]
theorem mWp_cp {n lo t d a n0 n1 : Nat} {len dp sp : Int32} {f g : Nat → Int32} {r : List Value} (e : mCd j pc = a_copy n lo) (ha : 5 ≤ a) (hd : 5 ≤ d) (h1 : h[a]? = some (.inl (0, n0, .inl f))) (h2 : h[d]? = some (.inl (0, n1, .inl g))) (h3 : Nat.ble ((r.map fun v => v.category).sum + 18) lo = true) (h4 : ¬ (sp < 0 ∨ dp < 0 ∨ len < 0 ∨ ¬ (sp.toNatClampNeg + len.toNatClampNeg ≤ n0 ∧ dp.toNatClampNeg + len.toNatClampNeg ≤ n1))) (x : mWp mCd j (n, L, r, h.set d (.inl (0, n1, .inl (va_cpy f g sp.toNatClampNeg dp.toNatClampNeg len.toNatClampNeg))), c, s) Q) : mWp mCd j (pc, L, .int len :: .int dp :: .ref d :: .int sp :: .ref a :: r, h, c, s) Q := by
  refine mWp_n (t := (n, L, r, h.set d (.inl (0, n1, .inl (va_cpy f g sp.toNatClampNeg dp.toNatClampNeg len.toNatClampNeg))), c, s)) ?_ x
  rw [e]
  simp only [a_copy, h1, h2, Nat.ble_eq_true_of_le ha, Nat.ble_eq_true_of_le hd, h3, if_neg h4]
theorem mWp_cpl {n lo d a n0 n1 : Nat} {len dp sp : Int32} {f g : Nat → Int64} {r : List Value} (e : mCd j pc = a_copy n lo) (ha : 5 ≤ a) (hd : 5 ≤ d) (h1 : h[a]? = some (.inl (1, n0, .inr (.inl f)))) (h2 : h[d]? = some (.inl (1, n1, .inr (.inl g)))) (h3 : Nat.ble ((r.map fun v => v.category).sum + 18) lo = true) (h4 : ¬ (sp < 0 ∨ dp < 0 ∨ len < 0 ∨ ¬ (sp.toNatClampNeg + len.toNatClampNeg ≤ n0 ∧ dp.toNatClampNeg + len.toNatClampNeg ≤ n1))) (x : mWp mCd j (n, L, r, h.set d (.inl (1, n1, .inr (.inl (va_cpy f g sp.toNatClampNeg dp.toNatClampNeg len.toNatClampNeg)))), c, s) Q) : mWp mCd j (pc, L, .int len :: .int dp :: .ref d :: .int sp :: .ref a :: r, h, c, s) Q := by
  refine mWp_n (t := (n, L, r, h.set d (.inl (1, n1, .inr (.inl (va_cpy f g sp.toNatClampNeg dp.toNatClampNeg len.toNatClampNeg)))), c, s)) ?_ x
  rw [e]
  simp only [a_copy, h1, h2, Nat.ble_eq_true_of_le ha, Nat.ble_eq_true_of_le hd, h3, if_neg h4]
theorem mWp_is {n k na mc ms cm cs : Nat} {as r : List Value} (e : mCd j pc = a_invS n k na mc ms cm cs) (h0 : mPop na [] st = some (as, r)) (h3 : Nat.ble (c + cm) mc = true) (h4 : Nat.ble (s + cs) ms = true) (h5 : Nat.ble (r.map fun v => v.category).sum 8 = true) (x : mCt mCd k as h (fun r1 h2 => mWp mCd j (n, L, r1.toList ++ r, h2, c + cm, s + cs) Q)) : mWp mCd j (pc, L, st, h, c, s) Q := by
  refine mWp_c (k := k) (as := as) (pc' := n) (L' := L) (st' := r) (c' := c + cm) (s' := s + cs) ?_ x
  rw [e]
  simp only [a_invS, h0, h3, h4, h5]
theorem mWp_ii {n k na mc ms cm cs a : Nat} {as r : List Value} (e : mCd j pc = a_invI n k na mc ms cm cs) (h0 : mPop na [] st = some (as, .ref a :: r)) (h3 : Nat.ble (c + cm) mc = true) (h4 : Nat.ble (s + cs) ms = true) (h5 : Nat.ble (r.map fun v => v.category).sum 8 = true) (x : mCt mCd k (.ref a :: as) h (fun r1 h2 => mWp mCd j (n, L, r1.toList ++ r, h2, c + cm, s + cs) Q)) : mWp mCd j (pc, L, st, h, c, s) Q := by
  refine mWp_c (k := k) (as := .ref a :: as) (pc' := n) (L' := L) (st' := r) (c' := c + cm) (s' := s + cs) ?_ x
  rw [e]
  simp only [a_invI, h0, h3, h4, h5]
theorem mWp_na {n t mc ms : Nat} {x : Int32} {r : List Value} (e : mCd j pc = a_newa n t mc ms) (h0 : ¬ x < 0) (h1 : Nat.ble (c + 1) mc = true) (h2 : Nat.ble (s + x.toNatClampNeg) ms = true) (h3 : Nat.ble (x.toNatClampNeg * 8) 536870912 = true) (k : mWp mCd j (n, L, .ref h.length :: r, h ++ [.inl (t, x.toNatClampNeg, mZero t)], c + 1, s + x.toNatClampNeg) Q) : mWp mCd j (pc, L, .int x :: r, h, c, s) Q := by
  refine mWp_n (t := (n, L, .ref h.length :: r, h ++ [.inl (t, x.toNatClampNeg, mZero t)], c + 1, s + x.toNatClampNeg)) ?_ k
  rw [e]
  simp only [a_newa, if_neg h0, h1, h2, h3]
theorem mWp_nw {n ci sz mc ms : Nat} {fs : List Value} (e : mCd j pc = a_new n ci sz mc ms fs) (h1 : Nat.ble (c + 1) mc = true) (h2 : Nat.ble (s + sz) ms = true) (k : mWp mCd j (n, L, .ref h.length :: st, h ++ [.inr (ci, fs)], c + 1, s + sz) Q) : mWp mCd j (pc, L, st, h, c, s) Q := by
  refine mWp_n (t := (n, L, .ref h.length :: st, h ++ [.inr (ci, fs)], c + 1, s + sz)) ?_ k
  rw [e]
  simp only [a_new, h1, h2]
theorem mWp_vr {mc ms : Nat} (e : mCd j pc = a_vret mc ms) (h1 : Nat.ble c mc = true) (h2 : Nat.ble s ms = true) (k : Q none h) : mWp mCd j (pc, L, [], h, c, s) Q := by
  refine mWp_r (v := none) ?_ k
  rw [e]
  simp only [a_vret, h1, h2]
theorem mWp_ir {mc ms : Nat} {x : Int32} (e : mCd j pc = a_iret mc ms) (h1 : Nat.ble c mc = true) (h2 : Nat.ble s ms = true) (k : Q (some (.int x)) h) : mWp mCd j (pc, L, [.int x], h, c, s) Q := by
  refine mWp_r (v := some (.int x)) ?_ k
  rw [e]
  simp only [a_iret, h1, h2]
theorem mWp_zr {mc ms : Nat} {x : Int32} (e : mCd j pc = a_zret mc ms) (hx : x = 0 ∨ x = 1) (h1 : Nat.ble c mc = true) (h2 : Nat.ble s ms = true) (k : Q (some (.int x)) h) : mWp mCd j (pc, L, [.int x], h, c, s) Q := by
  refine mWp_r (v := some (.int x)) ?_ k
  rw [e]
  simp only [a_zret, h1, h2, if_pos hx]
end RULES
theorem mGs {h : mH} {a : Nat} {x y : mE} (e : h[a]? = some x) : (h.set a y)[a]? = some y := by
  rw [List.getElem?_set_self (List.getElem?_eq_some_iff.mp e).1]
theorem mGn {h : mH} {a b : Nat} {x : Option mE} {y : mE} (hne : b ≠ a) (e : h[a]? = x) : (h.set b y)[a]? = x := by
  rw [List.getElem?_set_ne hne]; exact e
theorem mS5 {k a b ci : Nat} (h : [1, 2, 4, 6, 8].contains ci = true) : mSel [(1, k, a, b), (2, k, a, b), (4, k, a, b), (6, k, a, b), (8, k, a, b)] ci = some (k, a, b) := by
  have hc : ci = 1 ∨ ci = 2 ∨ ci = 4 ∨ ci = 6 ∨ ci = 8 := by simpa using h
  rcases hc with rfl | rfl | rfl | rfl | rfl <;> rfl
