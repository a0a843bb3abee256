theorem b186_197 {h : mH} {Q : Option Value → mH → Prop}   (k : Q none h) : mWp mCd 186 (197, [none, none, none, none, none, none, none, none, none], [], h, 0, 0) Q := by
  exact mWp_r (v := none) rfl k
theorem b186_31 {h : mH} {Q : Option Value → mH → Prop} {x1 : Int32} {x2 : Int32} {x3 : Int32} {x4 : Int32}  (k : mWp mCd 186 (37, [some (.ref 14), some (.int x1), some (.int x2), some (.int x3), some (.int x4), some (.int (iZ 0)), some (.int (iZ 0)), none, none], [], h, 0, 0) Q) : mWp mCd 186 (31, [some (.ref 14), some (.int x1), some (.int x2), some (.int x3), some (.int x4), none, none, none, none], [], h, 0, 0) Q := by
  refine mWp_run 4 (t' := (37, [some (.ref 14), some (.int x1), some (.int x2), some (.int x3), some (.int x4), some (.int (iZ 0)), some (.int (iZ 0)), none, none], [], h, 0, 0)) rfl ?_
  exact k
theorem b186_37 {h : mH} {Q : Option Value → mH → Prop} {x1 : Int32} {x2 : Int32} {x3 : Int32} {x4 : Int32} {x5 : Int32} {x6 : Int32}  (k1 : x3 ≤ x6 → mWp mCd 186 (61, [some (.ref 14), some (.int x1), some (.int x2), some (.int x3), some (.int x4), some (.int x5), none, none, none], [], h, 0, 0) Q) (k2 : ¬ (x3 ≤ x6) → mWp mCd 186 (43, [some (.ref 14), some (.int x1), some (.int x2), some (.int x3), some (.int x4), some (.int x5), some (.int x6), none, none], [], h, 0, 0) Q) : mWp mCd 186 (37, [some (.ref 14), some (.int x1), some (.int x2), some (.int x3), some (.int x4), some (.int x5), some (.int x6), none, none], [], h, 0, 0) Q := by
  refine mWp_run 2 (t' := (40, [some (.ref 14), some (.int x1), some (.int x2), some (.int x3), some (.int x4), some (.int x5), some (.int x6), none, none], [.int x3, .int x6], h, 0, 0)) rfl ?_
  exact mWp_ic (P := fun x y => y ≤ x) (a := x6) (b := x3) rfl (fun q => mWp_weak (mLe_s (mLe_s (mLe_s (mLe_s (mLe_s (mLe_s (mLe_n (mLe_n (mLe_n mLe_0))))))))) (k1 q)) k2
theorem b186_61 {h : mH} {Q : Option Value → mH → Prop} {x1 : Int32} {x2 : Int32} {x3 : Int32} {x4 : Int32} {x5 : Int32}  (k1 : x5 ≤ x2 → mWp mCd 186 (70, [some (.ref 14), some (.int x1), some (.int x2), some (.int x3), some (.int x4), some (.int x5), none, none, none], [], h, 0, 0) Q) (k2 : ¬ (x5 ≤ x2) → mWp mCd 186 (67, [some (.ref 14), some (.int x1), some (.int x2), some (.int x3), some (.int x4), none, none, none, none], [], h, 0, 0) Q) : mWp mCd 186 (61, [some (.ref 14), some (.int x1), some (.int x2), some (.int x3), some (.int x4), some (.int x5), none, none, none], [], h, 0, 0) Q := by
  refine mWp_run 2 (t' := (64, [some (.ref 14), some (.int x1), some (.int x2), some (.int x3), some (.int x4), some (.int x5), none, none, none], [.int x2, .int x5], h, 0, 0)) rfl ?_
  exact mWp_ic (P := fun x y => x ≤ y) (a := x5) (b := x2) rfl k1 (fun q => mWp_weak (mLe_s (mLe_s (mLe_s (mLe_s (mLe_s (mLe_n (mLe_n (mLe_n (mLe_n mLe_0))))))))) (k2 q))
theorem b186_43 {h : mH} {Q : Option Value → mH → Prop} {x1 : Int32} {x2 : Int32} {x3 : Int32} {x4 : Int32} {x5 : Int32} {x6 : Int32}  (k : mWp mCd 186 (37, [some (.ref 14), some (.int x1), some (.int x2), some (.int x3), some (.int x4), some (.int (x5 + ((x4 >>> (x6 &&& 31)) &&& (iZ 1)))), some (.int (x6 + iZ 1)), none, none], [], h, 0, 0) Q) : mWp mCd 186 (43, [some (.ref 14), some (.int x1), some (.int x2), some (.int x3), some (.int x4), some (.int x5), some (.int x6), none, none], [], h, 0, 0) Q := by
  refine mWp_run 10 (t' := (37, [some (.ref 14), some (.int x1), some (.int x2), some (.int x3), some (.int x4), some (.int (x5 + ((x4 >>> (x6 &&& 31)) &&& (iZ 1)))), some (.int (x6 + iZ 1)), none, none], [], h, 0, 0)) rfl ?_
  exact k
theorem b186_70 {h : mH} {Q : Option Value → mH → Prop} {x1 : Int32} {x2 : Int32} {x3 : Int32} {x4 : Int32} {x5 : Int32} {v : Int32} {cor : Int32} {bA : Int64} {bB : Int64} {rw : Int32} {bo : Int32} (e1 : h[14]? = some (oM v cor bA bB rw bo)) (k : mCt mCd 177 [.ref 14] h (fun rv hv => mWp mCd 186 (74, [some (.ref 14), some (.int x1), some (.int x2), some (.int x3), some (.int x4), some (.int x5), none, none, none], rv.toList ++ [], hv, 0, 0) Q)) : mWp mCd 186 (70, [some (.ref 14), some (.int x1), some (.int x2), some (.int x3), some (.int x4), some (.int x5), none, none, none], [], h, 0, 0) Q := by
  refine mWp_run 1 (t' := (71, [some (.ref 14), some (.int x1), some (.int x2), some (.int x3), some (.int x4), some (.int x5), none, none, none], [.ref 14], h, 0, 0)) rfl ?_
  exact mWp_iv rfl rfl e1 rfl rfl rfl rfl k
theorem b186_67 {h : mH} {Q : Option Value → mH → Prop} {x1 : Int32} {x2 : Int32} {x3 : Int32} {x4 : Int32}  (k : mWp mCd 186 (191, [some (.ref 14), some (.int x1), some (.int x2), some (.int x3), some (.int x4), none, none, none, none], [], h, 0, 0) Q) : mWp mCd 186 (67, [some (.ref 14), some (.int x1), some (.int x2), some (.int x3), some (.int x4), none, none, none, none], [], h, 0, 0) Q := by
  refine mWp_run 1 (t' := (191, [some (.ref 14), some (.int x1), some (.int x2), some (.int x3), some (.int x4), none, none, none, none], [], h, 0, 0)) rfl ?_
  exact k
theorem b186_74 {h : mH} {Q : Option Value → mH → Prop} {x1 : Int32} {x2 : Int32} {x3 : Int32} {x4 : Int32} {x5 : Int32}  (k : mWp mCd 186 (80, [some (.ref 14), some (.int x1), some (.int x2), some (.int x3), some (.int x4), some (.int x5), some (.int (iZ 0)), some (.int (iZ 0)), none], [], h, 0, 0) Q) : mWp mCd 186 (74, [some (.ref 14), some (.int x1), some (.int x2), some (.int x3), some (.int x4), some (.int x5), none, none, none], [], h, 0, 0) Q := by
  refine mWp_run 4 (t' := (80, [some (.ref 14), some (.int x1), some (.int x2), some (.int x3), some (.int x4), some (.int x5), some (.int (iZ 0)), some (.int (iZ 0)), none], [], h, 0, 0)) rfl ?_
  exact k
theorem b186_191 {h : mH} {Q : Option Value → mH → Prop} {x1 : Int32} {x2 : Int32} {x3 : Int32} {x4 : Int32}  (k : mWp mCd 186 (23, [some (.ref 14), some (.int x1), some (.int x2), some (.int x3), some (.int (x4 + iZ 1)), none, none, none, none], [], h, 0, 0) Q) : mWp mCd 186 (191, [some (.ref 14), some (.int x1), some (.int x2), some (.int x3), some (.int x4), none, none, none, none], [], h, 0, 0) Q := by
  refine mWp_run 2 (t' := (23, [some (.ref 14), some (.int x1), some (.int x2), some (.int x3), some (.int (x4 + iZ 1)), none, none, none, none], [], h, 0, 0)) rfl ?_
  exact k
theorem b186_80 {h : mH} {Q : Option Value → mH → Prop} {x1 : Int32} {x2 : Int32} {x3 : Int32} {x4 : Int32} {x5 : Int32} {x6 : Int32} {x7 : Int32}  (k1 : x3 ≤ x7 → mWp mCd 186 (145, [some (.ref 14), some (.int x1), some (.int x2), some (.int x3), some (.int x4), some (.int x5), none, none, none], [], h, 0, 0) Q) (k2 : ¬ (x3 ≤ x7) → mWp mCd 186 (86, [some (.ref 14), some (.int x1), some (.int x2), some (.int x3), some (.int x4), some (.int x5), some (.int x6), some (.int x7), none], [], h, 0, 0) Q) : mWp mCd 186 (80, [some (.ref 14), some (.int x1), some (.int x2), some (.int x3), some (.int x4), some (.int x5), some (.int x6), some (.int x7), none], [], h, 0, 0) Q := by
  refine mWp_run 2 (t' := (83, [some (.ref 14), some (.int x1), some (.int x2), some (.int x3), some (.int x4), some (.int x5), some (.int x6), some (.int x7), none], [.int x3, .int x7], h, 0, 0)) rfl ?_
  exact mWp_ic (P := fun x y => y ≤ x) (a := x7) (b := x3) rfl (fun q => mWp_weak (mLe_s (mLe_s (mLe_s (mLe_s (mLe_s (mLe_s (mLe_n (mLe_n (mLe_n mLe_0))))))))) (k1 q)) k2
theorem b186_145 {h : mH} {Q : Option Value → mH → Prop} {x1 : Int32} {x2 : Int32} {x3 : Int32} {x4 : Int32} {x5 : Int32}  (k : mWp mCd 186 (148, [some (.ref 14), some (.int x1), some (.int x2), some (.int x3), some (.int x4), some (.int x5), none, some (.int (iZ 0)), none], [], h, 0, 0) Q) : mWp mCd 186 (145, [some (.ref 14), some (.int x1), some (.int x2), some (.int x3), some (.int x4), some (.int x5), none, none, none], [], h, 0, 0) Q := by
  refine mWp_run 2 (t' := (148, [some (.ref 14), some (.int x1), some (.int x2), some (.int x3), some (.int x4), some (.int x5), none, some (.int (iZ 0)), none], [], h, 0, 0)) rfl ?_
  exact k
theorem b186_86 {h : mH} {Q : Option Value → mH → Prop} {x1 : Int32} {x2 : Int32} {x3 : Int32} {x4 : Int32} {x5 : Int32} {x6 : Int32} {x7 : Int32}  (k1 : ¬ ((x4 >>> (x7 &&& 31)) &&& (iZ 1)) = 0 → mWp mCd 186 (99, [some (.ref 14), some (.int x1), some (.int x2), some (.int x3), some (.int x4), some (.int x5), some (.int x6), some (.int x7), none], [], h, 0, 0) Q) (k2 : ¬ (¬ ((x4 >>> (x7 &&& 31)) &&& (iZ 1)) = 0) → mWp mCd 186 (96, [some (.ref 14), some (.int x1), some (.int x2), some (.int x3), some (.int x4), some (.int x5), some (.int x6), some (.int x7), none], [], h, 0, 0) Q) : mWp mCd 186 (86, [some (.ref 14), some (.int x1), some (.int x2), some (.int x3), some (.int x4), some (.int x5), some (.int x6), some (.int x7), none], [], h, 0, 0) Q := by
  refine mWp_run 5 (t' := (93, [some (.ref 14), some (.int x1), some (.int x2), some (.int x3), some (.int x4), some (.int x5), some (.int x6), some (.int x7), none], [.int ((x4 >>> (x7 &&& 31)) &&& (iZ 1))], h, 0, 0)) rfl ?_
  exact mWp_if (P := fun x => ¬ x = 0) (a := (x4 >>> (x7 &&& 31)) &&& (iZ 1)) rfl k1 k2
theorem b186_148 {h : mH} {Q : Option Value → mH → Prop} {x1 : Int32} {x2 : Int32} {x3 : Int32} {x4 : Int32} {x5 : Int32} {x7 : Int32}  (k1 : x2 ≤ x7 → mWp mCd 186 (172, [some (.ref 14), some (.int x1), some (.int x2), some (.int x3), some (.int x4), some (.int x5), none, none, none], [], h, 0, 0) Q) (k2 : ¬ (x2 ≤ x7) → mWp mCd 186 (154, [some (.ref 14), some (.int x1), some (.int x2), some (.int x3), some (.int x4), some (.int x5), none, some (.int x7), none], [], h, 0, 0) Q) : mWp mCd 186 (148, [some (.ref 14), some (.int x1), some (.int x2), some (.int x3), some (.int x4), some (.int x5), none, some (.int x7), none], [], h, 0, 0) Q := by
  refine mWp_run 2 (t' := (151, [some (.ref 14), some (.int x1), some (.int x2), some (.int x3), some (.int x4), some (.int x5), none, some (.int x7), none], [.int x2, .int x7], h, 0, 0)) rfl ?_
  exact mWp_ic (P := fun x y => y ≤ x) (a := x7) (b := x2) rfl (fun q => mWp_weak (mLe_s (mLe_s (mLe_s (mLe_s (mLe_s (mLe_s (mLe_n (mLe_n (mLe_n mLe_0))))))))) (k1 q)) k2
theorem b186_99 {h : mH} {Q : Option Value → mH → Prop} {x1 : Int32} {x2 : Int32} {x3 : Int32} {x4 : Int32} {x5 : Int32} {x6 : Int32} {x7 : Int32}  (k : mWp mCd 186 (102, [some (.ref 14), some (.int x1), some (.int x2), some (.int x3), some (.int x4), some (.int x5), some (.int x6), some (.int x7), some (.int (iZ 0))], [], h, 0, 0) Q) : mWp mCd 186 (99, [some (.ref 14), some (.int x1), some (.int x2), some (.int x3), some (.int x4), some (.int x5), some (.int x6), some (.int x7), none], [], h, 0, 0) Q := by
  refine mWp_run 2 (t' := (102, [some (.ref 14), some (.int x1), some (.int x2), some (.int x3), some (.int x4), some (.int x5), some (.int x6), some (.int x7), some (.int (iZ 0))], [], h, 0, 0)) rfl ?_
  exact k
theorem b186_96 {h : mH} {Q : Option Value → mH → Prop} {x1 : Int32} {x2 : Int32} {x3 : Int32} {x4 : Int32} {x5 : Int32} {x6 : Int32} {x7 : Int32}  (k : mWp mCd 186 (139, [some (.ref 14), some (.int x1), some (.int x2), some (.int x3), some (.int x4), some (.int x5), some (.int x6), some (.int x7), none], [], h, 0, 0) Q) : mWp mCd 186 (96, [some (.ref 14), some (.int x1), some (.int x2), some (.int x3), some (.int x4), some (.int x5), some (.int x6), some (.int x7), none], [], h, 0, 0) Q := by
  refine mWp_run 1 (t' := (139, [some (.ref 14), some (.int x1), some (.int x2), some (.int x3), some (.int x4), some (.int x5), some (.int x6), some (.int x7), none], [], h, 0, 0)) rfl ?_
  exact k
theorem b186_172 {h : mH} {Q : Option Value → mH → Prop} {x1 : Int32} {x2 : Int32} {x3 : Int32} {x4 : Int32} {x5 : Int32} {v : Int32} {cor : Int32} {bA : Int64} {bB : Int64} {rw : Int32} {bo : Int32} (e1 : h[14]? = some (oM v cor bA bB rw bo)) (k : mCt mCd 176 [.ref 14, .int x5, .int x2] h (fun rv hv => mWp mCd 186 (179, [some (.ref 14), some (.int x1), some (.int x2), some (.int x3), some (.int x4), some (.int x5), none, none, none], rv.toList ++ [], hv, 0, 0) Q)) : mWp mCd 186 (172, [some (.ref 14), some (.int x1), some (.int x2), some (.int x3), some (.int x4), some (.int x5), none, none, none], [], h, 0, 0) Q := by
  refine mWp_run 3 (t' := (176, [some (.ref 14), some (.int x1), some (.int x2), some (.int x3), some (.int x4), some (.int x5), none, none, none], [.int x2, .int x5, .ref 14], h, 0, 0)) rfl ?_
  exact mWp_iv rfl rfl e1 rfl rfl rfl rfl k
theorem b186_154 {h : mH} {Q : Option Value → mH → Prop} {x1 : Int32} {x2 : Int32} {x3 : Int32} {x4 : Int32} {x5 : Int32} {x7 : Int32} {v : Int32} {cor : Int32} {bA : Int64} {bB : Int64} {rw : Int32} {bo : Int32} {g101 : Nat → Int64} (e1 : h[14]? = some (oM v cor bA bB rw bo)) (e2 : h[18]? = some (aL 20 g101)) (e3 : ¬ ((((iZ 5) * x7) + (iZ 4)) < 0 ∨ 20 ≤ (((iZ 5) * x7) + (iZ 4)).toNatClampNeg)) (k : mWp mCd 186 (148, [some (.ref 14), some (.int x1), some (.int x2), some (.int x3), some (.int x4), some (.int x5), none, some (.int (x7 + iZ 1)), none], [], (h.set 18 (aL 20 (vp_updL g101 ((((iZ 5) * x7) + (iZ 4)).toNatClampNeg) (lZ 1)))), 0, 0) Q) : mWp mCd 186 (154, [some (.ref 14), some (.int x1), some (.int x2), some (.int x3), some (.int x4), some (.int x5), none, some (.int x7), none], [], h, 0, 0) Q := by
  refine mWp_run 1 (t' := (155, [some (.ref 14), some (.int x1), some (.int x2), some (.int x3), some (.int x4), some (.int x5), none, some (.int x7), none], [.ref 14], h, 0, 0)) rfl ?_
  refine mWp_gf rfl e1 rfl rfl ?_
  refine mWp_run 6 (t' := (165, [some (.ref 14), some (.int x1), some (.int x2), some (.int x3), some (.int x4), some (.int x5), none, some (.int x7), none], [.long (lZ 1), .int (((iZ 5) * x7) + (iZ 4)), .ref 18], h, 0, 0)) rfl ?_
  refine mWp_las rfl (by decide) e2 e3 ?_
  show mWp mCd 186 (166, [some (.ref 14), some (.int x1), some (.int x2), some (.int x3), some (.int x4), some (.int x5), none, some (.int x7), none], [], (h.set 18 (aL 20 (vp_updL g101 ((((iZ 5) * x7) + (iZ 4)).toNatClampNeg) (lZ 1)))), 0, 0) Q
  refine mWp_run 2 (t' := (148, [some (.ref 14), some (.int x1), some (.int x2), some (.int x3), some (.int x4), some (.int x5), none, some (.int (x7 + iZ 1)), none], [], (h.set 18 (aL 20 (vp_updL g101 ((((iZ 5) * x7) + (iZ 4)).toNatClampNeg) (lZ 1)))), 0, 0)) rfl ?_
  exact k
theorem b186_102 {h : mH} {Q : Option Value → mH → Prop} {x1 : Int32} {x2 : Int32} {x3 : Int32} {x4 : Int32} {x5 : Int32} {x6 : Int32} {x7 : Int32} {x8 : Int32}  (k1 : x2 ≤ x8 → mWp mCd 186 (136, [some (.ref 14), some (.int x1), some (.int x2), some (.int x3), some (.int x4), some (.int x5), some (.int x6), some (.int x7), none], [], h, 0, 0) Q) (k2 : ¬ (x2 ≤ x8) → mWp mCd 186 (108, [some (.ref 14), some (.int x1), some (.int x2), some (.int x3), some (.int x4), some (.int x5), some (.int x6), some (.int x7), some (.int x8)], [], h, 0, 0) Q) : mWp mCd 186 (102, [some (.ref 14), some (.int x1), some (.int x2), some (.int x3), some (.int x4), some (.int x5), some (.int x6), some (.int x7), some (.int x8)], [], h, 0, 0) Q := by
  refine mWp_run 2 (t' := (105, [some (.ref 14), some (.int x1), some (.int x2), some (.int x3), some (.int x4), some (.int x5), some (.int x6), some (.int x7), some (.int x8)], [.int x2, .int x8], h, 0, 0)) rfl ?_
  exact mWp_ic (P := fun x y => y ≤ x) (a := x8) (b := x2) rfl (fun q => mWp_weak (mLe_s (mLe_s (mLe_s (mLe_s (mLe_s (mLe_s (mLe_s (mLe_s (mLe_n mLe_0))))))))) (k1 q)) k2
theorem b186_139 {h : mH} {Q : Option Value → mH → Prop} {x1 : Int32} {x2 : Int32} {x3 : Int32} {x4 : Int32} {x5 : Int32} {x6 : Int32} {x7 : Int32}  (k : mWp mCd 186 (80, [some (.ref 14), some (.int x1), some (.int x2), some (.int x3), some (.int x4), some (.int x5), some (.int x6), some (.int (x7 + iZ 1)), none], [], h, 0, 0) Q) : mWp mCd 186 (139, [some (.ref 14), some (.int x1), some (.int x2), some (.int x3), some (.int x4), some (.int x5), some (.int x6), some (.int x7), none], [], h, 0, 0) Q := by
  refine mWp_run 2 (t' := (80, [some (.ref 14), some (.int x1), some (.int x2), some (.int x3), some (.int x4), some (.int x5), some (.int x6), some (.int (x7 + iZ 1)), none], [], h, 0, 0)) rfl ?_
  exact k
theorem b186_179 {h : mH} {Q : Option Value → mH → Prop} {x1 : Int32} {x2 : Int32} {x3 : Int32} {x4 : Int32} {x5 : Int32} {u0 : Int32}  (k1 : u0 = 0 → mWp mCd 186 (191, [some (.ref 14), some (.int x1), some (.int x2), some (.int x3), some (.int x4), none, none, none, none], [], h, 0, 0) Q) (k2 : ¬ (u0 = 0) → mWp mCd 186 (182, [some (.ref 14), some (.int x1), some (.int x2), some (.int x3), some (.int x4), some (.int x5), none, none, none], [], h, 0, 0) Q) : mWp mCd 186 (179, [some (.ref 14), some (.int x1), some (.int x2), some (.int x3), some (.int x4), some (.int x5), none, none, none], [.int u0], h, 0, 0) Q := by
  exact mWp_if (P := fun x => x = 0) (a := u0) rfl (fun q => mWp_weak (mLe_s (mLe_s (mLe_s (mLe_s (mLe_s (mLe_n (mLe_n (mLe_n (mLe_n mLe_0))))))))) (k1 q)) k2
theorem b186_136 {h : mH} {Q : Option Value → mH → Prop} {x1 : Int32} {x2 : Int32} {x3 : Int32} {x4 : Int32} {x5 : Int32} {x6 : Int32} {x7 : Int32}  (k : mWp mCd 186 (139, [some (.ref 14), some (.int x1), some (.int x2), some (.int x3), some (.int x4), some (.int x5), some (.int (x6 + iZ 1)), some (.int x7), none], [], h, 0, 0) Q) : mWp mCd 186 (136, [some (.ref 14), some (.int x1), some (.int x2), some (.int x3), some (.int x4), some (.int x5), some (.int x6), some (.int x7), none], [], h, 0, 0) Q := by
  refine mWp_run 1 (t' := (139, [some (.ref 14), some (.int x1), some (.int x2), some (.int x3), some (.int x4), some (.int x5), some (.int (x6 + iZ 1)), some (.int x7), none], [], h, 0, 0)) rfl ?_
  exact k
theorem b186_108 {h : mH} {Q : Option Value → mH → Prop} {x1 : Int32} {x2 : Int32} {x3 : Int32} {x4 : Int32} {x5 : Int32} {x6 : Int32} {x7 : Int32} {x8 : Int32} {v : Int32} {cor : Int32} {bA : Int64} {bB : Int64} {rw : Int32} {bo : Int32} {g101 : Nat → Int64} (e1 : h[14]? = some (oM v cor bA bB rw bo)) (e2 : h[18]? = some (aL 20 g101)) (e3 : ¬ ((((iZ 5) * x8) + x6) < 0 ∨ 20 ≤ (((iZ 5) * x8) + x6).toNatClampNeg)) (k : mWp mCd 186 (102, [some (.ref 14), some (.int x1), some (.int x2), some (.int x3), some (.int x4), some (.int x5), some (.int x6), some (.int x7), some (.int (x8 + iZ 1))], [], (h.set 18 (aL 20 (vp_updL g101 ((((iZ 5) * x8) + x6).toNatClampNeg) (Int32.toInt64 (((x7 + (iZ 1)) >>> (x8 &&& 31)) &&& (iZ 1)))))), 0, 0) Q) : mWp mCd 186 (108, [some (.ref 14), some (.int x1), some (.int x2), some (.int x3), some (.int x4), some (.int x5), some (.int x6), some (.int x7), some (.int x8)], [], h, 0, 0) Q := by
  refine mWp_run 1 (t' := (109, [some (.ref 14), some (.int x1), some (.int x2), some (.int x3), some (.int x4), some (.int x5), some (.int x6), some (.int x7), some (.int x8)], [.ref 14], h, 0, 0)) rfl ?_
  refine mWp_gf rfl e1 rfl rfl ?_
  refine mWp_run 13 (t' := (129, [some (.ref 14), some (.int x1), some (.int x2), some (.int x3), some (.int x4), some (.int x5), some (.int x6), some (.int x7), some (.int x8)], [.long (Int32.toInt64 (((x7 + (iZ 1)) >>> (x8 &&& 31)) &&& (iZ 1))), .int (((iZ 5) * x8) + x6), .ref 18], h, 0, 0)) rfl ?_
  refine mWp_las rfl (by decide) e2 e3 ?_
  show mWp mCd 186 (130, [some (.ref 14), some (.int x1), some (.int x2), some (.int x3), some (.int x4), some (.int x5), some (.int x6), some (.int x7), some (.int x8)], [], (h.set 18 (aL 20 (vp_updL g101 ((((iZ 5) * x8) + x6).toNatClampNeg) (Int32.toInt64 (((x7 + (iZ 1)) >>> (x8 &&& 31)) &&& (iZ 1)))))), 0, 0) Q
  refine mWp_run 2 (t' := (102, [some (.ref 14), some (.int x1), some (.int x2), some (.int x3), some (.int x4), some (.int x5), some (.int x6), some (.int x7), some (.int (x8 + iZ 1))], [], (h.set 18 (aL 20 (vp_updL g101 ((((iZ 5) * x8) + x6).toNatClampNeg) (Int32.toInt64 (((x7 + (iZ 1)) >>> (x8 &&& 31)) &&& (iZ 1)))))), 0, 0)) rfl ?_
  exact k
theorem b186_182 {h : mH} {Q : Option Value → mH → Prop} {x1 : Int32} {x2 : Int32} {x3 : Int32} {x4 : Int32} {x5 : Int32} {v : Int32} {cor : Int32} {bA : Int64} {bB : Int64} {rw : Int32} {bo : Int32} (e1 : h[14]? = some (oM v cor bA bB rw bo)) (k : mCt mCd 185 [.ref 14, .int x1, .int x4, .int x5] h (fun rv hv => mWp mCd 186 (191, [some (.ref 14), some (.int x1), some (.int x2), some (.int x3), some (.int x4), none, none, none, none], rv.toList ++ [], hv, 0, 0) Q)) : mWp mCd 186 (182, [some (.ref 14), some (.int x1), some (.int x2), some (.int x3), some (.int x4), some (.int x5), none, none, none], [], h, 0, 0) Q := by
  refine mWp_run 4 (t' := (188, [some (.ref 14), some (.int x1), some (.int x2), some (.int x3), some (.int x4), some (.int x5), none, none, none], [.int x5, .int x4, .int x1, .ref 14], h, 0, 0)) rfl ?_
  exact mWp_iv rfl rfl e1 rfl rfl rfl rfl (mCt_mono k (fun rv hv y => mWp_weak (mLe_s (mLe_s (mLe_s (mLe_s (mLe_s (mLe_n (mLe_n (mLe_n (mLe_n mLe_0))))))))) y))
theorem b187_0 {h : mH} {Q : Option Value → mH → Prop} {x1 : Int32} {x2 : Int32} {v : Int32} {cor : Int32} {bA : Int64} {bB : Int64} {rw : Int32} {bo : Int32} (e1 : h[14]? = some (oM v cor bA bB rw bo)) (k : mCt mCd 138 [.ref 14, .int x1] h (fun rv hv => mWp mCd 187 (5, [some (.ref 14), some (.int x1), some (.int x2)], rv.toList ++ [], hv, 0, 0) Q)) : mWp mCd 187 (0, [some (.ref 14), some (.int x1), some (.int x2)], [], h, 0, 0) Q := by
  refine mWp_run 2 (t' := (2, [some (.ref 14), some (.int x1), some (.int x2)], [.int x1, .ref 14], h, 0, 0)) rfl ?_
  exact mWp_iv rfl rfl e1 rfl rfl rfl rfl k
theorem b187_5 {h : mH} {Q : Option Value → mH → Prop} {x1 : Int32} {x2 : Int32} {u0 : Int32}  (k1 : u0 = 0 → mWp mCd 187 (28, [none, none, none], [], h, 0, 0) Q) (k2 : ¬ (u0 = 0) → mWp mCd 187 (8, [some (.ref 14), some (.int x1), some (.int x2)], [], h, 0, 0) Q) : mWp mCd 187 (5, [some (.ref 14), some (.int x1), some (.int x2)], [.int u0], h, 0, 0) Q := by
  exact mWp_if (P := fun x => x = 0) (a := u0) rfl (fun q => mWp_weak (mLe_n (mLe_n (mLe_n mLe_0))) (k1 q)) k2
theorem b187_28 {h : mH} {Q : Option Value → mH → Prop}   (k : Q (some (.long (lZ (-4611686018427387904)))) h) : mWp mCd 187 (28, [none, none, none], [], h, 0, 0) Q := by
  refine mWp_run 1 (t' := (31, [none, none, none], [.long (lZ (-4611686018427387904))], h, 0, 0)) rfl ?_
  exact mWp_r (v := (some (.long (lZ (-4611686018427387904))))) rfl k
theorem b187_8 {h : mH} {Q : Option Value → mH → Prop} {x1 : Int32} {x2 : Int32} {v : Int32} {cor : Int32} {bA : Int64} {bB : Int64} {rw : Int32} {bo : Int32} {g101 : Nat → Int32} (e1 : h[14]? = some (oM v cor bA bB rw bo)) (e2 : h[16]? = some (aI 11 g101)) (e3 : ¬ (x1 < 0 ∨ 11 ≤ x1.toNatClampNeg)) (k1 : (g101 x1.toNatClampNeg) = (iZ 1) → mWp mCd 187 (28, [none, none, none], [], h, 0, 0) Q) (k2 : ¬ ((g101 x1.toNatClampNeg) = (iZ 1)) → mWp mCd 187 (18, [some (.ref 14), some (.int x1), some (.int x2)], [], h, 0, 0) Q) : mWp mCd 187 (8, [some (.ref 14), some (.int x1), some (.int x2)], [], h, 0, 0) Q := by
  refine mWp_run 1 (t' := (9, [some (.ref 14), some (.int x1), some (.int x2)], [.ref 14], h, 0, 0)) rfl ?_
  refine mWp_gf rfl e1 rfl rfl ?_
  refine mWp_run 1 (t' := (13, [some (.ref 14), some (.int x1), some (.int x2)], [.int x1, .ref 16], h, 0, 0)) rfl ?_
  refine mWp_ial rfl e2 e3 ?_
  refine mWp_run 1 (t' := (15, [some (.ref 14), some (.int x1), some (.int x2)], [.int (iZ 1), .int (g101 x1.toNatClampNeg)], h, 0, 0)) rfl ?_
  exact mWp_ic (P := fun x y => x = y) (a := g101 x1.toNatClampNeg) (b := iZ 1) rfl (fun q => mWp_weak (mLe_n (mLe_n (mLe_n mLe_0))) (k1 q)) k2
theorem b187_18 {h : mH} {Q : Option Value → mH → Prop} {x1 : Int32} {x2 : Int32} {v : Int32} {cor : Int32} {bA : Int64} {bB : Int64} {rw : Int32} {bo : Int32} (e1 : h[14]? = some (oM v cor bA bB rw bo)) (k : mCt mCd 137 [.ref 14, .int x2, .int (iZ 0), .int (iZ 1)] h (fun rv hv => mWp mCd 187 (25, [some (.ref 14), some (.int x1), some (.int x2)], rv.toList ++ [], hv, 0, 0) Q)) : mWp mCd 187 (18, [some (.ref 14), some (.int x1), some (.int x2)], [], h, 0, 0) Q := by
  refine mWp_run 4 (t' := (22, [some (.ref 14), some (.int x1), some (.int x2)], [.int (iZ 1), .int (iZ 0), .int x2, .ref 14], h, 0, 0)) rfl ?_
  exact mWp_iv rfl rfl e1 rfl rfl rfl rfl k
theorem b187_25 {h : mH} {Q : Option Value → mH → Prop} {x1 : Int32} {x2 : Int32} {u0 : Int32}  (k1 : ¬ u0 = 0 → mWp mCd 187 (32, [some (.ref 14), some (.int x1), some (.int x2)], [], h, 0, 0) Q) (k2 : ¬ (¬ u0 = 0) → mWp mCd 187 (28, [none, none, none], [], h, 0, 0) Q) : mWp mCd 187 (25, [some (.ref 14), some (.int x1), some (.int x2)], [.int u0], h, 0, 0) Q := by
  exact mWp_if (P := fun x => ¬ x = 0) (a := u0) rfl k1 (fun q => mWp_weak (mLe_n (mLe_n (mLe_n mLe_0))) (k2 q))
theorem b187_32 {h : mH} {Q : Option Value → mH → Prop} {x1 : Int32} {x2 : Int32} {v : Int32} {cor : Int32} {bA : Int64} {bB : Int64} {rw : Int32} {bo : Int32} (e1 : h[14]? = some (oM v cor bA bB rw bo)) (k : mCt mCd 186 [.ref 14, .int x1] h (fun rv hv => mWp mCd 187 (37, [some (.ref 14), none, some (.int x2)], rv.toList ++ [], hv, 0, 0) Q)) : mWp mCd 187 (32, [some (.ref 14), some (.int x1), some (.int x2)], [], h, 0, 0) Q := by
  refine mWp_run 2 (t' := (34, [some (.ref 14), some (.int x1), some (.int x2)], [.int x1, .ref 14], h, 0, 0)) rfl ?_
  exact mWp_iv rfl rfl e1 rfl rfl rfl rfl (mCt_mono k (fun rv hv y => mWp_weak (mLe_s (mLe_n (mLe_s mLe_0))) y))
theorem b187_37 {h : mH} {Q : Option Value → mH → Prop} {x2 : Int32}  (k1 : ¬ x2 = 0 → mWp mCd 187 (48, [some (.ref 14), none, none], [], h, 0, 0) Q) (k2 : ¬ (¬ x2 = 0) → mWp mCd 187 (41, [some (.ref 14), none, none], [], h, 0, 0) Q) : mWp mCd 187 (37, [some (.ref 14), none, some (.int x2)], [], h, 0, 0) Q := by
  refine mWp_run 1 (t' := (38, [some (.ref 14), none, some (.int x2)], [.int x2], h, 0, 0)) rfl ?_
  exact mWp_if (P := fun x => ¬ x = 0) (a := x2) rfl (fun q => mWp_weak (mLe_s (mLe_n (mLe_n mLe_0))) (k1 q)) (fun q => mWp_weak (mLe_s (mLe_n (mLe_n mLe_0))) (k2 q))
theorem b187_48 {h : mH} {Q : Option Value → mH → Prop} {v : Int32} {cor : Int32} {bA : Int64} {bB : Int64} {rw : Int32} {bo : Int32} (e1 : h[14]? = some (oM v cor bA bB rw bo)) (k : Q (some (.long bB)) h) : mWp mCd 187 (48, [some (.ref 14), none, none], [], h, 0, 0) Q := by
  refine mWp_run 1 (t' := (49, [some (.ref 14), none, none], [.ref 14], h, 0, 0)) rfl ?_
  refine mWp_gf rfl e1 rfl rfl ?_
  exact mWp_r (v := (some (.long bB))) rfl k
theorem b187_41 {h : mH} {Q : Option Value → mH → Prop} {v : Int32} {cor : Int32} {bA : Int64} {bB : Int64} {rw : Int32} {bo : Int32} (e1 : h[14]? = some (oM v cor bA bB rw bo)) (k : Q (some (.long bA)) h) : mWp mCd 187 (41, [some (.ref 14), none, none], [], h, 0, 0) Q := by
  refine mWp_run 1 (t' := (42, [some (.ref 14), none, none], [.ref 14], h, 0, 0)) rfl ?_
  refine mWp_gf rfl e1 rfl rfl ?_
  refine mWp_run 1 (t' := (52, [some (.ref 14), none, none], [.long bA], h, 0, 0)) rfl ?_
  exact mWp_r (v := (some (.long bA))) rfl k
theorem b188_0 {h : mH} {Q : Option Value → mH → Prop} {x1 : Int32} {x2 : Int32} {x3 : Int32} {v : Int32} {cor : Int32} {bA : Int64} {bB : Int64} {rw : Int32} {bo : Int32} (e1 : h[14]? = some (oM v cor bA bB rw bo)) (k : mCt mCd 138 [.ref 14, .int x1] h (fun rv hv => mWp mCd 188 (5, [some (.ref 14), some (.int x1), some (.int x2), some (.int x3)], rv.toList ++ [], hv, 0, 0) Q)) : mWp mCd 188 (0, [some (.ref 14), some (.int x1), some (.int x2), some (.int x3)], [], h, 0, 0) Q := by
  refine mWp_run 2 (t' := (2, [some (.ref 14), some (.int x1), some (.int x2), some (.int x3)], [.int x1, .ref 14], h, 0, 0)) rfl ?_
  exact mWp_iv rfl rfl e1 rfl rfl rfl rfl k
theorem b188_5 {h : mH} {Q : Option Value → mH → Prop} {x1 : Int32} {x2 : Int32} {x3 : Int32} {u0 : Int32}  (k1 : u0 = 0 → mWp mCd 188 (27, [none, none, none, none], [], h, 0, 0) Q) (k2 : ¬ (u0 = 0) → mWp mCd 188 (8, [some (.ref 14), some (.int x1), some (.int x2), some (.int x3)], [], h, 0, 0) Q) : mWp mCd 188 (5, [some (.ref 14), some (.int x1), some (.int x2), some (.int x3)], [.int u0], h, 0, 0) Q := by
  exact mWp_if (P := fun x => x = 0) (a := u0) rfl (fun q => mWp_weak (mLe_n (mLe_n (mLe_n (mLe_n mLe_0)))) (k1 q)) k2
theorem b188_27 {h : mH} {Q : Option Value → mH → Prop}   (k : Q (some (.long (lZ (-4611686018427387904)))) h) : mWp mCd 188 (27, [none, none, none, none], [], h, 0, 0) Q := by
  refine mWp_run 1 (t' := (30, [none, none, none, none], [.long (lZ (-4611686018427387904))], h, 0, 0)) rfl ?_
  exact mWp_r (v := (some (.long (lZ (-4611686018427387904))))) rfl k
theorem b188_8 {h : mH} {Q : Option Value → mH → Prop} {x1 : Int32} {x2 : Int32} {x3 : Int32} {v : Int32} {cor : Int32} {bA : Int64} {bB : Int64} {rw : Int32} {bo : Int32} (e1 : h[14]? = some (oM v cor bA bB rw bo)) (k : mCt mCd 142 [.ref 14, .int x1, .int x2] h (fun rv hv => mWp mCd 188 (14, [some (.ref 14), some (.int x1), some (.int x2), some (.int x3)], rv.toList ++ [], hv, 0, 0) Q)) : mWp mCd 188 (8, [some (.ref 14), some (.int x1), some (.int x2), some (.int x3)], [], h, 0, 0) Q := by
  refine mWp_run 3 (t' := (11, [some (.ref 14), some (.int x1), some (.int x2), some (.int x3)], [.int x2, .int x1, .ref 14], h, 0, 0)) rfl ?_
  exact mWp_iv rfl rfl e1 rfl rfl rfl rfl k
theorem b188_14 {h : mH} {Q : Option Value → mH → Prop} {x1 : Int32} {x2 : Int32} {x3 : Int32} {u0 : Int32}  (k1 : u0 = 0 → mWp mCd 188 (27, [none, none, none, none], [], h, 0, 0) Q) (k2 : ¬ (u0 = 0) → mWp mCd 188 (17, [some (.ref 14), some (.int x1), some (.int x2), some (.int x3)], [], h, 0, 0) Q) : mWp mCd 188 (14, [some (.ref 14), some (.int x1), some (.int x2), some (.int x3)], [.int u0], h, 0, 0) Q := by
  exact mWp_if (P := fun x => x = 0) (a := u0) rfl (fun q => mWp_weak (mLe_n (mLe_n (mLe_n (mLe_n mLe_0)))) (k1 q)) k2
theorem b188_17 {h : mH} {Q : Option Value → mH → Prop} {x1 : Int32} {x2 : Int32} {x3 : Int32} {v : Int32} {cor : Int32} {bA : Int64} {bB : Int64} {rw : Int32} {bo : Int32} (e1 : h[14]? = some (oM v cor bA bB rw bo)) (k : mCt mCd 137 [.ref 14, .int x3, .int (iZ 0), .int (iZ 1)] h (fun rv hv => mWp mCd 188 (24, [some (.ref 14), some (.int x1), some (.int x2), some (.int x3)], rv.toList ++ [], hv, 0, 0) Q)) : mWp mCd 188 (17, [some (.ref 14), some (.int x1), some (.int x2), some (.int x3)], [], h, 0, 0) Q := by
  refine mWp_run 4 (t' := (21, [some (.ref 14), some (.int x1), some (.int x2), some (.int x3)], [.int (iZ 1), .int (iZ 0), .int x3, .ref 14], h, 0, 0)) rfl ?_
  exact mWp_iv rfl rfl e1 rfl rfl rfl rfl k
theorem b188_24 {h : mH} {Q : Option Value → mH → Prop} {x1 : Int32} {x2 : Int32} {x3 : Int32} {u0 : Int32}  (k1 : ¬ u0 = 0 → mWp mCd 188 (31, [some (.ref 14), some (.int x1), some (.int x2), some (.int x3)], [], h, 0, 0) Q) (k2 : ¬ (¬ u0 = 0) → mWp mCd 188 (27, [none, none, none, none], [], h, 0, 0) Q) : mWp mCd 188 (24, [some (.ref 14), some (.int x1), some (.int x2), some (.int x3)], [.int u0], h, 0, 0) Q := by
  exact mWp_if (P := fun x => ¬ x = 0) (a := u0) rfl k1 (fun q => mWp_weak (mLe_n (mLe_n (mLe_n (mLe_n mLe_0)))) (k2 q))
theorem b188_31 {h : mH} {Q : Option Value → mH → Prop} {x1 : Int32} {x2 : Int32} {x3 : Int32} {v : Int32} {cor : Int32} {bA : Int64} {bB : Int64} {rw : Int32} {bo : Int32} (e1 : h[14]? = some (oM v cor bA bB rw bo)) (k : mCt mCd 186 [.ref 14, .int x1] h (fun rv hv => mWp mCd 188 (36, [some (.ref 14), none, some (.int x2), some (.int x3)], rv.toList ++ [], hv, 0, 0) Q)) : mWp mCd 188 (31, [some (.ref 14), some (.int x1), some (.int x2), some (.int x3)], [], h, 0, 0) Q := by
  refine mWp_run 2 (t' := (33, [some (.ref 14), some (.int x1), some (.int x2), some (.int x3)], [.int x1, .ref 14], h, 0, 0)) rfl ?_
  exact mWp_iv rfl rfl e1 rfl rfl rfl rfl (mCt_mono k (fun rv hv y => mWp_weak (mLe_s (mLe_n (mLe_s (mLe_s mLe_0)))) y))
theorem b188_36 {h : mH} {Q : Option Value → mH → Prop} {x2 : Int32} {x3 : Int32}  (k1 : ¬ x3 = 0 → mWp mCd 188 (49, [some (.ref 14), none, some (.int x2), none], [], h, 0, 0) Q) (k2 : ¬ (¬ x3 = 0) → mWp mCd 188 (40, [some (.ref 14), none, some (.int x2), none], [], h, 0, 0) Q) : mWp mCd 188 (36, [some (.ref 14), none, some (.int x2), some (.int x3)], [], h, 0, 0) Q := by
  refine mWp_run 1 (t' := (37, [some (.ref 14), none, some (.int x2), some (.int x3)], [.int x3], h, 0, 0)) rfl ?_
  exact mWp_if (P := fun x => ¬ x = 0) (a := x3) rfl (fun q => mWp_weak (mLe_s (mLe_n (mLe_s (mLe_n mLe_0)))) (k1 q)) (fun q => mWp_weak (mLe_s (mLe_n (mLe_s (mLe_n mLe_0)))) (k2 q))
theorem b188_49 {h : mH} {Q : Option Value → mH → Prop} {x2 : Int32} {v : Int32} {cor : Int32} {bA : Int64} {bB : Int64} {rw : Int32} {bo : Int32} {g101 : Nat → Int64} (e1 : h[14]? = some (oM v cor bA bB rw bo)) (e2 : h[22]? = some (aL 16 g101)) (e3 : ¬ (x2 < 0 ∨ 16 ≤ x2.toNatClampNeg)) (k : Q (some (.long (g101 x2.toNatClampNeg))) h) : mWp mCd 188 (49, [some (.ref 14), none, some (.int x2), none], [], h, 0, 0) Q := by
  refine mWp_run 1 (t' := (50, [some (.ref 14), none, some (.int x2), none], [.ref 14], h, 0, 0)) rfl ?_
  refine mWp_gf rfl e1 rfl rfl ?_
  refine mWp_run 1 (t' := (54, [some (.ref 14), none, some (.int x2), none], [.int x2, .ref 22], h, 0, 0)) rfl ?_
  refine mWp_lal rfl e2 e3 ?_
  exact mWp_r (v := (some (.long (g101 x2.toNatClampNeg)))) rfl k
theorem b188_40 {h : mH} {Q : Option Value → mH → Prop} {x2 : Int32} {v : Int32} {cor : Int32} {bA : Int64} {bB : Int64} {rw : Int32} {bo : Int32} {g101 : Nat → Int64} (e1 : h[14]? = some (oM v cor bA bB rw bo)) (e2 : h[21]? = some (aL 16 g101)) (e3 : ¬ (x2 < 0 ∨ 16 ≤ x2.toNatClampNeg)) (k : Q (some (.long (g101 x2.toNatClampNeg))) h) : mWp mCd 188 (40, [some (.ref 14), none, some (.int x2), none], [], h, 0, 0) Q := by
  refine mWp_run 1 (t' := (41, [some (.ref 14), none, some (.int x2), none], [.ref 14], h, 0, 0)) rfl ?_
  refine mWp_gf rfl e1 rfl rfl ?_
  refine mWp_run 1 (t' := (45, [some (.ref 14), none, some (.int x2), none], [.int x2, .ref 21], h, 0, 0)) rfl ?_
  refine mWp_lal rfl e2 e3 ?_
  refine mWp_run 1 (t' := (55, [some (.ref 14), none, some (.int x2), none], [.long (g101 x2.toNatClampNeg)], h, 0, 0)) rfl ?_
  exact mWp_r (v := (some (.long (g101 x2.toNatClampNeg)))) rfl k
theorem b189_0 {h : mH} {Q : Option Value → mH → Prop} {x1 : Int32} {v : Int32} {cor : Int32} {bA : Int64} {bB : Int64} {rw : Int32} {bo : Int32} (e1 : h[14]? = some (oM v cor bA bB rw bo)) (k : mCt mCd 138 [.ref 14, .int x1] h (fun rv hv => mWp mCd 189 (5, [some (.ref 14), some (.int x1), none, none, none, none], rv.toList ++ [], hv, 0, 0) Q)) : mWp mCd 189 (0, [some (.ref 14), some (.int x1), none, none, none, none], [], h, 0, 0) Q := by
  refine mWp_run 2 (t' := (2, [some (.ref 14), some (.int x1), none, none, none, none], [.int x1, .ref 14], h, 0, 0)) rfl ?_
  exact mWp_iv rfl rfl e1 rfl rfl rfl rfl k
theorem b189_5 {h : mH} {Q : Option Value → mH → Prop} {x1 : Int32} {u0 : Int32}  (k1 : ¬ u0 = 0 → mWp mCd 189 (11, [some (.ref 14), some (.int x1), none, none, none, none], [], h, 0, 0) Q) (k2 : ¬ (¬ u0 = 0) → mWp mCd 189 (8, [none, none, none, none, none, none], [], h, 0, 0) Q) : mWp mCd 189 (5, [some (.ref 14), some (.int x1), none, none, none, none], [.int u0], h, 0, 0) Q := by
  exact mWp_if (P := fun x => ¬ x = 0) (a := u0) rfl k1 (fun q => mWp_weak (mLe_n (mLe_n (mLe_n (mLe_n (mLe_n (mLe_n mLe_0)))))) (k2 q))
theorem b189_11 {h : mH} {Q : Option Value → mH → Prop} {x1 : Int32}  (k : mWp mCd 189 (13, [some (.ref 14), some (.int x1), some (.int (iZ 0)), none, none, none], [], h, 0, 0) Q) : mWp mCd 189 (11, [some (.ref 14), some (.int x1), none, none, none, none], [], h, 0, 0) Q := by
  refine mWp_run 2 (t' := (13, [some (.ref 14), some (.int x1), some (.int (iZ 0)), none, none, none], [], h, 0, 0)) rfl ?_
  exact k
theorem b189_8 {h : mH} {Q : Option Value → mH → Prop}   (k : Q (some (.int (iZ (-2)))) h) : mWp mCd 189 (8, [none, none, none, none, none, none], [], h, 0, 0) Q := by
  refine mWp_run 1 (t' := (10, [none, none, none, none, none, none], [.int (iZ (-2))], h, 0, 0)) rfl ?_
  exact mWp_r (v := (some (.int (iZ (-2))))) rfl k
theorem b189_13 {h : mH} {Q : Option Value → mH → Prop} {x1 : Int32} {x2 : Int32} {v : Int32} {cor : Int32} {bA : Int64} {bB : Int64} {rw : Int32} {bo : Int32} {g101 : Nat → Int32} (e1 : h[14]? = some (oM v cor bA bB rw bo)) (e2 : h[16]? = some (aI 11 g101)) (e3 : ¬ (x1 < 0 ∨ 11 ≤ x1.toNatClampNeg)) (k1 : (g101 x1.toNatClampNeg) ≤ x2 → mWp mCd 189 (130, [none, none, none, none, none, none], [], h, 0, 0) Q) (k2 : ¬ ((g101 x1.toNatClampNeg) ≤ x2) → mWp mCd 189 (23, [some (.ref 14), some (.int x1), some (.int x2), none, none, none], [], h, 0, 0) Q) : mWp mCd 189 (13, [some (.ref 14), some (.int x1), some (.int x2), none, none, none], [], h, 0, 0) Q := by
  refine mWp_run 2 (t' := (15, [some (.ref 14), some (.int x1), some (.int x2), none, none, none], [.ref 14, .int x2], h, 0, 0)) rfl ?_
  refine mWp_gf rfl e1 rfl rfl ?_
  refine mWp_run 1 (t' := (19, [some (.ref 14), some (.int x1), some (.int x2), none, none, none], [.int x1, .ref 16, .int x2], h, 0, 0)) rfl ?_
  refine mWp_ial rfl e2 e3 ?_
  exact mWp_ic (P := fun x y => y ≤ x) (a := x2) (b := g101 x1.toNatClampNeg) rfl (fun q => mWp_weak (mLe_n (mLe_n (mLe_n (mLe_n (mLe_n (mLe_n mLe_0)))))) (k1 q)) k2
theorem b189_130 {h : mH} {Q : Option Value → mH → Prop}   (k : Q (some (.int (iZ (-1)))) h) : mWp mCd 189 (130, [none, none, none, none, none, none], [], h, 0, 0) Q := by
  refine mWp_run 1 (t' := (131, [none, none, none, none, none, none], [.int (iZ (-1))], h, 0, 0)) rfl ?_
  exact mWp_r (v := (some (.int (iZ (-1))))) rfl k
theorem b189_23 {h : mH} {Q : Option Value → mH → Prop} {x1 : Int32} {x2 : Int32}  (k : mWp mCd 189 (25, [some (.ref 14), some (.int x1), some (.int x2), some (.int (iZ 0)), none, none], [], h, 0, 0) Q) : mWp mCd 189 (23, [some (.ref 14), some (.int x1), some (.int x2), none, none, none], [], h, 0, 0) Q := by
  refine mWp_run 2 (t' := (25, [some (.ref 14), some (.int x1), some (.int x2), some (.int (iZ 0)), none, none], [], h, 0, 0)) rfl ?_
  exact k
theorem b189_25 {h : mH} {Q : Option Value → mH → Prop} {x1 : Int32} {x2 : Int32} {x3 : Int32} {v : Int32} {cor : Int32} {bA : Int64} {bB : Int64} {rw : Int32} {bo : Int32} (e1 : h[14]? = some (oM v cor bA bB rw bo)) (k : mCt mCd 139 [.ref 14, .int x1] h (fun rv hv => mWp mCd 189 (31, [some (.ref 14), some (.int x1), some (.int x2), some (.int x3), none, none], rv.toList ++ [.int x3], hv, 0, 0) Q)) : mWp mCd 189 (25, [some (.ref 14), some (.int x1), some (.int x2), some (.int x3), none, none], [], h, 0, 0) Q := by
  refine mWp_run 3 (t' := (28, [some (.ref 14), some (.int x1), some (.int x2), some (.int x3), none, none], [.int x1, .ref 14, .int x3], h, 0, 0)) rfl ?_
  exact mWp_iv rfl rfl e1 rfl rfl rfl rfl k
theorem b189_31 {h : mH} {Q : Option Value → mH → Prop} {x1 : Int32} {x2 : Int32} {x3 : Int32} {u0 : Int32} {u1 : Int32}  (k1 : u0 < u1 → mWp mCd 189 (124, [some (.ref 14), some (.int x1), some (.int x2), none, none, none], [], h, 0, 0) Q) (k2 : ¬ (u0 < u1) → mWp mCd 189 (34, [some (.ref 14), some (.int x1), some (.int x2), some (.int x3), none, none], [], h, 0, 0) Q) : mWp mCd 189 (31, [some (.ref 14), some (.int x1), some (.int x2), some (.int x3), none, none], [.int u0, .int u1], h, 0, 0) Q := by
  exact mWp_ic (P := fun x y => y < x) (a := u1) (b := u0) rfl (fun q => mWp_weak (mLe_s (mLe_s (mLe_s (mLe_n (mLe_n (mLe_n mLe_0)))))) (k1 q)) k2
theorem b189_124 {h : mH} {Q : Option Value → mH → Prop} {x1 : Int32} {x2 : Int32}  (k : mWp mCd 189 (13, [some (.ref 14), some (.int x1), some (.int (x2 + iZ 1)), none, none, none], [], h, 0, 0) Q) : mWp mCd 189 (124, [some (.ref 14), some (.int x1), some (.int x2), none, none, none], [], h, 0, 0) Q := by
  refine mWp_run 2 (t' := (13, [some (.ref 14), some (.int x1), some (.int (x2 + iZ 1)), none, none, none], [], h, 0, 0)) rfl ?_
  exact k
theorem b189_34 {h : mH} {Q : Option Value → mH → Prop} {x1 : Int32} {x2 : Int32} {x3 : Int32}  (k : mWp mCd 189 (39, [some (.ref 14), some (.int x1), some (.int x2), some (.int x3), some (.int (x3 + (iZ 1))), none], [], h, 0, 0) Q) : mWp mCd 189 (34, [some (.ref 14), some (.int x1), some (.int x2), some (.int x3), none, none], [], h, 0, 0) Q := by
  refine mWp_run 4 (t' := (39, [some (.ref 14), some (.int x1), some (.int x2), some (.int x3), some (.int (x3 + (iZ 1))), none], [], h, 0, 0)) rfl ?_
  exact k
theorem b189_39 {h : mH} {Q : Option Value → mH → Prop} {x1 : Int32} {x2 : Int32} {x3 : Int32} {x4 : Int32} {v : Int32} {cor : Int32} {bA : Int64} {bB : Int64} {rw : Int32} {bo : Int32} (e1 : h[14]? = some (oM v cor bA bB rw bo)) (k : mCt mCd 139 [.ref 14, .int x1] h (fun rv hv => mWp mCd 189 (46, [some (.ref 14), some (.int x1), some (.int x2), some (.int x3), some (.int x4), none], rv.toList ++ [.int x4], hv, 0, 0) Q)) : mWp mCd 189 (39, [some (.ref 14), some (.int x1), some (.int x2), some (.int x3), some (.int x4), none], [], h, 0, 0) Q := by
  refine mWp_run 3 (t' := (43, [some (.ref 14), some (.int x1), some (.int x2), some (.int x3), some (.int x4), none], [.int x1, .ref 14, .int x4], h, 0, 0)) rfl ?_
  exact mWp_iv rfl rfl e1 rfl rfl rfl rfl k
theorem b189_46 {h : mH} {Q : Option Value → mH → Prop} {x1 : Int32} {x2 : Int32} {x3 : Int32} {x4 : Int32} {u0 : Int32} {u1 : Int32}  (k1 : u0 < u1 → mWp mCd 189 (118, [some (.ref 14), some (.int x1), some (.int x2), some (.int x3), none, none], [], h, 0, 0) Q) (k2 : ¬ (u0 < u1) → mWp mCd 189 (49, [some (.ref 14), some (.int x1), some (.int x2), some (.int x3), some (.int x4), none], [], h, 0, 0) Q) : mWp mCd 189 (46, [some (.ref 14), some (.int x1), some (.int x2), some (.int x3), some (.int x4), none], [.int u0, .int u1], h, 0, 0) Q := by
  exact mWp_ic (P := fun x y => y < x) (a := u1) (b := u0) rfl (fun q => mWp_weak (mLe_s (mLe_s (mLe_s (mLe_s (mLe_n (mLe_n mLe_0)))))) (k1 q)) k2
theorem b189_118 {h : mH} {Q : Option Value → mH → Prop} {x1 : Int32} {x2 : Int32} {x3 : Int32}  (k : mWp mCd 189 (25, [some (.ref 14), some (.int x1), some (.int x2), some (.int (x3 + iZ 1)), none, none], [], h, 0, 0) Q) : mWp mCd 189 (118, [some (.ref 14), some (.int x1), some (.int x2), some (.int x3), none, none], [], h, 0, 0) Q := by
  refine mWp_run 2 (t' := (25, [some (.ref 14), some (.int x1), some (.int x2), some (.int (x3 + iZ 1)), none, none], [], h, 0, 0)) rfl ?_
  exact k
theorem b189_49 {h : mH} {Q : Option Value → mH → Prop} {x1 : Int32} {x2 : Int32} {x3 : Int32} {x4 : Int32}  (k1 : ¬ (x3 &&& (x4 ^^^ (iZ (-1)))) = 0 → mWp mCd 189 (71, [some (.ref 14), some (.int x1), some (.int x2), some (.int x3), some (.int x4), none], [], h, 0, 0) Q) (k2 : ¬ (¬ (x3 &&& (x4 ^^^ (iZ (-1)))) = 0) → mWp mCd 189 (58, [some (.ref 14), some (.int x1), some (.int x2), some (.int x3), some (.int x4), none], [], h, 0, 0) Q) : mWp mCd 189 (49, [some (.ref 14), some (.int x1), some (.int x2), some (.int x3), some (.int x4), none], [], h, 0, 0) Q := by
  refine mWp_run 5 (t' := (55, [some (.ref 14), some (.int x1), some (.int x2), some (.int x3), some (.int x4), none], [.int (x3 &&& (x4 ^^^ (iZ (-1))))], h, 0, 0)) rfl ?_
  exact mWp_if (P := fun x => ¬ x = 0) (a := x3 &&& (x4 ^^^ (iZ (-1)))) rfl k1 k2
theorem b189_71 {h : mH} {Q : Option Value → mH → Prop} {x1 : Int32} {x2 : Int32} {x3 : Int32} {x4 : Int32}  (k : mWp mCd 189 (72, [some (.ref 14), some (.int x1), some (.int x2), some (.int x3), some (.int x4), none], [.int (iZ 0)], h, 0, 0) Q) : mWp mCd 189 (71, [some (.ref 14), some (.int x1), some (.int x2), some (.int x3), some (.int x4), none], [], h, 0, 0) Q := by
  refine mWp_run 1 (t' := (72, [some (.ref 14), some (.int x1), some (.int x2), some (.int x3), some (.int x4), none], [.int (iZ 0)], h, 0, 0)) rfl ?_
  exact k
theorem b189_58 {h : mH} {Q : Option Value → mH → Prop} {x1 : Int32} {x2 : Int32} {x3 : Int32} {x4 : Int32}  (k1 : ¬ ((x4 >>> (x2 &&& 31)) &&& (iZ 1)) = 0 → mWp mCd 189 (71, [some (.ref 14), some (.int x1), some (.int x2), some (.int x3), some (.int x4), none], [], h, 0, 0) Q) (k2 : ¬ (¬ ((x4 >>> (x2 &&& 31)) &&& (iZ 1)) = 0) → mWp mCd 189 (67, [some (.ref 14), some (.int x1), some (.int x2), some (.int x3), some (.int x4), none], [], h, 0, 0) Q) : mWp mCd 189 (58, [some (.ref 14), some (.int x1), some (.int x2), some (.int x3), some (.int x4), none], [], h, 0, 0) Q := by
  refine mWp_run 5 (t' := (64, [some (.ref 14), some (.int x1), some (.int x2), some (.int x3), some (.int x4), none], [.int ((x4 >>> (x2 &&& 31)) &&& (iZ 1))], h, 0, 0)) rfl ?_
  exact mWp_if (P := fun x => ¬ x = 0) (a := (x4 >>> (x2 &&& 31)) &&& (iZ 1)) rfl k1 k2
theorem b189_72 {h : mH} {Q : Option Value → mH → Prop} {x1 : Int32} {x2 : Int32} {x3 : Int32} {x4 : Int32} {u0 : Int32}  (k1 : u0 = 0 → mWp mCd 189 (112, [some (.ref 14), some (.int x1), some (.int x2), some (.int x3), some (.int x4), none], [], h, 0, 0) Q) (k2 : ¬ (u0 = 0) → mWp mCd 189 (79, [some (.ref 14), some (.int x1), some (.int x2), some (.int x3), some (.int x4), none], [], h, 0, 0) Q) : mWp mCd 189 (72, [some (.ref 14), some (.int x1), some (.int x2), some (.int x3), some (.int x4), none], [.int u0], h, 0, 0) Q := by
  refine mWp_run 2 (t' := (76, [some (.ref 14), some (.int x1), some (.int x2), some (.int x3), some (.int x4), some (.int u0)], [.int u0], h, 0, 0)) rfl ?_
  exact mWp_if (P := fun x => x = 0) (a := u0) rfl (fun q => mWp_weak (mLe_s (mLe_s (mLe_s (mLe_s (mLe_s (mLe_n mLe_0)))))) (k1 q)) (fun q => mWp_weak (mLe_s (mLe_s (mLe_s (mLe_s (mLe_s (mLe_n mLe_0)))))) (k2 q))
theorem b189_67 {h : mH} {Q : Option Value → mH → Prop} {x1 : Int32} {x2 : Int32} {x3 : Int32} {x4 : Int32}  (k : mWp mCd 189 (72, [some (.ref 14), some (.int x1), some (.int x2), some (.int x3), some (.int x4), none], [.int (iZ 1)], h, 0, 0) Q) : mWp mCd 189 (67, [some (.ref 14), some (.int x1), some (.int x2), some (.int x3), some (.int x4), none], [], h, 0, 0) Q := by
  refine mWp_run 2 (t' := (72, [some (.ref 14), some (.int x1), some (.int x2), some (.int x3), some (.int x4), none], [.int (iZ 1)], h, 0, 0)) rfl ?_
  exact k
theorem b189_112 {h : mH} {Q : Option Value → mH → Prop} {x1 : Int32} {x2 : Int32} {x3 : Int32} {x4 : Int32}  (k : mWp mCd 189 (39, [some (.ref 14), some (.int x1), some (.int x2), some (.int x3), some (.int (x4 + iZ 1)), none], [], h, 0, 0) Q) : mWp mCd 189 (112, [some (.ref 14), some (.int x1), some (.int x2), some (.int x3), some (.int x4), none], [], h, 0, 0) Q := by
  refine mWp_run 2 (t' := (39, [some (.ref 14), some (.int x1), some (.int x2), some (.int x3), some (.int (x4 + iZ 1)), none], [], h, 0, 0)) rfl ?_
  exact k
theorem b189_79 {h : mH} {Q : Option Value → mH → Prop} {x1 : Int32} {x2 : Int32} {x3 : Int32} {x4 : Int32} {v : Int32} {cor : Int32} {bA : Int64} {bB : Int64} {rw : Int32} {bo : Int32} (e1 : h[14]? = some (oM v cor bA bB rw bo)) (k : mCt mCd 162 [.ref 14, .int x1, .int x2, .int x4] h (fun rv hv => mWp mCd 189 (87, [some (.ref 14), some (.int x1), some (.int x2), some (.int x3), some (.int x4), none], rv.toList ++ [], hv, 0, 0) Q)) : mWp mCd 189 (79, [some (.ref 14), some (.int x1), some (.int x2), some (.int x3), some (.int x4), none], [], h, 0, 0) Q := by
  refine mWp_run 4 (t' := (84, [some (.ref 14), some (.int x1), some (.int x2), some (.int x3), some (.int x4), none], [.int x4, .int x2, .int x1, .ref 14], h, 0, 0)) rfl ?_
  exact mWp_iv rfl rfl e1 rfl rfl rfl rfl k
theorem b189_87 {h : mH} {Q : Option Value → mH → Prop} {x1 : Int32} {x2 : Int32} {x3 : Int32} {x4 : Int32} {w0 : Int64} {v : Int32} {cor : Int32} {bA : Int64} {bB : Int64} {rw : Int32} {bo : Int32} (e1 : h[14]? = some (oM v cor bA bB rw bo)) (k : mCt mCd 162 [.ref 14, .int x1, .int x2, .int x3] h (fun rv hv => mWp mCd 189 (94, [some (.ref 14), some (.int x1), some (.int x2), some (.int x3), some (.int x4), none], rv.toList ++ [.long w0], hv, 0, 0) Q)) : mWp mCd 189 (87, [some (.ref 14), some (.int x1), some (.int x2), some (.int x3), some (.int x4), none], [.long w0], h, 0, 0) Q := by
  refine mWp_run 4 (t' := (91, [some (.ref 14), some (.int x1), some (.int x2), some (.int x3), some (.int x4), none], [.int x3, .int x2, .int x1, .ref 14, .long w0], h, 0, 0)) rfl ?_
  exact mWp_iv rfl rfl e1 rfl rfl rfl rfl k
theorem b189_94 {h : mH} {Q : Option Value → mH → Prop} {x1 : Int32} {x2 : Int32} {x3 : Int32} {x4 : Int32} {w0 : Int64} {w1 : Int64}  (k1 : 0 ≤ (lg_cmp w1 w0) → mWp mCd 189 (112, [some (.ref 14), some (.int x1), some (.int x2), some (.int x3), some (.int x4), none], [], h, 0, 0) Q) (k2 : ¬ (0 ≤ (lg_cmp w1 w0)) → mWp mCd 189 (98, [none, none, some (.int x2), some (.int x3), some (.int x4), none], [], h, 0, 0) Q) : mWp mCd 189 (94, [some (.ref 14), some (.int x1), some (.int x2), some (.int x3), some (.int x4), none], [.long w0, .long w1], h, 0, 0) Q := by
  refine mWp_run 1 (t' := (95, [some (.ref 14), some (.int x1), some (.int x2), some (.int x3), some (.int x4), none], [.int (lg_cmp w1 w0)], h, 0, 0)) rfl ?_
  exact mWp_if (P := fun x => 0 ≤ x) (a := lg_cmp w1 w0) rfl k1 (fun q => mWp_weak (mLe_n (mLe_n (mLe_s (mLe_s (mLe_s (mLe_n mLe_0)))))) (k2 q))
theorem b189_98 {h : mH} {Q : Option Value → mH → Prop} {x2 : Int32} {x3 : Int32} {x4 : Int32}  (k : Q (some (.int ((((iZ 256) * x2) + ((iZ 16) * x3)) + x4))) h) : mWp mCd 189 (98, [none, none, some (.int x2), some (.int x3), some (.int x4), none], [], h, 0, 0) Q := by
  refine mWp_run 9 (t' := (111, [none, none, some (.int x2), some (.int x3), some (.int x4), none], [.int ((((iZ 256) * x2) + ((iZ 16) * x3)) + x4)], h, 0, 0)) rfl ?_
  exact mWp_r (v := (some (.int ((((iZ 256) * x2) + ((iZ 16) * x3)) + x4)))) rfl k
theorem b190_0 {h : mH} {Q : Option Value → mH → Prop} {x1 : Int32}  (k : mWp mCd 190 (4, [some (.ref 14), some (.int x1), some (.int (iZ 0)), some (.int (iZ 0)), none, none], [], h, 0, 0) Q) : mWp mCd 190 (0, [some (.ref 14), some (.int x1), none, none, none, none], [], h, 0, 0) Q := by
  refine mWp_run 4 (t' := (4, [some (.ref 14), some (.int x1), some (.int (iZ 0)), some (.int (iZ 0)), none, none], [], h, 0, 0)) rfl ?_
  exact k
theorem b190_4 {h : mH} {Q : Option Value → mH → Prop} {x1 : Int32} {x2 : Int32} {x3 : Int32} {v : Int32} {cor : Int32} {bA : Int64} {bB : Int64} {rw : Int32} {bo : Int32} {g101 : Nat → Int32} (e1 : h[14]? = some (oM v cor bA bB rw bo)) (e2 : h[16]? = some (aI 11 g101)) (e3 : ¬ (x1 < 0 ∨ 11 ≤ x1.toNatClampNeg)) (k1 : (g101 x1.toNatClampNeg) ≤ x3 → mWp mCd 190 (99, [none, none, some (.int x2), none, none, none], [], h, 0, 0) Q) (k2 : ¬ ((g101 x1.toNatClampNeg) ≤ x3) → mWp mCd 190 (14, [some (.ref 14), some (.int x1), some (.int x2), some (.int x3), none, none], [], h, 0, 0) Q) : mWp mCd 190 (4, [some (.ref 14), some (.int x1), some (.int x2), some (.int x3), none, none], [], h, 0, 0) Q := by
  refine mWp_run 2 (t' := (6, [some (.ref 14), some (.int x1), some (.int x2), some (.int x3), none, none], [.ref 14, .int x3], h, 0, 0)) rfl ?_
  refine mWp_gf rfl e1 rfl rfl ?_
  refine mWp_run 1 (t' := (10, [some (.ref 14), some (.int x1), some (.int x2), some (.int x3), none, none], [.int x1, .ref 16, .int x3], h, 0, 0)) rfl ?_
  refine mWp_ial rfl e2 e3 ?_
  exact mWp_ic (P := fun x y => y ≤ x) (a := x3) (b := g101 x1.toNatClampNeg) rfl (fun q => mWp_weak (mLe_n (mLe_n (mLe_s (mLe_n (mLe_n (mLe_n mLe_0)))))) (k1 q)) k2
theorem b190_99 {h : mH} {Q : Option Value → mH → Prop} {x2 : Int32}  (k : Q (some (.int x2)) h) : mWp mCd 190 (99, [none, none, some (.int x2), none, none, none], [], h, 0, 0) Q := by
  refine mWp_run 1 (t' := (100, [none, none, some (.int x2), none, none, none], [.int x2], h, 0, 0)) rfl ?_
  exact mWp_r (v := (some (.int x2))) rfl k
theorem b190_14 {h : mH} {Q : Option Value → mH → Prop} {x1 : Int32} {x2 : Int32} {x3 : Int32}  (k : mWp mCd 190 (20, [some (.ref 14), some (.int x1), some (.int x2), some (.int x3), some (.int (iZ 1)), some (.int (iZ 0))], [], h, 0, 0) Q) : mWp mCd 190 (14, [some (.ref 14), some (.int x1), some (.int x2), some (.int x3), none, none], [], h, 0, 0) Q := by
  refine mWp_run 4 (t' := (20, [some (.ref 14), some (.int x1), some (.int x2), some (.int x3), some (.int (iZ 1)), some (.int (iZ 0))], [], h, 0, 0)) rfl ?_
  exact k
theorem b190_20 {h : mH} {Q : Option Value → mH → Prop} {x1 : Int32} {x2 : Int32} {x3 : Int32} {x4 : Int32} {x5 : Int32} {v : Int32} {cor : Int32} {bA : Int64} {bB : Int64} {rw : Int32} {bo : Int32} (e1 : h[14]? = some (oM v cor bA bB rw bo)) (k : mCt mCd 139 [.ref 14, .int x1] h (fun rv hv => mWp mCd 190 (27, [some (.ref 14), some (.int x1), some (.int x2), some (.int x3), some (.int x4), some (.int x5)], rv.toList ++ [.int x5], hv, 0, 0) Q)) : mWp mCd 190 (20, [some (.ref 14), some (.int x1), some (.int x2), some (.int x3), some (.int x4), some (.int x5)], [], h, 0, 0) Q := by
  refine mWp_run 3 (t' := (24, [some (.ref 14), some (.int x1), some (.int x2), some (.int x3), some (.int x4), some (.int x5)], [.int x1, .ref 14, .int x5], h, 0, 0)) rfl ?_
  exact mWp_iv rfl rfl e1 rfl rfl rfl rfl k
theorem b190_27 {h : mH} {Q : Option Value → mH → Prop} {x1 : Int32} {x2 : Int32} {x3 : Int32} {x4 : Int32} {x5 : Int32} {u0 : Int32} {u1 : Int32}  (k1 : u0 < u1 → mWp mCd 190 (78, [some (.ref 14), some (.int x1), some (.int x2), some (.int x3), some (.int x4), none], [], h, 0, 0) Q) (k2 : ¬ (u0 < u1) → mWp mCd 190 (30, [some (.ref 14), some (.int x1), some (.int x2), some (.int x3), some (.int x4), some (.int x5)], [], h, 0, 0) Q) : mWp mCd 190 (27, [some (.ref 14), some (.int x1), some (.int x2), some (.int x3), some (.int x4), some (.int x5)], [.int u0, .int u1], h, 0, 0) Q := by
  exact mWp_ic (P := fun x y => y < x) (a := u1) (b := u0) rfl (fun q => mWp_weak (mLe_s (mLe_s (mLe_s (mLe_s (mLe_s (mLe_n mLe_0)))))) (k1 q)) k2
theorem b190_78 {h : mH} {Q : Option Value → mH → Prop} {x1 : Int32} {x2 : Int32} {x3 : Int32} {x4 : Int32}  (k1 : x4 = 0 → mWp mCd 190 (90, [some (.ref 14), some (.int x1), none, some (.int x3), none, none], [.int x2], h, 0, 0) Q) (k2 : ¬ (x4 = 0) → mWp mCd 190 (84, [some (.ref 14), some (.int x1), none, some (.int x3), none, none], [.int x2], h, 0, 0) Q) : mWp mCd 190 (78, [some (.ref 14), some (.int x1), some (.int x2), some (.int x3), some (.int x4), none], [], h, 0, 0) Q := by
  refine mWp_run 2 (t' := (81, [some (.ref 14), some (.int x1), some (.int x2), some (.int x3), some (.int x4), none], [.int x4, .int x2], h, 0, 0)) rfl ?_
  exact mWp_if (P := fun x => x = 0) (a := x4) rfl (fun q => mWp_weak (mLe_s (mLe_s (mLe_n (mLe_s (mLe_n (mLe_n mLe_0)))))) (k1 q)) (fun q => mWp_weak (mLe_s (mLe_s (mLe_n (mLe_s (mLe_n (mLe_n mLe_0)))))) (k2 q))
theorem b190_30 {h : mH} {Q : Option Value → mH → Prop} {x1 : Int32} {x2 : Int32} {x3 : Int32} {x4 : Int32} {x5 : Int32}  (k1 : x4 = 0 → mWp mCd 190 (69, [some (.ref 14), some (.int x1), some (.int x2), some (.int x3), none, some (.int x5)], [], h, 0, 0) Q) (k2 : ¬ (x4 = 0) → mWp mCd 190 (35, [some (.ref 14), some (.int x1), some (.int x2), some (.int x3), none, some (.int x5)], [], h, 0, 0) Q) : mWp mCd 190 (30, [some (.ref 14), some (.int x1), some (.int x2), some (.int x3), some (.int x4), some (.int x5)], [], h, 0, 0) Q := by
  refine mWp_run 1 (t' := (32, [some (.ref 14), some (.int x1), some (.int x2), some (.int x3), some (.int x4), some (.int x5)], [.int x4], h, 0, 0)) rfl ?_
  exact mWp_if (P := fun x => x = 0) (a := x4) rfl (fun q => mWp_weak (mLe_s (mLe_s (mLe_s (mLe_s (mLe_n (mLe_s mLe_0)))))) (k1 q)) (fun q => mWp_weak (mLe_s (mLe_s (mLe_s (mLe_s (mLe_n (mLe_s mLe_0)))))) (k2 q))
theorem b190_90 {h : mH} {Q : Option Value → mH → Prop} {x1 : Int32} {x3 : Int32} {u0 : Int32}  (k : mWp mCd 190 (91, [some (.ref 14), some (.int x1), none, some (.int x3), none, none], [.int (iZ 0), .int u0], h, 0, 0) Q) : mWp mCd 190 (90, [some (.ref 14), some (.int x1), none, some (.int x3), none, none], [.int u0], h, 0, 0) Q := by
  refine mWp_run 1 (t' := (91, [some (.ref 14), some (.int x1), none, some (.int x3), none, none], [.int (iZ 0), .int u0], h, 0, 0)) rfl ?_
  exact k
theorem b190_84 {h : mH} {Q : Option Value → mH → Prop} {x1 : Int32} {x3 : Int32} {u0 : Int32}  (k : mWp mCd 190 (91, [some (.ref 14), some (.int x1), none, some (.int x3), none, none], [.int ((iZ 1) <<< (x3 &&& 31)), .int u0], h, 0, 0) Q) : mWp mCd 190 (84, [some (.ref 14), some (.int x1), none, some (.int x3), none, none], [.int u0], h, 0, 0) Q := by
  refine mWp_run 4 (t' := (91, [some (.ref 14), some (.int x1), none, some (.int x3), none, none], [.int ((iZ 1) <<< (x3 &&& 31)), .int u0], h, 0, 0)) rfl ?_
  exact k
theorem b190_69 {h : mH} {Q : Option Value → mH → Prop} {x1 : Int32} {x2 : Int32} {x3 : Int32} {x5 : Int32}  (k : mWp mCd 190 (70, [some (.ref 14), some (.int x1), some (.int x2), some (.int x3), none, some (.int x5)], [.int (iZ 0)], h, 0, 0) Q) : mWp mCd 190 (69, [some (.ref 14), some (.int x1), some (.int x2), some (.int x3), none, some (.int x5)], [], h, 0, 0) Q := by
  refine mWp_run 1 (t' := (70, [some (.ref 14), some (.int x1), some (.int x2), some (.int x3), none, some (.int x5)], [.int (iZ 0)], h, 0, 0)) rfl ?_
  exact k
theorem b190_35 {h : mH} {Q : Option Value → mH → Prop} {x1 : Int32} {x2 : Int32} {x3 : Int32} {x5 : Int32}  (k1 : ((x5 >>> (x3 &&& 31)) &&& (iZ 1)) = (iZ 1) → mWp mCd 190 (65, [some (.ref 14), some (.int x1), some (.int x2), some (.int x3), none, some (.int x5)], [], h, 0, 0) Q) (k2 : ¬ (((x5 >>> (x3 &&& 31)) &&& (iZ 1)) = (iZ 1)) → mWp mCd 190 (45, [some (.ref 14), some (.int x1), some (.int x2), some (.int x3), none, some (.int x5)], [], h, 0, 0) Q) : mWp mCd 190 (35, [some (.ref 14), some (.int x1), some (.int x2), some (.int x3), none, some (.int x5)], [], h, 0, 0) Q := by
  refine mWp_run 6 (t' := (42, [some (.ref 14), some (.int x1), some (.int x2), some (.int x3), none, some (.int x5)], [.int (iZ 1), .int ((x5 >>> (x3 &&& 31)) &&& (iZ 1))], h, 0, 0)) rfl ?_
  exact mWp_ic (P := fun x y => x = y) (a := (x5 >>> (x3 &&& 31)) &&& (iZ 1)) (b := iZ 1) rfl k1 k2
theorem b190_91 {h : mH} {Q : Option Value → mH → Prop} {x1 : Int32} {x3 : Int32} {u0 : Int32} {u1 : Int32}  (k : mWp mCd 190 (4, [some (.ref 14), some (.int x1), some (.int (u1 ||| u0)), some (.int (x3 + iZ 1)), none, none], [], h, 0, 0) Q) : mWp mCd 190 (91, [some (.ref 14), some (.int x1), none, some (.int x3), none, none], [.int u0, .int u1], h, 0, 0) Q := by
  refine mWp_run 4 (t' := (4, [some (.ref 14), some (.int x1), some (.int (u1 ||| u0)), some (.int (x3 + iZ 1)), none, none], [], h, 0, 0)) rfl ?_
  exact k
theorem b190_70 {h : mH} {Q : Option Value → mH → Prop} {x1 : Int32} {x2 : Int32} {x3 : Int32} {x5 : Int32} {u0 : Int32}  (k : mWp mCd 190 (20, [some (.ref 14), some (.int x1), some (.int x2), some (.int x3), some (.int u0), some (.int (x5 + iZ 1))], [], h, 0, 0) Q) : mWp mCd 190 (70, [some (.ref 14), some (.int x1), some (.int x2), some (.int x3), none, some (.int x5)], [.int u0], h, 0, 0) Q := by
  refine mWp_run 3 (t' := (20, [some (.ref 14), some (.int x1), some (.int x2), some (.int x3), some (.int u0), some (.int (x5 + iZ 1))], [], h, 0, 0)) rfl ?_
  exact k
theorem b190_65 {h : mH} {Q : Option Value → mH → Prop} {x1 : Int32} {x2 : Int32} {x3 : Int32} {x5 : Int32}  (k : mWp mCd 190 (70, [some (.ref 14), some (.int x1), some (.int x2), some (.int x3), none, some (.int x5)], [.int (iZ 1)], h, 0, 0) Q) : mWp mCd 190 (65, [some (.ref 14), some (.int x1), some (.int x2), some (.int x3), none, some (.int x5)], [], h, 0, 0) Q := by
  refine mWp_run 2 (t' := (70, [some (.ref 14), some (.int x1), some (.int x2), some (.int x3), none, some (.int x5)], [.int (iZ 1)], h, 0, 0)) rfl ?_
  exact k
theorem b190_45 {h : mH} {Q : Option Value → mH → Prop} {x1 : Int32} {x2 : Int32} {x3 : Int32} {x5 : Int32} {v : Int32} {cor : Int32} {bA : Int64} {bB : Int64} {rw : Int32} {bo : Int32} (e1 : h[14]? = some (oM v cor bA bB rw bo)) (k : mCt mCd 162 [.ref 14, .int x1, .int x3, .int x5] h (fun rv hv => mWp mCd 190 (53, [some (.ref 14), some (.int x1), some (.int x2), some (.int x3), none, some (.int x5)], rv.toList ++ [], hv, 0, 0) Q)) : mWp mCd 190 (45, [some (.ref 14), some (.int x1), some (.int x2), some (.int x3), none, some (.int x5)], [], h, 0, 0) Q := by
  refine mWp_run 4 (t' := (50, [some (.ref 14), some (.int x1), some (.int x2), some (.int x3), none, some (.int x5)], [.int x5, .int x3, .int x1, .ref 14], h, 0, 0)) rfl ?_
  exact mWp_iv rfl rfl e1 rfl rfl rfl rfl k
theorem b190_53 {h : mH} {Q : Option Value → mH → Prop} {x1 : Int32} {x2 : Int32} {x3 : Int32} {x5 : Int32} {w0 : Int64} {v : Int32} {cor : Int32} {bA : Int64} {bB : Int64} {rw : Int32} {bo : Int32} (e1 : h[14]? = some (oM v cor bA bB rw bo)) (k : mCt mCd 144 [.ref 14, .int x1, .int ((iZ 1) <<< (x3 &&& 31))] h (fun rv hv => mWp mCd 190 (61, [some (.ref 14), some (.int x1), some (.int x2), some (.int x3), none, some (.int x5)], rv.toList ++ [.long w0], hv, 0, 0) Q)) : mWp mCd 190 (53, [some (.ref 14), some (.int x1), some (.int x2), some (.int x3), none, some (.int x5)], [.long w0], h, 0, 0) Q := by
  refine mWp_run 5 (t' := (58, [some (.ref 14), some (.int x1), some (.int x2), some (.int x3), none, some (.int x5)], [.int ((iZ 1) <<< (x3 &&& 31)), .int x1, .ref 14, .long w0], h, 0, 0)) rfl ?_
  exact mWp_iv rfl rfl e1 rfl rfl rfl rfl k
theorem b190_61 {h : mH} {Q : Option Value → mH → Prop} {x1 : Int32} {x2 : Int32} {x3 : Int32} {x5 : Int32} {w0 : Int64} {w1 : Int64}  (k1 : ¬ (lg_cmp w1 w0) = 0 → mWp mCd 190 (69, [some (.ref 14), some (.int x1), some (.int x2), some (.int x3), none, some (.int x5)], [], h, 0, 0) Q) (k2 : ¬ (¬ (lg_cmp w1 w0) = 0) → mWp mCd 190 (65, [some (.ref 14), some (.int x1), some (.int x2), some (.int x3), none, some (.int x5)], [], h, 0, 0) Q) : mWp mCd 190 (61, [some (.ref 14), some (.int x1), some (.int x2), some (.int x3), none, some (.int x5)], [.long w0, .long w1], h, 0, 0) Q := by
  refine mWp_run 1 (t' := (62, [some (.ref 14), some (.int x1), some (.int x2), some (.int x3), none, some (.int x5)], [.int (lg_cmp w1 w0)], h, 0, 0)) rfl ?_
  exact mWp_if (P := fun x => ¬ x = 0) (a := lg_cmp w1 w0) rfl k1 k2
theorem b191_0 {h : mH} {Q : Option Value → mH → Prop} {x1 : Int32}  (k : mWp mCd 191 (4, [some (.ref 14), some (.int x1), some (.int (iZ 0)), some (.int (iZ 0))], [], h, 0, 0) Q) : mWp mCd 191 (0, [some (.ref 14), some (.int x1), none, none], [], h, 0, 0) Q := by
  refine mWp_run 4 (t' := (4, [some (.ref 14), some (.int x1), some (.int (iZ 0)), some (.int (iZ 0))], [], h, 0, 0)) rfl ?_
  exact k
theorem b191_4 {h : mH} {Q : Option Value → mH → Prop} {x1 : Int32} {x2 : Int32} {x3 : Int32} {v : Int32} {cor : Int32} {bA : Int64} {bB : Int64} {rw : Int32} {bo : Int32} {g101 : Nat → Int32} (e1 : h[14]? = some (oM v cor bA bB rw bo)) (e2 : h[16]? = some (aI 11 g101)) (e3 : ¬ (x1 < 0 ∨ 11 ≤ x1.toNatClampNeg)) (k1 : (g101 x1.toNatClampNeg) ≤ x3 → mWp mCd 191 (50, [none, none, some (.int x2), none], [], h, 0, 0) Q) (k2 : ¬ ((g101 x1.toNatClampNeg) ≤ x3) → mWp mCd 191 (14, [some (.ref 14), some (.int x1), some (.int x2), some (.int x3)], [], h, 0, 0) Q) : mWp mCd 191 (4, [some (.ref 14), some (.int x1), some (.int x2), some (.int x3)], [], h, 0, 0) Q := by
  refine mWp_run 2 (t' := (6, [some (.ref 14), some (.int x1), some (.int x2), some (.int x3)], [.ref 14, .int x3], h, 0, 0)) rfl ?_
  refine mWp_gf rfl e1 rfl rfl ?_
  refine mWp_run 1 (t' := (10, [some (.ref 14), some (.int x1), some (.int x2), some (.int x3)], [.int x1, .ref 16, .int x3], h, 0, 0)) rfl ?_
  refine mWp_ial rfl e2 e3 ?_
  exact mWp_ic (P := fun x y => y ≤ x) (a := x3) (b := g101 x1.toNatClampNeg) rfl (fun q => mWp_weak (mLe_n (mLe_n (mLe_s (mLe_n mLe_0)))) (k1 q)) k2
theorem b191_50 {h : mH} {Q : Option Value → mH → Prop} {x2 : Int32}  (k : Q (some (.int x2)) h) : mWp mCd 191 (50, [none, none, some (.int x2), none], [], h, 0, 0) Q := by
  refine mWp_run 1 (t' := (51, [none, none, some (.int x2), none], [.int x2], h, 0, 0)) rfl ?_
  exact mWp_r (v := (some (.int x2))) rfl k
theorem b191_14 {h : mH} {Q : Option Value → mH → Prop} {x1 : Int32} {x2 : Int32} {x3 : Int32} {v : Int32} {cor : Int32} {bA : Int64} {bB : Int64} {rw : Int32} {bo : Int32} (e1 : h[14]? = some (oM v cor bA bB rw bo)) (k : mCt mCd 139 [.ref 14, .int x1] h (fun rv hv => mWp mCd 191 (23, [some (.ref 14), some (.int x1), none, some (.int x3)], rv.toList ++ [.int x3, .int x1, .ref 14, .int x2], hv, 0, 0) Q)) : mWp mCd 191 (14, [some (.ref 14), some (.int x1), some (.int x2), some (.int x3)], [], h, 0, 0) Q := by
  refine mWp_run 6 (t' := (20, [some (.ref 14), some (.int x1), some (.int x2), some (.int x3)], [.int x1, .ref 14, .int x3, .int x1, .ref 14, .int x2], h, 0, 0)) rfl ?_
  exact mWp_iv rfl rfl e1 rfl rfl rfl rfl (mCt_mono k (fun rv hv y => mWp_weak (mLe_s (mLe_s (mLe_n (mLe_s mLe_0)))) y))
theorem b191_23 {h : mH} {Q : Option Value → mH → Prop} {x1 : Int32} {x3 : Int32} {u0 : Int32} {u1 : Int32} {u2 : Int32} {u4 : Int32} {v : Int32} {cor : Int32} {bA : Int64} {bB : Int64} {rw : Int32} {bo : Int32} (e1 : h[14]? = some (oM v cor bA bB rw bo)) (k : mCt mCd 162 [.ref 14, .int u2, .int u1, .int (u0 &&& (((iZ 1) <<< (x3 &&& 31)) ^^^ (iZ (-1))))] h (fun rv hv => mWp mCd 191 (32, [some (.ref 14), some (.int x1), none, some (.int x3)], rv.toList ++ [.int u4], hv, 0, 0) Q)) : mWp mCd 191 (23, [some (.ref 14), some (.int x1), none, some (.int x3)], [.int u0, .int u1, .int u2, .ref 14, .int u4], h, 0, 0) Q := by
  refine mWp_run 6 (t' := (29, [some (.ref 14), some (.int x1), none, some (.int x3)], [.int (u0 &&& (((iZ 1) <<< (x3 &&& 31)) ^^^ (iZ (-1)))), .int u1, .int u2, .ref 14, .int u4], h, 0, 0)) rfl ?_
  exact mWp_iv rfl rfl e1 rfl rfl rfl rfl k
theorem b191_32 {h : mH} {Q : Option Value → mH → Prop} {x1 : Int32} {x3 : Int32} {w0 : Int64} {u1 : Int32}  (k1 : 0 ≤ (lg_cmp w0 (lZ 0)) → mWp mCd 191 (41, [some (.ref 14), some (.int x1), none, some (.int x3)], [.int u1], h, 0, 0) Q) (k2 : ¬ (0 ≤ (lg_cmp w0 (lZ 0))) → mWp mCd 191 (37, [some (.ref 14), some (.int x1), none, some (.int x3)], [.int u1], h, 0, 0) Q) : mWp mCd 191 (32, [some (.ref 14), some (.int x1), none, some (.int x3)], [.long w0, .int u1], h, 0, 0) Q := by
  refine mWp_run 2 (t' := (34, [some (.ref 14), some (.int x1), none, some (.int x3)], [.int (lg_cmp w0 (lZ 0)), .int u1], h, 0, 0)) rfl ?_
  exact mWp_if (P := fun x => 0 ≤ x) (a := lg_cmp w0 (lZ 0)) rfl k1 k2
theorem b191_41 {h : mH} {Q : Option Value → mH → Prop} {x1 : Int32} {x3 : Int32} {u0 : Int32}  (k : mWp mCd 191 (42, [some (.ref 14), some (.int x1), none, some (.int x3)], [.int (iZ 0), .int u0], h, 0, 0) Q) : mWp mCd 191 (41, [some (.ref 14), some (.int x1), none, some (.int x3)], [.int u0], h, 0, 0) Q := by
  refine mWp_run 1 (t' := (42, [some (.ref 14), some (.int x1), none, some (.int x3)], [.int (iZ 0), .int u0], h, 0, 0)) rfl ?_
  exact k
theorem b191_37 {h : mH} {Q : Option Value → mH → Prop} {x1 : Int32} {x3 : Int32} {u0 : Int32}  (k : mWp mCd 191 (42, [some (.ref 14), some (.int x1), none, some (.int x3)], [.int (iZ 1), .int u0], h, 0, 0) Q) : mWp mCd 191 (37, [some (.ref 14), some (.int x1), none, some (.int x3)], [.int u0], h, 0, 0) Q := by
  refine mWp_run 2 (t' := (42, [some (.ref 14), some (.int x1), none, some (.int x3)], [.int (iZ 1), .int u0], h, 0, 0)) rfl ?_
  exact k
theorem b191_42 {h : mH} {Q : Option Value → mH → Prop} {x1 : Int32} {x3 : Int32} {u0 : Int32} {u1 : Int32}  (k : mWp mCd 191 (4, [some (.ref 14), some (.int x1), some (.int (u1 + u0)), some (.int (x3 + iZ 1))], [], h, 0, 0) Q) : mWp mCd 191 (42, [some (.ref 14), some (.int x1), none, some (.int x3)], [.int u0, .int u1], h, 0, 0) Q := by
  refine mWp_run 4 (t' := (4, [some (.ref 14), some (.int x1), some (.int (u1 + u0)), some (.int (x3 + iZ 1))], [], h, 0, 0)) rfl ?_
  exact k
theorem b192_0 {h : mH} {Q : Option Value → mH → Prop} {x1 : Int32} {x2 : Int32} {v : Int32} {cor : Int32} {bA : Int64} {bB : Int64} {rw : Int32} {bo : Int32} (e1 : h[14]? = some (oM v cor bA bB rw bo)) (k : mCt mCd 138 [.ref 14, .int x1] h (fun rv hv => mWp mCd 192 (5, [some (.ref 14), some (.int x1), some (.int x2)], rv.toList ++ [], hv, 0, 0) Q)) : mWp mCd 192 (0, [some (.ref 14), some (.int x1), some (.int x2)], [], h, 0, 0) Q := by
  refine mWp_run 2 (t' := (2, [some (.ref 14), some (.int x1), some (.int x2)], [.int x1, .ref 14], h, 0, 0)) rfl ?_
  exact mWp_iv rfl rfl e1 rfl rfl rfl rfl k
theorem b192_5 {h : mH} {Q : Option Value → mH → Prop} {x1 : Int32} {x2 : Int32} {u0 : Int32}  (k1 : u0 = 0 → mWp mCd 192 (19, [none, none, none], [], h, 0, 0) Q) (k2 : ¬ (u0 = 0) → mWp mCd 192 (8, [some (.ref 14), some (.int x1), some (.int x2)], [], h, 0, 0) Q) : mWp mCd 192 (5, [some (.ref 14), some (.int x1), some (.int x2)], [.int u0], h, 0, 0) Q := by
  exact mWp_if (P := fun x => x = 0) (a := u0) rfl (fun q => mWp_weak (mLe_n (mLe_n (mLe_n mLe_0))) (k1 q)) k2
theorem b192_19 {h : mH} {Q : Option Value → mH → Prop}   (k : Q (some (.int (iZ (-2)))) h) : mWp mCd 192 (19, [none, none, none], [], h, 0, 0) Q := by
  refine mWp_run 1 (t' := (21, [none, none, none], [.int (iZ (-2))], h, 0, 0)) rfl ?_
  exact mWp_r (v := (some (.int (iZ (-2))))) rfl k
theorem b192_8 {h : mH} {Q : Option Value → mH → Prop} {x1 : Int32} {x2 : Int32} {v : Int32} {cor : Int32} {bA : Int64} {bB : Int64} {rw : Int32} {bo : Int32} (e1 : h[14]? = some (oM v cor bA bB rw bo)) (k : mCt mCd 137 [.ref 14, .int x2, .int (iZ 0), .int (iZ 6)] h (fun rv hv => mWp mCd 192 (16, [some (.ref 14), some (.int x1), some (.int x2)], rv.toList ++ [], hv, 0, 0) Q)) : mWp mCd 192 (8, [some (.ref 14), some (.int x1), some (.int x2)], [], h, 0, 0) Q := by
  refine mWp_run 4 (t' := (13, [some (.ref 14), some (.int x1), some (.int x2)], [.int (iZ 6), .int (iZ 0), .int x2, .ref 14], h, 0, 0)) rfl ?_
  exact mWp_iv rfl rfl e1 rfl rfl rfl rfl k
theorem b192_16 {h : mH} {Q : Option Value → mH → Prop} {x1 : Int32} {x2 : Int32} {u0 : Int32}  (k1 : ¬ u0 = 0 → mWp mCd 192 (22, [some (.ref 14), some (.int x1), some (.int x2)], [], h, 0, 0) Q) (k2 : ¬ (¬ u0 = 0) → mWp mCd 192 (19, [none, none, none], [], h, 0, 0) Q) : mWp mCd 192 (16, [some (.ref 14), some (.int x1), some (.int x2)], [.int u0], h, 0, 0) Q := by
  exact mWp_if (P := fun x => ¬ x = 0) (a := u0) rfl k1 (fun q => mWp_weak (mLe_n (mLe_n (mLe_n mLe_0))) (k2 q))
theorem b192_22 {h : mH} {Q : Option Value → mH → Prop} {x1 : Int32} {x2 : Int32}  (k1 : (x2.toInt < 0 ∨ 6 < x2.toInt) → mWp mCd 192 (105, [some (.ref 14), some (.int x1), some (.int x2)], [], h, 0, 0) Q) (k2 : ¬ (x2.toInt < 0 ∨ 6 < x2.toInt) → ∃ t, ([64, 71, 105, 105, 78, 93, 99] : List Nat)[(x2.toInt - 0).toNat]? = some t ∧ mWp mCd 192 (t, [some (.ref 14), some (.int x1), some (.int x2)], [], h, 0, 0) Q) : mWp mCd 192 (22, [some (.ref 14), some (.int x1), some (.int x2)], [], h, 0, 0) Q := by
  refine mWp_run 1 (t' := (23, [some (.ref 14), some (.int x1), some (.int x2)], [.int x2], h, 0, 0)) rfl ?_
  exact mWp_ts rfl k1 k2
theorem b192_105 {h : mH} {Q : Option Value → mH → Prop} {x1 : Int32} {x2 : Int32} {v : Int32} {cor : Int32} {bA : Int64} {bB : Int64} {rw : Int32} {bo : Int32} (e1 : h[14]? = some (oM v cor bA bB rw bo)) (k : mCt mCd 182 [.ref 14, .int x1] h (fun rv hv => mWp mCd 192 (110, [some (.ref 14), none, some (.int x2)], rv.toList ++ [], hv, 0, 0) Q)) : mWp mCd 192 (105, [some (.ref 14), some (.int x1), some (.int x2)], [], h, 0, 0) Q := by
  refine mWp_run 2 (t' := (107, [some (.ref 14), some (.int x1), some (.int x2)], [.int x1, .ref 14], h, 0, 0)) rfl ?_
  exact mWp_iv rfl rfl e1 rfl rfl rfl rfl (mCt_mono k (fun rv hv y => mWp_weak (mLe_s (mLe_n (mLe_s mLe_0))) y))
theorem b192_64 {h : mH} {Q : Option Value → mH → Prop} {x1 : Int32} {x2 : Int32} {v : Int32} {cor : Int32} {bA : Int64} {bB : Int64} {rw : Int32} {bo : Int32} {g101 : Nat → Int32} (e1 : h[14]? = some (oM v cor bA bB rw bo)) (e2 : h[15]? = some (aI 11 g101)) (e3 : ¬ (x1 < 0 ∨ 11 ≤ x1.toNatClampNeg)) (k : Q (some (.int (g101 x1.toNatClampNeg))) h) : mWp mCd 192 (64, [some (.ref 14), some (.int x1), some (.int x2)], [], h, 0, 0) Q := by
  refine mWp_run 1 (t' := (65, [some (.ref 14), some (.int x1), some (.int x2)], [.ref 14], h, 0, 0)) rfl ?_
  refine mWp_gf rfl e1 rfl rfl ?_
  refine mWp_run 1 (t' := (69, [some (.ref 14), some (.int x1), some (.int x2)], [.int x1, .ref 15], h, 0, 0)) rfl ?_
  refine mWp_ial rfl e2 e3 ?_
  exact mWp_r (v := (some (.int (g101 x1.toNatClampNeg)))) rfl k
theorem b192_71 {h : mH} {Q : Option Value → mH → Prop} {x1 : Int32} {x2 : Int32} {v : Int32} {cor : Int32} {bA : Int64} {bB : Int64} {rw : Int32} {bo : Int32} {g101 : Nat → Int32} (e1 : h[14]? = some (oM v cor bA bB rw bo)) (e2 : h[16]? = some (aI 11 g101)) (e3 : ¬ (x1 < 0 ∨ 11 ≤ x1.toNatClampNeg)) (k : Q (some (.int (g101 x1.toNatClampNeg))) h) : mWp mCd 192 (71, [some (.ref 14), some (.int x1), some (.int x2)], [], h, 0, 0) Q := by
  refine mWp_run 1 (t' := (72, [some (.ref 14), some (.int x1), some (.int x2)], [.ref 14], h, 0, 0)) rfl ?_
  refine mWp_gf rfl e1 rfl rfl ?_
  refine mWp_run 1 (t' := (76, [some (.ref 14), some (.int x1), some (.int x2)], [.int x1, .ref 16], h, 0, 0)) rfl ?_
  refine mWp_ial rfl e2 e3 ?_
  exact mWp_r (v := (some (.int (g101 x1.toNatClampNeg)))) rfl k
theorem b192_78 {h : mH} {Q : Option Value → mH → Prop} {x1 : Int32} {x2 : Int32} {v : Int32} {cor : Int32} {bA : Int64} {bB : Int64} {rw : Int32} {bo : Int32} (e1 : h[14]? = some (oM v cor bA bB rw bo)) (k : mCt mCd 189 [.ref 14, .int x1] h (fun rv hv => mWp mCd 192 (83, [none, none, none], rv.toList ++ [], hv, 0, 0) Q)) : mWp mCd 192 (78, [some (.ref 14), some (.int x1), some (.int x2)], [], h, 0, 0) Q := by
  refine mWp_run 2 (t' := (80, [some (.ref 14), some (.int x1), some (.int x2)], [.int x1, .ref 14], h, 0, 0)) rfl ?_
  exact mWp_iv rfl rfl e1 rfl rfl rfl rfl (mCt_mono k (fun rv hv y => mWp_weak (mLe_n (mLe_n (mLe_n mLe_0))) y))
theorem b192_93 {h : mH} {Q : Option Value → mH → Prop} {x1 : Int32} {x2 : Int32} {v : Int32} {cor : Int32} {bA : Int64} {bB : Int64} {rw : Int32} {bo : Int32} (e1 : h[14]? = some (oM v cor bA bB rw bo)) (k : mCt mCd 190 [.ref 14, .int x1] h (fun rv hv => mWp mCd 192 (98, [none, none, none], rv.toList ++ [], hv, 0, 0) Q)) : mWp mCd 192 (93, [some (.ref 14), some (.int x1), some (.int x2)], [], h, 0, 0) Q := by
  refine mWp_run 2 (t' := (95, [some (.ref 14), some (.int x1), some (.int x2)], [.int x1, .ref 14], h, 0, 0)) rfl ?_
  exact mWp_iv rfl rfl e1 rfl rfl rfl rfl (mCt_mono k (fun rv hv y => mWp_weak (mLe_n (mLe_n (mLe_n mLe_0))) y))
theorem b192_99 {h : mH} {Q : Option Value → mH → Prop} {x1 : Int32} {x2 : Int32} {v : Int32} {cor : Int32} {bA : Int64} {bB : Int64} {rw : Int32} {bo : Int32} (e1 : h[14]? = some (oM v cor bA bB rw bo)) (k : mCt mCd 191 [.ref 14, .int x1] h (fun rv hv => mWp mCd 192 (104, [none, none, none], rv.toList ++ [], hv, 0, 0) Q)) : mWp mCd 192 (99, [some (.ref 14), some (.int x1), some (.int x2)], [], h, 0, 0) Q := by
  refine mWp_run 2 (t' := (101, [some (.ref 14), some (.int x1), some (.int x2)], [.int x1, .ref 14], h, 0, 0)) rfl ?_
  exact mWp_iv rfl rfl e1 rfl rfl rfl rfl (mCt_mono k (fun rv hv y => mWp_weak (mLe_n (mLe_n (mLe_n mLe_0))) y))
theorem b192_110 {h : mH} {Q : Option Value → mH → Prop} {x2 : Int32}  (k1 : ¬ x2 = (iZ 3) → mWp mCd 192 (122, [some (.ref 14), none, none], [], h, 0, 0) Q) (k2 : ¬ (¬ x2 = (iZ 3)) → mWp mCd 192 (115, [some (.ref 14), none, none], [], h, 0, 0) Q) : mWp mCd 192 (110, [some (.ref 14), none, some (.int x2)], [], h, 0, 0) Q := by
  refine mWp_run 2 (t' := (112, [some (.ref 14), none, some (.int x2)], [.int (iZ 3), .int x2], h, 0, 0)) rfl ?_
  exact mWp_ic (P := fun x y => ¬ x = y) (a := x2) (b := iZ 3) rfl (fun q => mWp_weak (mLe_s (mLe_n (mLe_n mLe_0))) (k1 q)) (fun q => mWp_weak (mLe_s (mLe_n (mLe_n mLe_0))) (k2 q))
theorem b192_83 {h : mH} {Q : Option Value → mH → Prop} {u0 : Int32}  (k1 : ¬ u0 = (iZ (-1)) → mWp mCd 192 (91, [none, none, none], [], h, 0, 0) Q) (k2 : ¬ (¬ u0 = (iZ (-1))) → mWp mCd 192 (87, [none, none, none], [], h, 0, 0) Q) : mWp mCd 192 (83, [none, none, none], [.int u0], h, 0, 0) Q := by
  refine mWp_run 1 (t' := (84, [none, none, none], [.int (iZ (-1)), .int u0], h, 0, 0)) rfl ?_
  exact mWp_ic (P := fun x y => ¬ x = y) (a := u0) (b := iZ (-1)) rfl k1 k2
theorem b192_98 {h : mH} {Q : Option Value → mH → Prop} {u0 : Int32}  (k : Q (some (.int u0)) h) : mWp mCd 192 (98, [none, none, none], [.int u0], h, 0, 0) Q := by
  exact mWp_r (v := (some (.int u0))) rfl k
theorem b192_104 {h : mH} {Q : Option Value → mH → Prop} {u0 : Int32}  (k : Q (some (.int u0)) h) : mWp mCd 192 (104, [none, none, none], [.int u0], h, 0, 0) Q := by
  exact mWp_r (v := (some (.int u0))) rfl k
theorem b192_122 {h : mH} {Q : Option Value → mH → Prop} {v : Int32} {cor : Int32} {bA : Int64} {bB : Int64} {rw : Int32} {bo : Int32} (e1 : h[14]? = some (oM v cor bA bB rw bo)) (k1 : cor ≤ 0 → mWp mCd 192 (133, [none, none, none], [], h, 0, 0) Q) (k2 : ¬ (cor ≤ 0) → mWp mCd 192 (129, [none, none, none], [], h, 0, 0) Q) : mWp mCd 192 (122, [some (.ref 14), none, none], [], h, 0, 0) Q := by
  refine mWp_run 1 (t' := (123, [some (.ref 14), none, none], [.ref 14], h, 0, 0)) rfl ?_
  refine mWp_gf rfl e1 rfl rfl ?_
  exact mWp_if (P := fun x => x ≤ 0) (a := cor) rfl (fun q => mWp_weak (mLe_n (mLe_n (mLe_n mLe_0))) (k1 q)) (fun q => mWp_weak (mLe_n (mLe_n (mLe_n mLe_0))) (k2 q))
theorem b192_115 {h : mH} {Q : Option Value → mH → Prop} {v : Int32} {cor : Int32} {bA : Int64} {bB : Int64} {rw : Int32} {bo : Int32} (e1 : h[14]? = some (oM v cor bA bB rw bo)) (k : Q (some (.int cor)) h) : mWp mCd 192 (115, [some (.ref 14), none, none], [], h, 0, 0) Q := by
  refine mWp_run 1 (t' := (116, [some (.ref 14), none, none], [.ref 14], h, 0, 0)) rfl ?_
  refine mWp_gf rfl e1 rfl rfl ?_
  refine mWp_run 1 (t' := (134, [some (.ref 14), none, none], [.int cor], h, 0, 0)) rfl ?_
  exact mWp_r (v := (some (.int cor))) rfl k
theorem b192_91 {h : mH} {Q : Option Value → mH → Prop}   (k : Q (some (.int (iZ 0))) h) : mWp mCd 192 (91, [none, none, none], [], h, 0, 0) Q := by
  refine mWp_run 1 (t' := (92, [none, none, none], [.int (iZ 0)], h, 0, 0)) rfl ?_
  exact mWp_r (v := (some (.int (iZ 0)))) rfl k
theorem b192_87 {h : mH} {Q : Option Value → mH → Prop}   (k : Q (some (.int (iZ 1))) h) : mWp mCd 192 (87, [none, none, none], [], h, 0, 0) Q := by
  refine mWp_run 2 (t' := (92, [none, none, none], [.int (iZ 1)], h, 0, 0)) rfl ?_
  exact mWp_r (v := (some (.int (iZ 1)))) rfl k
theorem b192_133 {h : mH} {Q : Option Value → mH → Prop}   (k : Q (some (.int (iZ 0))) h) : mWp mCd 192 (133, [none, none, none], [], h, 0, 0) Q := by
  refine mWp_run 1 (t' := (134, [none, none, none], [.int (iZ 0)], h, 0, 0)) rfl ?_
  exact mWp_r (v := (some (.int (iZ 0)))) rfl k
theorem b192_129 {h : mH} {Q : Option Value → mH → Prop}   (k : Q (some (.int (iZ 1))) h) : mWp mCd 192 (129, [none, none, none], [], h, 0, 0) Q := by
  refine mWp_run 2 (t' := (134, [none, none, none], [.int (iZ 1)], h, 0, 0)) rfl ?_
  exact mWp_r (v := (some (.int (iZ 1)))) rfl k
theorem b193_0 {h : mH} {Q : Option Value → mH → Prop} {x1 : Int32} {x2 : Int32} {x3 : Int32} {v : Int32} {cor : Int32} {bA : Int64} {bB : Int64} {rw : Int32} {bo : Int32} (e1 : h[14]? = some (oM v cor bA bB rw bo)) (k : mCt mCd 138 [.ref 14, .int x1] h (fun rv hv => mWp mCd 193 (5, [some (.ref 14), some (.int x1), some (.int x2), some (.int x3), none, none], rv.toList ++ [], hv, 0, 0) Q)) : mWp mCd 193 (0, [some (.ref 14), some (.int x1), some (.int x2), some (.int x3), none, none], [], h, 0, 0) Q := by
  refine mWp_run 2 (t' := (2, [some (.ref 14), some (.int x1), some (.int x2), some (.int x3), none, none], [.int x1, .ref 14], h, 0, 0)) rfl ?_
  exact mWp_iv rfl rfl e1 rfl rfl rfl rfl k
theorem b193_5 {h : mH} {Q : Option Value → mH → Prop} {x1 : Int32} {x2 : Int32} {x3 : Int32} {u0 : Int32}  (k1 : u0 = 0 → mWp mCd 193 (31, [none, none, none, none, none, none], [], h, 0, 0) Q) (k2 : ¬ (u0 = 0) → mWp mCd 193 (8, [some (.ref 14), some (.int x1), some (.int x2), some (.int x3), none, none], [], h, 0, 0) Q) : mWp mCd 193 (5, [some (.ref 14), some (.int x1), some (.int x2), some (.int x3), none, none], [.int u0], h, 0, 0) Q := by
  exact mWp_if (P := fun x => x = 0) (a := u0) rfl (fun q => mWp_weak (mLe_n (mLe_n (mLe_n (mLe_n (mLe_n (mLe_n mLe_0)))))) (k1 q)) k2
theorem b193_31 {h : mH} {Q : Option Value → mH → Prop}   (k : Q (some (.int (iZ (-2)))) h) : mWp mCd 193 (31, [none, none, none, none, none, none], [], h, 0, 0) Q := by
  refine mWp_run 1 (t' := (33, [none, none, none, none, none, none], [.int (iZ (-2))], h, 0, 0)) rfl ?_
  exact mWp_r (v := (some (.int (iZ (-2))))) rfl k
theorem b193_8 {h : mH} {Q : Option Value → mH → Prop} {x1 : Int32} {x2 : Int32} {x3 : Int32} {v : Int32} {cor : Int32} {bA : Int64} {bB : Int64} {rw : Int32} {bo : Int32} (e1 : h[14]? = some (oM v cor bA bB rw bo)) (k : mCt mCd 143 [.ref 14, .int x1, .int x2] h (fun rv hv => mWp mCd 193 (14, [some (.ref 14), some (.int x1), some (.int x2), some (.int x3), none, none], rv.toList ++ [], hv, 0, 0) Q)) : mWp mCd 193 (8, [some (.ref 14), some (.int x1), some (.int x2), some (.int x3), none, none], [], h, 0, 0) Q := by
  refine mWp_run 3 (t' := (11, [some (.ref 14), some (.int x1), some (.int x2), some (.int x3), none, none], [.int x2, .int x1, .ref 14], h, 0, 0)) rfl ?_
  exact mWp_iv rfl rfl e1 rfl rfl rfl rfl k
theorem b193_14 {h : mH} {Q : Option Value → mH → Prop} {x1 : Int32} {x2 : Int32} {x3 : Int32} {u0 : Int32}  (k1 : u0 = 0 → mWp mCd 193 (31, [none, none, none, none, none, none], [], h, 0, 0) Q) (k2 : ¬ (u0 = 0) → mWp mCd 193 (17, [some (.ref 14), some (.int x1), some (.int x2), some (.int x3), none, none], [], h, 0, 0) Q) : mWp mCd 193 (14, [some (.ref 14), some (.int x1), some (.int x2), some (.int x3), none, none], [.int u0], h, 0, 0) Q := by
  exact mWp_if (P := fun x => x = 0) (a := u0) rfl (fun q => mWp_weak (mLe_n (mLe_n (mLe_n (mLe_n (mLe_n (mLe_n mLe_0)))))) (k1 q)) k2
theorem b193_17 {h : mH} {Q : Option Value → mH → Prop} {x1 : Int32} {x2 : Int32} {x3 : Int32} {v : Int32} {cor : Int32} {bA : Int64} {bB : Int64} {rw : Int32} {bo : Int32} (e1 : h[14]? = some (oM v cor bA bB rw bo)) (k : mCt mCd 143 [.ref 14, .int x1, .int x3] h (fun rv hv => mWp mCd 193 (23, [some (.ref 14), some (.int x1), some (.int x2), some (.int x3), none, none], rv.toList ++ [], hv, 0, 0) Q)) : mWp mCd 193 (17, [some (.ref 14), some (.int x1), some (.int x2), some (.int x3), none, none], [], h, 0, 0) Q := by
  refine mWp_run 3 (t' := (20, [some (.ref 14), some (.int x1), some (.int x2), some (.int x3), none, none], [.int x3, .int x1, .ref 14], h, 0, 0)) rfl ?_
  exact mWp_iv rfl rfl e1 rfl rfl rfl rfl k
theorem b193_23 {h : mH} {Q : Option Value → mH → Prop} {x1 : Int32} {x2 : Int32} {x3 : Int32} {u0 : Int32}  (k1 : u0 = 0 → mWp mCd 193 (31, [none, none, none, none, none, none], [], h, 0, 0) Q) (k2 : ¬ (u0 = 0) → mWp mCd 193 (26, [some (.ref 14), some (.int x1), some (.int x2), some (.int x3), none, none], [], h, 0, 0) Q) : mWp mCd 193 (23, [some (.ref 14), some (.int x1), some (.int x2), some (.int x3), none, none], [.int u0], h, 0, 0) Q := by
  exact mWp_if (P := fun x => x = 0) (a := u0) rfl (fun q => mWp_weak (mLe_n (mLe_n (mLe_n (mLe_n (mLe_n (mLe_n mLe_0)))))) (k1 q)) k2
theorem b193_26 {h : mH} {Q : Option Value → mH → Prop} {x1 : Int32} {x2 : Int32} {x3 : Int32}  (k1 : ¬ x2 = x3 → mWp mCd 193 (34, [some (.ref 14), some (.int x1), some (.int x2), some (.int x3), none, none], [], h, 0, 0) Q) (k2 : ¬ (¬ x2 = x3) → mWp mCd 193 (31, [none, none, none, none, none, none], [], h, 0, 0) Q) : mWp mCd 193 (26, [some (.ref 14), some (.int x1), some (.int x2), some (.int x3), none, none], [], h, 0, 0) Q := by
  refine mWp_run 2 (t' := (28, [some (.ref 14), some (.int x1), some (.int x2), some (.int x3), none, none], [.int x3, .int x2], h, 0, 0)) rfl ?_
  exact mWp_ic (P := fun x y => ¬ x = y) (a := x2) (b := x3) rfl k1 (fun q => mWp_weak (mLe_n (mLe_n (mLe_n (mLe_n (mLe_n (mLe_n mLe_0)))))) (k2 q))
theorem b193_34 {h : mH} {Q : Option Value → mH → Prop} {x1 : Int32} {x2 : Int32} {x3 : Int32}  (k : mWp mCd 193 (40, [some (.ref 14), some (.int x1), some (.int x2), some (.int x3), some (.int (iZ 1)), some (.int (iZ 0))], [], h, 0, 0) Q) : mWp mCd 193 (34, [some (.ref 14), some (.int x1), some (.int x2), some (.int x3), none, none], [], h, 0, 0) Q := by
  refine mWp_run 4 (t' := (40, [some (.ref 14), some (.int x1), some (.int x2), some (.int x3), some (.int (iZ 1)), some (.int (iZ 0))], [], h, 0, 0)) rfl ?_
  exact k
theorem b193_40 {h : mH} {Q : Option Value → mH → Prop} {x1 : Int32} {x2 : Int32} {x3 : Int32} {x4 : Int32} {x5 : Int32} {v : Int32} {cor : Int32} {bA : Int64} {bB : Int64} {rw : Int32} {bo : Int32} (e1 : h[14]? = some (oM v cor bA bB rw bo)) (k : mCt mCd 139 [.ref 14, .int x1] h (fun rv hv => mWp mCd 193 (47, [some (.ref 14), some (.int x1), some (.int x2), some (.int x3), some (.int x4), some (.int x5)], rv.toList ++ [.int x5], hv, 0, 0) Q)) : mWp mCd 193 (40, [some (.ref 14), some (.int x1), some (.int x2), some (.int x3), some (.int x4), some (.int x5)], [], h, 0, 0) Q := by
  refine mWp_run 3 (t' := (44, [some (.ref 14), some (.int x1), some (.int x2), some (.int x3), some (.int x4), some (.int x5)], [.int x1, .ref 14, .int x5], h, 0, 0)) rfl ?_
  exact mWp_iv rfl rfl e1 rfl rfl rfl rfl k
theorem b193_47 {h : mH} {Q : Option Value → mH → Prop} {x1 : Int32} {x2 : Int32} {x3 : Int32} {x4 : Int32} {x5 : Int32} {u0 : Int32} {u1 : Int32}  (k1 : u0 < u1 → mWp mCd 193 (108, [none, none, none, none, some (.int x4), none], [], h, 0, 0) Q) (k2 : ¬ (u0 < u1) → mWp mCd 193 (50, [some (.ref 14), some (.int x1), some (.int x2), some (.int x3), some (.int x4), some (.int x5)], [], h, 0, 0) Q) : mWp mCd 193 (47, [some (.ref 14), some (.int x1), some (.int x2), some (.int x3), some (.int x4), some (.int x5)], [.int u0, .int u1], h, 0, 0) Q := by
  exact mWp_ic (P := fun x y => y < x) (a := u1) (b := u0) rfl (fun q => mWp_weak (mLe_n (mLe_n (mLe_n (mLe_n (mLe_s (mLe_n mLe_0)))))) (k1 q)) k2
theorem b193_108 {h : mH} {Q : Option Value → mH → Prop} {x4 : Int32}  (k1 : x4 = 0 → mWp mCd 193 (117, [none, none, none, none, none, none], [], h, 0, 0) Q) (k2 : ¬ (x4 = 0) → mWp mCd 193 (113, [none, none, none, none, none, none], [], h, 0, 0) Q) : mWp mCd 193 (108, [none, none, none, none, some (.int x4), none], [], h, 0, 0) Q := by
  refine mWp_run 1 (t' := (110, [none, none, none, none, some (.int x4), none], [.int x4], h, 0, 0)) rfl ?_
  exact mWp_if (P := fun x => x = 0) (a := x4) rfl (fun q => mWp_weak (mLe_n (mLe_n (mLe_n (mLe_n (mLe_n (mLe_n mLe_0)))))) (k1 q)) (fun q => mWp_weak (mLe_n (mLe_n (mLe_n (mLe_n (mLe_n (mLe_n mLe_0)))))) (k2 q))
theorem b193_50 {h : mH} {Q : Option Value → mH → Prop} {x1 : Int32} {x2 : Int32} {x3 : Int32} {x4 : Int32} {x5 : Int32}  (k1 : x4 = 0 → mWp mCd 193 (99, [some (.ref 14), some (.int x1), some (.int x2), some (.int x3), none, some (.int x5)], [], h, 0, 0) Q) (k2 : ¬ (x4 = 0) → mWp mCd 193 (55, [some (.ref 14), some (.int x1), some (.int x2), some (.int x3), none, some (.int x5)], [], h, 0, 0) Q) : mWp mCd 193 (50, [some (.ref 14), some (.int x1), some (.int x2), some (.int x3), some (.int x4), some (.int x5)], [], h, 0, 0) Q := by
  refine mWp_run 1 (t' := (52, [some (.ref 14), some (.int x1), some (.int x2), some (.int x3), some (.int x4), some (.int x5)], [.int x4], h, 0, 0)) rfl ?_
  exact mWp_if (P := fun x => x = 0) (a := x4) rfl (fun q => mWp_weak (mLe_s (mLe_s (mLe_s (mLe_s (mLe_n (mLe_s mLe_0)))))) (k1 q)) (fun q => mWp_weak (mLe_s (mLe_s (mLe_s (mLe_s (mLe_n (mLe_s mLe_0)))))) (k2 q))
theorem b193_117 {h : mH} {Q : Option Value → mH → Prop}   (k : Q (some (.int (iZ 0))) h) : mWp mCd 193 (117, [none, none, none, none, none, none], [], h, 0, 0) Q := by
  refine mWp_run 1 (t' := (118, [none, none, none, none, none, none], [.int (iZ 0)], h, 0, 0)) rfl ?_
  exact mWp_r (v := (some (.int (iZ 0)))) rfl k
theorem b193_113 {h : mH} {Q : Option Value → mH → Prop}   (k : Q (some (.int (iZ 1))) h) : mWp mCd 193 (113, [none, none, none, none, none, none], [], h, 0, 0) Q := by
  refine mWp_run 2 (t' := (118, [none, none, none, none, none, none], [.int (iZ 1)], h, 0, 0)) rfl ?_
  exact mWp_r (v := (some (.int (iZ 1)))) rfl k
theorem b193_99 {h : mH} {Q : Option Value → mH → Prop} {x1 : Int32} {x2 : Int32} {x3 : Int32} {x5 : Int32}  (k : mWp mCd 193 (100, [some (.ref 14), some (.int x1), some (.int x2), some (.int x3), none, some (.int x5)], [.int (iZ 0)], h, 0, 0) Q) : mWp mCd 193 (99, [some (.ref 14), some (.int x1), some (.int x2), some (.int x3), none, some (.int x5)], [], h, 0, 0) Q := by
  refine mWp_run 1 (t' := (100, [some (.ref 14), some (.int x1), some (.int x2), some (.int x3), none, some (.int x5)], [.int (iZ 0)], h, 0, 0)) rfl ?_
  exact k
theorem b193_55 {h : mH} {Q : Option Value → mH → Prop} {x1 : Int32} {x2 : Int32} {x3 : Int32} {x5 : Int32}  (k1 : ((x5 >>> (x2 &&& 31)) &&& (iZ 1)) = (iZ 1) → mWp mCd 193 (95, [some (.ref 14), some (.int x1), some (.int x2), some (.int x3), none, some (.int x5)], [], h, 0, 0) Q) (k2 : ¬ (((x5 >>> (x2 &&& 31)) &&& (iZ 1)) = (iZ 1)) → mWp mCd 193 (65, [some (.ref 14), some (.int x1), some (.int x2), some (.int x3), none, some (.int x5)], [], h, 0, 0) Q) : mWp mCd 193 (55, [some (.ref 14), some (.int x1), some (.int x2), some (.int x3), none, some (.int x5)], [], h, 0, 0) Q := by
  refine mWp_run 6 (t' := (62, [some (.ref 14), some (.int x1), some (.int x2), some (.int x3), none, some (.int x5)], [.int (iZ 1), .int ((x5 >>> (x2 &&& 31)) &&& (iZ 1))], h, 0, 0)) rfl ?_
  exact mWp_ic (P := fun x y => x = y) (a := (x5 >>> (x2 &&& 31)) &&& (iZ 1)) (b := iZ 1) rfl k1 k2
theorem b193_100 {h : mH} {Q : Option Value → mH → Prop} {x1 : Int32} {x2 : Int32} {x3 : Int32} {x5 : Int32} {u0 : Int32}  (k : mWp mCd 193 (40, [some (.ref 14), some (.int x1), some (.int x2), some (.int x3), some (.int u0), some (.int (x5 + iZ 1))], [], h, 0, 0) Q) : mWp mCd 193 (100, [some (.ref 14), some (.int x1), some (.int x2), some (.int x3), none, some (.int x5)], [.int u0], h, 0, 0) Q := by
  refine mWp_run 3 (t' := (40, [some (.ref 14), some (.int x1), some (.int x2), some (.int x3), some (.int u0), some (.int (x5 + iZ 1))], [], h, 0, 0)) rfl ?_
  exact k
theorem b193_95 {h : mH} {Q : Option Value → mH → Prop} {x1 : Int32} {x2 : Int32} {x3 : Int32} {x5 : Int32}  (k : mWp mCd 193 (100, [some (.ref 14), some (.int x1), some (.int x2), some (.int x3), none, some (.int x5)], [.int (iZ 1)], h, 0, 0) Q) : mWp mCd 193 (95, [some (.ref 14), some (.int x1), some (.int x2), some (.int x3), none, some (.int x5)], [], h, 0, 0) Q := by
  refine mWp_run 2 (t' := (100, [some (.ref 14), some (.int x1), some (.int x2), some (.int x3), none, some (.int x5)], [.int (iZ 1)], h, 0, 0)) rfl ?_
  exact k
theorem b193_65 {h : mH} {Q : Option Value → mH → Prop} {x1 : Int32} {x2 : Int32} {x3 : Int32} {x5 : Int32}  (k1 : ((x5 >>> (x3 &&& 31)) &&& (iZ 1)) = (iZ 1) → mWp mCd 193 (95, [some (.ref 14), some (.int x1), some (.int x2), some (.int x3), none, some (.int x5)], [], h, 0, 0) Q) (k2 : ¬ (((x5 >>> (x3 &&& 31)) &&& (iZ 1)) = (iZ 1)) → mWp mCd 193 (75, [some (.ref 14), some (.int x1), some (.int x2), some (.int x3), none, some (.int x5)], [], h, 0, 0) Q) : mWp mCd 193 (65, [some (.ref 14), some (.int x1), some (.int x2), some (.int x3), none, some (.int x5)], [], h, 0, 0) Q := by
  refine mWp_run 6 (t' := (72, [some (.ref 14), some (.int x1), some (.int x2), some (.int x3), none, some (.int x5)], [.int (iZ 1), .int ((x5 >>> (x3 &&& 31)) &&& (iZ 1))], h, 0, 0)) rfl ?_
  exact mWp_ic (P := fun x y => x = y) (a := (x5 >>> (x3 &&& 31)) &&& (iZ 1)) (b := iZ 1) rfl k1 k2
theorem b193_75 {h : mH} {Q : Option Value → mH → Prop} {x1 : Int32} {x2 : Int32} {x3 : Int32} {x5 : Int32} {v : Int32} {cor : Int32} {bA : Int64} {bB : Int64} {rw : Int32} {bo : Int32} (e1 : h[14]? = some (oM v cor bA bB rw bo)) (k : mCt mCd 162 [.ref 14, .int x1, .int x2, .int x5] h (fun rv hv => mWp mCd 193 (83, [some (.ref 14), some (.int x1), some (.int x2), some (.int x3), none, some (.int x5)], rv.toList ++ [], hv, 0, 0) Q)) : mWp mCd 193 (75, [some (.ref 14), some (.int x1), some (.int x2), some (.int x3), none, some (.int x5)], [], h, 0, 0) Q := by
  refine mWp_run 4 (t' := (80, [some (.ref 14), some (.int x1), some (.int x2), some (.int x3), none, some (.int x5)], [.int x5, .int x2, .int x1, .ref 14], h, 0, 0)) rfl ?_
  exact mWp_iv rfl rfl e1 rfl rfl rfl rfl k
theorem b193_83 {h : mH} {Q : Option Value → mH → Prop} {x1 : Int32} {x2 : Int32} {x3 : Int32} {x5 : Int32} {w0 : Int64} {v : Int32} {cor : Int32} {bA : Int64} {bB : Int64} {rw : Int32} {bo : Int32} (e1 : h[14]? = some (oM v cor bA bB rw bo)) (k : mCt mCd 162 [.ref 14, .int x1, .int x3, .int x5] h (fun rv hv => mWp mCd 193 (91, [some (.ref 14), some (.int x1), some (.int x2), some (.int x3), none, some (.int x5)], rv.toList ++ [.long w0], hv, 0, 0) Q)) : mWp mCd 193 (83, [some (.ref 14), some (.int x1), some (.int x2), some (.int x3), none, some (.int x5)], [.long w0], h, 0, 0) Q := by
  refine mWp_run 4 (t' := (88, [some (.ref 14), some (.int x1), some (.int x2), some (.int x3), none, some (.int x5)], [.int x5, .int x3, .int x1, .ref 14, .long w0], h, 0, 0)) rfl ?_
  exact mWp_iv rfl rfl e1 rfl rfl rfl rfl k
theorem b193_91 {h : mH} {Q : Option Value → mH → Prop} {x1 : Int32} {x2 : Int32} {x3 : Int32} {x5 : Int32} {w0 : Int64} {w1 : Int64}  (k1 : ¬ (lg_cmp w1 w0) = 0 → mWp mCd 193 (99, [some (.ref 14), some (.int x1), some (.int x2), some (.int x3), none, some (.int x5)], [], h, 0, 0) Q) (k2 : ¬ (¬ (lg_cmp w1 w0) = 0) → mWp mCd 193 (95, [some (.ref 14), some (.int x1), some (.int x2), some (.int x3), none, some (.int x5)], [], h, 0, 0) Q) : mWp mCd 193 (91, [some (.ref 14), some (.int x1), some (.int x2), some (.int x3), none, some (.int x5)], [.long w0, .long w1], h, 0, 0) Q := by
  refine mWp_run 1 (t' := (92, [some (.ref 14), some (.int x1), some (.int x2), some (.int x3), none, some (.int x5)], [.int (lg_cmp w1 w0)], h, 0, 0)) rfl ?_
  exact mWp_if (P := fun x => ¬ x = 0) (a := lg_cmp w1 w0) rfl k1 k2
theorem b194_0 {h : mH} {Q : Option Value → mH → Prop} {x1 : Int32} {x2 : Int32} {x3 : Int32} {v : Int32} {cor : Int32} {bA : Int64} {bB : Int64} {rw : Int32} {bo : Int32} (e1 : h[14]? = some (oM v cor bA bB rw bo)) (k : mCt mCd 138 [.ref 14, .int x1] h (fun rv hv => mWp mCd 194 (5, [some (.ref 14), some (.int x1), some (.int x2), some (.int x3), none, none, none], rv.toList ++ [], hv, 0, 0) Q)) : mWp mCd 194 (0, [some (.ref 14), some (.int x1), some (.int x2), some (.int x3), none, none, none], [], h, 0, 0) Q := by
  refine mWp_run 2 (t' := (2, [some (.ref 14), some (.int x1), some (.int x2), some (.int x3), none, none, none], [.int x1, .ref 14], h, 0, 0)) rfl ?_
  exact mWp_iv rfl rfl e1 rfl rfl rfl rfl k
theorem b194_5 {h : mH} {Q : Option Value → mH → Prop} {x1 : Int32} {x2 : Int32} {x3 : Int32} {u0 : Int32}  (k1 : u0 = 0 → mWp mCd 194 (27, [none, none, none, none, none, none, none], [], h, 0, 0) Q) (k2 : ¬ (u0 = 0) → mWp mCd 194 (8, [some (.ref 14), some (.int x1), some (.int x2), some (.int x3), none, none, none], [], h, 0, 0) Q) : mWp mCd 194 (5, [some (.ref 14), some (.int x1), some (.int x2), some (.int x3), none, none, none], [.int u0], h, 0, 0) Q := by
  exact mWp_if (P := fun x => x = 0) (a := u0) rfl (fun q => mWp_weak (mLe_n (mLe_n (mLe_n (mLe_n (mLe_n (mLe_n (mLe_n mLe_0))))))) (k1 q)) k2
theorem b194_27 {h : mH} {Q : Option Value → mH → Prop}   (k : Q (some (.int (iZ (-2)))) h) : mWp mCd 194 (27, [none, none, none, none, none, none, none], [], h, 0, 0) Q := by
  refine mWp_run 1 (t' := (29, [none, none, none, none, none, none, none], [.int (iZ (-2))], h, 0, 0)) rfl ?_
  exact mWp_r (v := (some (.int (iZ (-2))))) rfl k
theorem b194_8 {h : mH} {Q : Option Value → mH → Prop} {x1 : Int32} {x2 : Int32} {x3 : Int32} {v : Int32} {cor : Int32} {bA : Int64} {bB : Int64} {rw : Int32} {bo : Int32} (e1 : h[14]? = some (oM v cor bA bB rw bo)) (k : mCt mCd 143 [.ref 14, .int x1, .int x2] h (fun rv hv => mWp mCd 194 (14, [some (.ref 14), some (.int x1), some (.int x2), some (.int x3), none, none, none], rv.toList ++ [], hv, 0, 0) Q)) : mWp mCd 194 (8, [some (.ref 14), some (.int x1), some (.int x2), some (.int x3), none, none, none], [], h, 0, 0) Q := by
  refine mWp_run 3 (t' := (11, [some (.ref 14), some (.int x1), some (.int x2), some (.int x3), none, none, none], [.int x2, .int x1, .ref 14], h, 0, 0)) rfl ?_
  exact mWp_iv rfl rfl e1 rfl rfl rfl rfl k
theorem b194_14 {h : mH} {Q : Option Value → mH → Prop} {x1 : Int32} {x2 : Int32} {x3 : Int32} {u0 : Int32}  (k1 : u0 = 0 → mWp mCd 194 (27, [none, none, none, none, none, none, none], [], h, 0, 0) Q) (k2 : ¬ (u0 = 0) → mWp mCd 194 (17, [some (.ref 14), some (.int x1), some (.int x2), some (.int x3), none, none, none], [], h, 0, 0) Q) : mWp mCd 194 (14, [some (.ref 14), some (.int x1), some (.int x2), some (.int x3), none, none, none], [.int u0], h, 0, 0) Q := by
  exact mWp_if (P := fun x => x = 0) (a := u0) rfl (fun q => mWp_weak (mLe_n (mLe_n (mLe_n (mLe_n (mLe_n (mLe_n (mLe_n mLe_0))))))) (k1 q)) k2
theorem b194_17 {h : mH} {Q : Option Value → mH → Prop} {x1 : Int32} {x2 : Int32} {x3 : Int32} {v : Int32} {cor : Int32} {bA : Int64} {bB : Int64} {rw : Int32} {bo : Int32} (e1 : h[14]? = some (oM v cor bA bB rw bo)) (k : mCt mCd 137 [.ref 14, .int x3, .int (iZ 0), .int (iZ 1)] h (fun rv hv => mWp mCd 194 (24, [some (.ref 14), some (.int x1), some (.int x2), some (.int x3), none, none, none], rv.toList ++ [], hv, 0, 0) Q)) : mWp mCd 194 (17, [some (.ref 14), some (.int x1), some (.int x2), some (.int x3), none, none, none], [], h, 0, 0) Q := by
  refine mWp_run 4 (t' := (21, [some (.ref 14), some (.int x1), some (.int x2), some (.int x3), none, none, none], [.int (iZ 1), .int (iZ 0), .int x3, .ref 14], h, 0, 0)) rfl ?_
  exact mWp_iv rfl rfl e1 rfl rfl rfl rfl k
theorem b194_24 {h : mH} {Q : Option Value → mH → Prop} {x1 : Int32} {x2 : Int32} {x3 : Int32} {u0 : Int32}  (k1 : ¬ u0 = 0 → mWp mCd 194 (30, [some (.ref 14), some (.int x1), some (.int x2), some (.int x3), none, none, none], [], h, 0, 0) Q) (k2 : ¬ (¬ u0 = 0) → mWp mCd 194 (27, [none, none, none, none, none, none, none], [], h, 0, 0) Q) : mWp mCd 194 (24, [some (.ref 14), some (.int x1), some (.int x2), some (.int x3), none, none, none], [.int u0], h, 0, 0) Q := by
  exact mWp_if (P := fun x => ¬ x = 0) (a := u0) rfl k1 (fun q => mWp_weak (mLe_n (mLe_n (mLe_n (mLe_n (mLe_n (mLe_n (mLe_n mLe_0))))))) (k2 q))
theorem b194_30 {h : mH} {Q : Option Value → mH → Prop} {x1 : Int32} {x2 : Int32} {x3 : Int32} {v : Int32} {cor : Int32} {bA : Int64} {bB : Int64} {rw : Int32} {bo : Int32} {g101 : Nat → Int32} (e1 : h[14]? = some (oM v cor bA bB rw bo)) (e2 : h[15]? = some (aI 11 g101)) (e3 : ¬ (x1 < 0 ∨ 11 ≤ x1.toNatClampNeg)) (k1 : (g101 x1.toNatClampNeg) = (iZ 1) → mWp mCd 194 (43, [some (.ref 14), some (.int x1), some (.int x2), some (.int x3), none, none, none], [], h, 0, 0) Q) (k2 : ¬ ((g101 x1.toNatClampNeg) = (iZ 1)) → mWp mCd 194 (40, [none, none, none, none, none, none, none], [], h, 0, 0) Q) : mWp mCd 194 (30, [some (.ref 14), some (.int x1), some (.int x2), some (.int x3), none, none, none], [], h, 0, 0) Q := by
  refine mWp_run 1 (t' := (31, [some (.ref 14), some (.int x1), some (.int x2), some (.int x3), none, none, none], [.ref 14], h, 0, 0)) rfl ?_
  refine mWp_gf rfl e1 rfl rfl ?_
  refine mWp_run 1 (t' := (35, [some (.ref 14), some (.int x1), some (.int x2), some (.int x3), none, none, none], [.int x1, .ref 15], h, 0, 0)) rfl ?_
  refine mWp_ial rfl e2 e3 ?_
  refine mWp_run 1 (t' := (37, [some (.ref 14), some (.int x1), some (.int x2), some (.int x3), none, none, none], [.int (iZ 1), .int (g101 x1.toNatClampNeg)], h, 0, 0)) rfl ?_
  exact mWp_ic (P := fun x y => x = y) (a := g101 x1.toNatClampNeg) (b := iZ 1) rfl k1 (fun q => mWp_weak (mLe_n (mLe_n (mLe_n (mLe_n (mLe_n (mLe_n (mLe_n mLe_0))))))) (k2 q))
theorem b194_43 {h : mH} {Q : Option Value → mH → Prop} {x1 : Int32} {x2 : Int32} {x3 : Int32}  (k : mWp mCd 194 (49, [some (.ref 14), some (.int x1), some (.int x2), some (.int x3), some (.long (lZ 0)), none, some (.int (iZ 0))], [], h, 0, 0) Q) : mWp mCd 194 (43, [some (.ref 14), some (.int x1), some (.int x2), some (.int x3), none, none, none], [], h, 0, 0) Q := by
  refine mWp_run 4 (t' := (49, [some (.ref 14), some (.int x1), some (.int x2), some (.int x3), some (.long (lZ 0)), none, some (.int (iZ 0))], [], h, 0, 0)) rfl ?_
  exact k
theorem b194_40 {h : mH} {Q : Option Value → mH → Prop}   (k : Q (some (.int (iZ (-3)))) h) : mWp mCd 194 (40, [none, none, none, none, none, none, none], [], h, 0, 0) Q := by
  refine mWp_run 1 (t' := (42, [none, none, none, none, none, none, none], [.int (iZ (-3))], h, 0, 0)) rfl ?_
  exact mWp_r (v := (some (.int (iZ (-3))))) rfl k
theorem b194_49 {h : mH} {Q : Option Value → mH → Prop} {x1 : Int32} {x2 : Int32} {x3 : Int32} {y4 : Int64} {x6 : Int32} {v : Int32} {cor : Int32} {bA : Int64} {bB : Int64} {rw : Int32} {bo : Int32} (e1 : h[14]? = some (oM v cor bA bB rw bo)) (k : mCt mCd 139 [.ref 14, .int x1] h (fun rv hv => mWp mCd 194 (56, [some (.ref 14), some (.int x1), some (.int x2), some (.int x3), some (.long y4), none, some (.int x6)], rv.toList ++ [.int x6], hv, 0, 0) Q)) : mWp mCd 194 (49, [some (.ref 14), some (.int x1), some (.int x2), some (.int x3), some (.long y4), none, some (.int x6)], [], h, 0, 0) Q := by
  refine mWp_run 3 (t' := (53, [some (.ref 14), some (.int x1), some (.int x2), some (.int x3), some (.long y4), none, some (.int x6)], [.int x1, .ref 14, .int x6], h, 0, 0)) rfl ?_
  exact mWp_iv rfl rfl e1 rfl rfl rfl rfl k
theorem b194_56 {h : mH} {Q : Option Value → mH → Prop} {x1 : Int32} {x2 : Int32} {x3 : Int32} {y4 : Int64} {x6 : Int32} {u0 : Int32} {u1 : Int32}  (k1 : u0 < u1 → mWp mCd 194 (134, [none, none, none, none, some (.long y4), none, none], [], h, 0, 0) Q) (k2 : ¬ (u0 < u1) → mWp mCd 194 (59, [some (.ref 14), some (.int x1), some (.int x2), some (.int x3), some (.long y4), none, some (.int x6)], [], h, 0, 0) Q) : mWp mCd 194 (56, [some (.ref 14), some (.int x1), some (.int x2), some (.int x3), some (.long y4), none, some (.int x6)], [.int u0, .int u1], h, 0, 0) Q := by
  exact mWp_ic (P := fun x y => y < x) (a := u1) (b := u0) rfl (fun q => mWp_weak (mLe_n (mLe_n (mLe_n (mLe_n (mLe_s (mLe_n (mLe_n mLe_0))))))) (k1 q)) k2
theorem b194_134 {h : mH} {Q : Option Value → mH → Prop} {y4 : Int64}  (k : Q (some (.int (Int64.toInt32 y4))) h) : mWp mCd 194 (134, [none, none, none, none, some (.long y4), none, none], [], h, 0, 0) Q := by
  refine mWp_run 2 (t' := (137, [none, none, none, none, some (.long y4), none, none], [.int (Int64.toInt32 y4)], h, 0, 0)) rfl ?_
  exact mWp_r (v := (some (.int (Int64.toInt32 y4)))) rfl k
theorem b194_59 {h : mH} {Q : Option Value → mH → Prop} {x1 : Int32} {x2 : Int32} {x3 : Int32} {y4 : Int64} {x6 : Int32}  (k1 : ((x6 >>> (x2 &&& 31)) &&& (iZ 1)) = (iZ 1) → mWp mCd 194 (128, [some (.ref 14), some (.int x1), some (.int x2), some (.int x3), some (.long y4), none, some (.int x6)], [], h, 0, 0) Q) (k2 : ¬ (((x6 >>> (x2 &&& 31)) &&& (iZ 1)) = (iZ 1)) → mWp mCd 194 (69, [some (.ref 14), some (.int x1), some (.int x2), some (.int x3), some (.long y4), none, some (.int x6)], [], h, 0, 0) Q) : mWp mCd 194 (59, [some (.ref 14), some (.int x1), some (.int x2), some (.int x3), some (.long y4), none, some (.int x6)], [], h, 0, 0) Q := by
  refine mWp_run 6 (t' := (66, [some (.ref 14), some (.int x1), some (.int x2), some (.int x3), some (.long y4), none, some (.int x6)], [.int (iZ 1), .int ((x6 >>> (x2 &&& 31)) &&& (iZ 1))], h, 0, 0)) rfl ?_
  exact mWp_ic (P := fun x y => x = y) (a := (x6 >>> (x2 &&& 31)) &&& (iZ 1)) (b := iZ 1) rfl k1 k2
theorem b194_128 {h : mH} {Q : Option Value → mH → Prop} {x1 : Int32} {x2 : Int32} {x3 : Int32} {y4 : Int64} {x6 : Int32}  (k : mWp mCd 194 (49, [some (.ref 14), some (.int x1), some (.int x2), some (.int x3), some (.long y4), none, some (.int (x6 + iZ 1))], [], h, 0, 0) Q) : mWp mCd 194 (128, [some (.ref 14), some (.int x1), some (.int x2), some (.int x3), some (.long y4), none, some (.int x6)], [], h, 0, 0) Q := by
  refine mWp_run 2 (t' := (49, [some (.ref 14), some (.int x1), some (.int x2), some (.int x3), some (.long y4), none, some (.int (x6 + iZ 1))], [], h, 0, 0)) rfl ?_
  exact k
theorem b194_69 {h : mH} {Q : Option Value → mH → Prop} {x1 : Int32} {x2 : Int32} {x3 : Int32} {y4 : Int64} {x6 : Int32} {v : Int32} {cor : Int32} {bA : Int64} {bB : Int64} {rw : Int32} {bo : Int32} (e1 : h[14]? = some (oM v cor bA bB rw bo)) (k : mCt mCd 162 [.ref 14, .int x1, .int x2, .int x6] h (fun rv hv => mWp mCd 194 (77, [some (.ref 14), some (.int x1), some (.int x2), some (.int x3), some (.long y4), none, some (.int x6)], rv.toList ++ [], hv, 0, 0) Q)) : mWp mCd 194 (69, [some (.ref 14), some (.int x1), some (.int x2), some (.int x3), some (.long y4), none, some (.int x6)], [], h, 0, 0) Q := by
  refine mWp_run 4 (t' := (74, [some (.ref 14), some (.int x1), some (.int x2), some (.int x3), some (.long y4), none, some (.int x6)], [.int x6, .int x2, .int x1, .ref 14], h, 0, 0)) rfl ?_
  exact mWp_iv rfl rfl e1 rfl rfl rfl rfl k
theorem b194_77 {h : mH} {Q : Option Value → mH → Prop} {x1 : Int32} {x2 : Int32} {x3 : Int32} {y4 : Int64} {x6 : Int32} {w0 : Int64}  (k1 : (lg_cmp w0 (lZ 1)) = 0 → mWp mCd 194 (85, [some (.ref 14), some (.int x1), some (.int x2), some (.int x3), some (.long y4), none, some (.int x6)], [], h, 0, 0) Q) (k2 : ¬ ((lg_cmp w0 (lZ 1)) = 0) → mWp mCd 194 (82, [some (.ref 14), some (.int x1), some (.int x2), some (.int x3), some (.long y4), none, some (.int x6)], [], h, 0, 0) Q) : mWp mCd 194 (77, [some (.ref 14), some (.int x1), some (.int x2), some (.int x3), some (.long y4), none, some (.int x6)], [.long w0], h, 0, 0) Q := by
  refine mWp_run 2 (t' := (79, [some (.ref 14), some (.int x1), some (.int x2), some (.int x3), some (.long y4), none, some (.int x6)], [.int (lg_cmp w0 (lZ 1))], h, 0, 0)) rfl ?_
  exact mWp_if (P := fun x => x = 0) (a := lg_cmp w0 (lZ 1)) rfl k1 k2
theorem b194_85 {h : mH} {Q : Option Value → mH → Prop} {x1 : Int32} {x2 : Int32} {x3 : Int32} {y4 : Int64} {x6 : Int32}  (k1 : ¬ x3 = 0 → mWp mCd 194 (95, [some (.ref 14), some (.int x1), some (.int x2), some (.int x3), none, none, some (.int x6)], [.long y4], h, 0, 0) Q) (k2 : ¬ (¬ x3 = 0) → mWp mCd 194 (91, [some (.ref 14), some (.int x1), some (.int x2), some (.int x3), none, none, some (.int x6)], [.long y4], h, 0, 0) Q) : mWp mCd 194 (85, [some (.ref 14), some (.int x1), some (.int x2), some (.int x3), some (.long y4), none, some (.int x6)], [], h, 0, 0) Q := by
  refine mWp_run 2 (t' := (88, [some (.ref 14), some (.int x1), some (.int x2), some (.int x3), some (.long y4), none, some (.int x6)], [.int x3, .long y4], h, 0, 0)) rfl ?_
  exact mWp_if (P := fun x => ¬ x = 0) (a := x3) rfl (fun q => mWp_weak (mLe_s (mLe_s (mLe_s (mLe_s (mLe_n (mLe_n (mLe_s mLe_0))))))) (k1 q)) (fun q => mWp_weak (mLe_s (mLe_s (mLe_s (mLe_s (mLe_n (mLe_n (mLe_s mLe_0))))))) (k2 q))
theorem b194_82 {h : mH} {Q : Option Value → mH → Prop} {x1 : Int32} {x2 : Int32} {x3 : Int32} {y4 : Int64} {x6 : Int32}  (k : mWp mCd 194 (128, [some (.ref 14), some (.int x1), some (.int x2), some (.int x3), some (.long y4), none, some (.int x6)], [], h, 0, 0) Q) : mWp mCd 194 (82, [some (.ref 14), some (.int x1), some (.int x2), some (.int x3), some (.long y4), none, some (.int x6)], [], h, 0, 0) Q := by
  refine mWp_run 1 (t' := (128, [some (.ref 14), some (.int x1), some (.int x2), some (.int x3), some (.long y4), none, some (.int x6)], [], h, 0, 0)) rfl ?_
  exact k
theorem b194_95 {h : mH} {Q : Option Value → mH → Prop} {x1 : Int32} {x2 : Int32} {x3 : Int32} {x6 : Int32} {w0 : Int64} {v : Int32} {cor : Int32} {bA : Int64} {bB : Int64} {rw : Int32} {bo : Int32} (e1 : h[14]? = some (oM v cor bA bB rw bo)) (k : mCt mCd 140 [.ref 14, .int x6] h (fun rv hv => mWp mCd 194 (102, [some (.ref 14), some (.int x1), some (.int x2), some (.int x3), none, none, some (.int x6)], rv.toList ++ [.ref 14, .long w0], hv, 0, 0) Q)) : mWp mCd 194 (95, [some (.ref 14), some (.int x1), some (.int x2), some (.int x3), none, none, some (.int x6)], [.long w0], h, 0, 0) Q := by
  refine mWp_run 3 (t' := (99, [some (.ref 14), some (.int x1), some (.int x2), some (.int x3), none, none, some (.int x6)], [.int x6, .ref 14, .ref 14, .long w0], h, 0, 0)) rfl ?_
  exact mWp_iv rfl rfl e1 rfl rfl rfl rfl k
theorem b194_91 {h : mH} {Q : Option Value → mH → Prop} {x1 : Int32} {x2 : Int32} {x3 : Int32} {x6 : Int32} {w0 : Int64}  (k : mWp mCd 194 (125, [some (.ref 14), some (.int x1), some (.int x2), some (.int x3), none, none, some (.int x6)], [.long (lZ 1), .long w0], h, 0, 0) Q) : mWp mCd 194 (91, [some (.ref 14), some (.int x1), some (.int x2), some (.int x3), none, none, some (.int x6)], [.long w0], h, 0, 0) Q := by
  refine mWp_run 2 (t' := (125, [some (.ref 14), some (.int x1), some (.int x2), some (.int x3), none, none, some (.int x6)], [.long (lZ 1), .long w0], h, 0, 0)) rfl ?_
  exact k
theorem b194_102 {h : mH} {Q : Option Value → mH → Prop} {x1 : Int32} {x2 : Int32} {x3 : Int32} {x6 : Int32} {u0 : Int32} {w2 : Int64} {v : Int32} {cor : Int32} {bA : Int64} {bB : Int64} {rw : Int32} {bo : Int32} (e1 : h[14]? = some (oM v cor bA bB rw bo)) (k : mCt mCd 165 [.ref 14, .int u0] h (fun rv hv => mWp mCd 194 (105, [some (.ref 14), some (.int x1), some (.int x2), some (.int x3), none, none, some (.int x6)], rv.toList ++ [.long w2], hv, 0, 0) Q)) : mWp mCd 194 (102, [some (.ref 14), some (.int x1), some (.int x2), some (.int x3), none, none, some (.int x6)], [.int u0, .ref 14, .long w2], h, 0, 0) Q := by
  exact mWp_iv rfl rfl e1 rfl rfl rfl rfl k
theorem b194_125 {h : mH} {Q : Option Value → mH → Prop} {x1 : Int32} {x2 : Int32} {x3 : Int32} {x6 : Int32} {w0 : Int64} {w1 : Int64}  (k : mWp mCd 194 (128, [some (.ref 14), some (.int x1), some (.int x2), some (.int x3), some (.long (w1 + w0)), none, some (.int x6)], [], h, 0, 0) Q) : mWp mCd 194 (125, [some (.ref 14), some (.int x1), some (.int x2), some (.int x3), none, none, some (.int x6)], [.long w0, .long w1], h, 0, 0) Q := by
  refine mWp_run 2 (t' := (128, [some (.ref 14), some (.int x1), some (.int x2), some (.int x3), some (.long (w1 + w0)), none, some (.int x6)], [], h, 0, 0)) rfl ?_
  exact k
theorem b194_105 {h : mH} {Q : Option Value → mH → Prop} {x1 : Int32} {x2 : Int32} {x3 : Int32} {x6 : Int32} {w0 : Int64} {w1 : Int64} {v : Int32} {cor : Int32} {bA : Int64} {bB : Int64} {rw : Int32} {bo : Int32} {g101 : Nat → Int32} (e1 : h[14]? = some (oM v cor bA bB rw bo)) (e2 : h[16]? = some (aI 11 g101)) (e3 : ¬ (x1 < 0 ∨ 11 ≤ x1.toNatClampNeg)) (k : mCt mCd 140 [.ref 14, .int x6] h (fun rv hv => mWp mCd 194 (118, [some (.ref 14), some (.int x1), some (.int x2), some (.int x3), none, none, some (.int x6)], rv.toList ++ [.int (g101 x1.toNatClampNeg), .ref 14, .long w0, .long w1], hv, 0, 0) Q)) : mWp mCd 194 (105, [some (.ref 14), some (.int x1), some (.int x2), some (.int x3), none, none, some (.int x6)], [.long w0, .long w1], h, 0, 0) Q := by
  refine mWp_run 2 (t' := (107, [some (.ref 14), some (.int x1), some (.int x2), some (.int x3), none, none, some (.int x6)], [.ref 14, .ref 14, .long w0, .long w1], h, 0, 0)) rfl ?_
  refine mWp_gf rfl e1 rfl rfl ?_
  refine mWp_run 1 (t' := (111, [some (.ref 14), some (.int x1), some (.int x2), some (.int x3), none, none, some (.int x6)], [.int x1, .ref 16, .ref 14, .long w0, .long w1], h, 0, 0)) rfl ?_
  refine mWp_ial rfl e2 e3 ?_
  refine mWp_run 2 (t' := (115, [some (.ref 14), some (.int x1), some (.int x2), some (.int x3), none, none, some (.int x6)], [.int x6, .ref 14, .int (g101 x1.toNatClampNeg), .ref 14, .long w0, .long w1], h, 0, 0)) rfl ?_
  exact mWp_iv rfl rfl e1 rfl rfl rfl rfl k
theorem b194_118 {h : mH} {Q : Option Value → mH → Prop} {x1 : Int32} {x2 : Int32} {x3 : Int32} {x6 : Int32} {u0 : Int32} {u1 : Int32} {w3 : Int64} {w4 : Int64} {v : Int32} {cor : Int32} {bA : Int64} {bB : Int64} {rw : Int32} {bo : Int32} (e1 : h[14]? = some (oM v cor bA bB rw bo)) (k : mCt mCd 165 [.ref 14, .int ((u1 - u0) - (iZ 1))] h (fun rv hv => mWp mCd 194 (124, [some (.ref 14), some (.int x1), some (.int x2), some (.int x3), none, none, some (.int x6)], rv.toList ++ [.long w3, .long w4], hv, 0, 0) Q)) : mWp mCd 194 (118, [some (.ref 14), some (.int x1), some (.int x2), some (.int x3), none, none, some (.int x6)], [.int u0, .int u1, .ref 14, .long w3, .long w4], h, 0, 0) Q := by
  refine mWp_run 3 (t' := (121, [some (.ref 14), some (.int x1), some (.int x2), some (.int x3), none, none, some (.int x6)], [.int ((u1 - u0) - (iZ 1)), .ref 14, .long w3, .long w4], h, 0, 0)) rfl ?_
  exact mWp_iv rfl rfl e1 rfl rfl rfl rfl k
theorem b194_124 {h : mH} {Q : Option Value → mH → Prop} {x1 : Int32} {x2 : Int32} {x3 : Int32} {x6 : Int32} {w0 : Int64} {w1 : Int64} {w2 : Int64}  (k : mWp mCd 194 (125, [some (.ref 14), some (.int x1), some (.int x2), some (.int x3), none, none, some (.int x6)], [.long (w1 * w0), .long w2], h, 0, 0) Q) : mWp mCd 194 (124, [some (.ref 14), some (.int x1), some (.int x2), some (.int x3), none, none, some (.int x6)], [.long w0, .long w1, .long w2], h, 0, 0) Q := by
  refine mWp_run 1 (t' := (125, [some (.ref 14), some (.int x1), some (.int x2), some (.int x3), none, none, some (.int x6)], [.long (w1 * w0), .long w2], h, 0, 0)) rfl ?_
  exact k
theorem b195_0 {h : mH} {Q : Option Value → mH → Prop} {x1 : Int32}  (k : mWp mCd 195 (4, [some (.ref 14), some (.int x1), some (.int (iZ 0)), some (.int (iZ 1))], [], h, 0, 0) Q) : mWp mCd 195 (0, [some (.ref 14), some (.int x1), none, none], [], h, 0, 0) Q := by
  refine mWp_run 4 (t' := (4, [some (.ref 14), some (.int x1), some (.int (iZ 0)), some (.int (iZ 1))], [], h, 0, 0)) rfl ?_
  exact k
theorem b195_4 {h : mH} {Q : Option Value → mH → Prop} {x1 : Int32} {x2 : Int32} {x3 : Int32} {v : Int32} {cor : Int32} {bA : Int64} {bB : Int64} {rw : Int32} {bo : Int32} (e1 : h[14]? = some (oM v cor bA bB rw bo)) (k : mCt mCd 139 [.ref 14, .int x1] h (fun rv hv => mWp mCd 195 (10, [some (.ref 14), some (.int x1), some (.int x2), some (.int x3)], rv.toList ++ [.int x3], hv, 0, 0) Q)) : mWp mCd 195 (4, [some (.ref 14), some (.int x1), some (.int x2), some (.int x3)], [], h, 0, 0) Q := by
  refine mWp_run 3 (t' := (7, [some (.ref 14), some (.int x1), some (.int x2), some (.int x3)], [.int x1, .ref 14, .int x3], h, 0, 0)) rfl ?_
  exact mWp_iv rfl rfl e1 rfl rfl rfl rfl k
theorem b195_10 {h : mH} {Q : Option Value → mH → Prop} {x1 : Int32} {x2 : Int32} {x3 : Int32} {u0 : Int32} {u1 : Int32}  (k1 : u0 < u1 → mWp mCd 195 (34, [some (.ref 14), some (.int x1), some (.int x2), none], [], h, 0, 0) Q) (k2 : ¬ (u0 < u1) → mWp mCd 195 (13, [some (.ref 14), some (.int x1), some (.int x2), some (.int x3)], [], h, 0, 0) Q) : mWp mCd 195 (10, [some (.ref 14), some (.int x1), some (.int x2), some (.int x3)], [.int u0, .int u1], h, 0, 0) Q := by
  exact mWp_ic (P := fun x y => y < x) (a := u1) (b := u0) rfl (fun q => mWp_weak (mLe_s (mLe_s (mLe_s (mLe_n mLe_0)))) (k1 q)) k2
theorem b195_34 {h : mH} {Q : Option Value → mH → Prop} {x1 : Int32} {x2 : Int32}  (k : mWp mCd 195 (36, [some (.ref 14), some (.int x1), some (.int x2), some (.int (iZ 0))], [], h, 0, 0) Q) : mWp mCd 195 (34, [some (.ref 14), some (.int x1), some (.int x2), none], [], h, 0, 0) Q := by
  refine mWp_run 2 (t' := (36, [some (.ref 14), some (.int x1), some (.int x2), some (.int (iZ 0))], [], h, 0, 0)) rfl ?_
  exact k
theorem b195_13 {h : mH} {Q : Option Value → mH → Prop} {x1 : Int32} {x2 : Int32} {x3 : Int32} {v : Int32} {cor : Int32} {bA : Int64} {bB : Int64} {rw : Int32} {bo : Int32} (e1 : h[14]? = some (oM v cor bA bB rw bo)) (k : mCt mCd 144 [.ref 14, .int x1, .int x3] h (fun rv hv => mWp mCd 195 (24, [some (.ref 14), some (.int x1), some (.int x2), some (.int x3)], rv.toList ++ [.int x2, .ref 24], hv, 0, 0) Q)) : mWp mCd 195 (13, [some (.ref 14), some (.int x1), some (.int x2), some (.int x3)], [], h, 0, 0) Q := by
  refine mWp_run 1 (t' := (14, [some (.ref 14), some (.int x1), some (.int x2), some (.int x3)], [.ref 14], h, 0, 0)) rfl ?_
  refine mWp_gf rfl e1 rfl rfl ?_
  refine mWp_run 4 (t' := (21, [some (.ref 14), some (.int x1), some (.int x2), some (.int x3)], [.int x3, .int x1, .ref 14, .int x2, .ref 24], h, 0, 0)) rfl ?_
  exact mWp_iv rfl rfl e1 rfl rfl rfl rfl k
theorem b195_36 {h : mH} {Q : Option Value → mH → Prop} {x1 : Int32} {x2 : Int32} {x3 : Int32} {v : Int32} {cor : Int32} {bA : Int64} {bB : Int64} {rw : Int32} {bo : Int32} {g101 : Nat → Int32} (e1 : h[14]? = some (oM v cor bA bB rw bo)) (e2 : h[16]? = some (aI 11 g101)) (e3 : ¬ (x1 < 0 ∨ 11 ≤ x1.toNatClampNeg)) (k1 : (g101 x1.toNatClampNeg) ≤ x3 → mWp mCd 195 (111, [some (.ref 14), some (.int x1), some (.int x2), none], [], h, 0, 0) Q) (k2 : ¬ ((g101 x1.toNatClampNeg) ≤ x3) → mWp mCd 195 (46, [some (.ref 14), some (.int x1), some (.int x2), some (.int x3)], [], h, 0, 0) Q) : mWp mCd 195 (36, [some (.ref 14), some (.int x1), some (.int x2), some (.int x3)], [], h, 0, 0) Q := by
  refine mWp_run 2 (t' := (38, [some (.ref 14), some (.int x1), some (.int x2), some (.int x3)], [.ref 14, .int x3], h, 0, 0)) rfl ?_
  refine mWp_gf rfl e1 rfl rfl ?_
  refine mWp_run 1 (t' := (42, [some (.ref 14), some (.int x1), some (.int x2), some (.int x3)], [.int x1, .ref 16, .int x3], h, 0, 0)) rfl ?_
  refine mWp_ial rfl e2 e3 ?_
  exact mWp_ic (P := fun x y => y ≤ x) (a := x3) (b := g101 x1.toNatClampNeg) rfl (fun q => mWp_weak (mLe_s (mLe_s (mLe_s (mLe_n mLe_0)))) (k1 q)) k2
theorem b195_24 {h : mH} {Q : Option Value → mH → Prop} {x1 : Int32} {x2 : Int32} {x3 : Int32} {w0 : Int64} {u1 : Int32} {g101 : Nat → Int64} (e1 : h[24]? = some (aL 32 g101)) (e2 : ¬ (u1 < 0 ∨ 32 ≤ u1.toNatClampNeg)) (k : mWp mCd 195 (4, [some (.ref 14), some (.int x1), some (.int (x2 + iZ 1)), some (.int (x3 + iZ 1))], [], (h.set 24 (aL 32 (vp_updL g101 (u1.toNatClampNeg) w0))), 0, 0) Q) : mWp mCd 195 (24, [some (.ref 14), some (.int x1), some (.int x2), some (.int x3)], [.long w0, .int u1, .ref 24], h, 0, 0) Q := by
  refine mWp_las rfl (by decide) e1 e2 ?_
  show mWp mCd 195 (25, [some (.ref 14), some (.int x1), some (.int x2), some (.int x3)], [], (h.set 24 (aL 32 (vp_updL g101 (u1.toNatClampNeg) w0))), 0, 0) Q
  refine mWp_run 3 (t' := (4, [some (.ref 14), some (.int x1), some (.int (x2 + iZ 1)), some (.int (x3 + iZ 1))], [], (h.set 24 (aL 32 (vp_updL g101 (u1.toNatClampNeg) w0))), 0, 0)) rfl ?_
  exact k
theorem b195_111 {h : mH} {Q : Option Value → mH → Prop} {x1 : Int32} {x2 : Int32} {v : Int32} {cor : Int32} {bA : Int64} {bB : Int64} {rw : Int32} {bo : Int32} {g101 : Nat → Int32} (e1 : h[14]? = some (oM v cor bA bB rw bo)) (e2 : h[16]? = some (aI 11 g101)) (e3 : ¬ (x1 < 0 ∨ 11 ≤ x1.toNatClampNeg)) (k1 : ¬ (g101 x1.toNatClampNeg) = (iZ 1) → mWp mCd 195 (123, [some (.ref 14), some (.int x1), some (.int x2), none], [], h, 0, 0) Q) (k2 : ¬ (¬ (g101 x1.toNatClampNeg) = (iZ 1)) → mWp mCd 195 (121, [none, none, some (.int x2), none], [], h, 0, 0) Q) : mWp mCd 195 (111, [some (.ref 14), some (.int x1), some (.int x2), none], [], h, 0, 0) Q := by
  refine mWp_run 1 (t' := (112, [some (.ref 14), some (.int x1), some (.int x2), none], [.ref 14], h, 0, 0)) rfl ?_
  refine mWp_gf rfl e1 rfl rfl ?_
  refine mWp_run 1 (t' := (116, [some (.ref 14), some (.int x1), some (.int x2), none], [.int x1, .ref 16], h, 0, 0)) rfl ?_
  refine mWp_ial rfl e2 e3 ?_
  refine mWp_run 1 (t' := (118, [some (.ref 14), some (.int x1), some (.int x2), none], [.int (iZ 1), .int (g101 x1.toNatClampNeg)], h, 0, 0)) rfl ?_
  exact mWp_ic (P := fun x y => ¬ x = y) (a := g101 x1.toNatClampNeg) (b := iZ 1) rfl k1 (fun q => mWp_weak (mLe_n (mLe_n (mLe_s (mLe_n mLe_0)))) (k2 q))
theorem b195_46 {h : mH} {Q : Option Value → mH → Prop} {x1 : Int32} {x2 : Int32} {x3 : Int32} {v : Int32} {cor : Int32} {bA : Int64} {bB : Int64} {rw : Int32} {bo : Int32} (e1 : h[14]? = some (oM v cor bA bB rw bo)) (k : mCt mCd 166 [.ref 14, .int x1, .int x3] h (fun rv hv => mWp mCd 195 (58, [some (.ref 14), some (.int x1), some (.int x2), some (.int x3)], rv.toList ++ [.ref 14, .int x2, .ref 24], hv, 0, 0) Q)) : mWp mCd 195 (46, [some (.ref 14), some (.int x1), some (.int x2), some (.int x3)], [], h, 0, 0) Q := by
  refine mWp_run 1 (t' := (47, [some (.ref 14), some (.int x1), some (.int x2), some (.int x3)], [.ref 14], h, 0, 0)) rfl ?_
  refine mWp_gf rfl e1 rfl rfl ?_
  refine mWp_run 5 (t' := (55, [some (.ref 14), some (.int x1), some (.int x2), some (.int x3)], [.int x3, .int x1, .ref 14, .ref 14, .int x2, .ref 24], h, 0, 0)) rfl ?_
  exact mWp_iv rfl rfl e1 rfl rfl rfl rfl k
theorem b195_123 {h : mH} {Q : Option Value → mH → Prop} {x1 : Int32} {x2 : Int32} {v : Int32} {cor : Int32} {bA : Int64} {bB : Int64} {rw : Int32} {bo : Int32} (e1 : h[14]? = some (oM v cor bA bB rw bo)) (k : mCt mCd 186 [.ref 14, .int x1] h (fun rv hv => mWp mCd 195 (128, [some (.ref 14), none, some (.int x2), none], rv.toList ++ [], hv, 0, 0) Q)) : mWp mCd 195 (123, [some (.ref 14), some (.int x1), some (.int x2), none], [], h, 0, 0) Q := by
  refine mWp_run 2 (t' := (125, [some (.ref 14), some (.int x1), some (.int x2), none], [.int x1, .ref 14], h, 0, 0)) rfl ?_
  exact mWp_iv rfl rfl e1 rfl rfl rfl rfl (mCt_mono k (fun rv hv y => mWp_weak (mLe_s (mLe_n (mLe_s (mLe_n mLe_0)))) y))
theorem b195_121 {h : mH} {Q : Option Value → mH → Prop} {x2 : Int32}  (k : Q (some (.int x2)) h) : mWp mCd 195 (121, [none, none, some (.int x2), none], [], h, 0, 0) Q := by
  refine mWp_run 1 (t' := (122, [none, none, some (.int x2), none], [.int x2], h, 0, 0)) rfl ?_
  exact mWp_r (v := (some (.int x2))) rfl k
theorem b195_58 {h : mH} {Q : Option Value → mH → Prop} {x1 : Int32} {x2 : Int32} {x3 : Int32} {w0 : Int64} {u2 : Int32} {v : Int32} {cor : Int32} {bA : Int64} {bB : Int64} {rw : Int32} {bo : Int32} {g101 : Nat → Int32} (e1 : h[14]? = some (oM v cor bA bB rw bo)) (e2 : h[16]? = some (aI 11 g101)) (e3 : ¬ (x1 < 0 ∨ 11 ≤ x1.toNatClampNeg)) (k : mCt mCd 165 [.ref 14, .int (g101 x1.toNatClampNeg)] h (fun rv hv => mWp mCd 195 (68, [some (.ref 14), some (.int x1), some (.int x2), some (.int x3)], rv.toList ++ [.long w0, .ref 14, .int u2, .ref 24], hv, 0, 0) Q)) : mWp mCd 195 (58, [some (.ref 14), some (.int x1), some (.int x2), some (.int x3)], [.long w0, .ref 14, .int u2, .ref 24], h, 0, 0) Q := by
  refine mWp_run 2 (t' := (60, [some (.ref 14), some (.int x1), some (.int x2), some (.int x3)], [.ref 14, .ref 14, .long w0, .ref 14, .int u2, .ref 24], h, 0, 0)) rfl ?_
  refine mWp_gf rfl e1 rfl rfl ?_
  refine mWp_run 1 (t' := (64, [some (.ref 14), some (.int x1), some (.int x2), some (.int x3)], [.int x1, .ref 16, .ref 14, .long w0, .ref 14, .int u2, .ref 24], h, 0, 0)) rfl ?_
  refine mWp_ial rfl e2 e3 ?_
  exact mWp_iv rfl rfl e1 rfl rfl rfl rfl k
theorem b195_128 {h : mH} {Q : Option Value → mH → Prop} {x2 : Int32} {v : Int32} {cor : Int32} {bA : Int64} {bB : Int64} {rw : Int32} {bo : Int32} {g101 : Nat → Int64} (e1 : h[14]? = some (oM v cor bA bB rw bo)) (e2 : h[24]? = some (aL 32 g101)) (e3 : ¬ (x2 < 0 ∨ 32 ≤ x2.toNatClampNeg)) (e4 : ¬ ((x2 + (iZ 1)) < 0 ∨ 32 ≤ (x2 + (iZ 1)).toNatClampNeg)) (k : Q (some (.int (x2 + (iZ 2)))) ((h.set 24 (aL 32 (vp_updL g101 (x2.toNatClampNeg) bA))).set 24 (aL 32 (vp_updL (vp_updL g101 (x2.toNatClampNeg) bA) ((x2 + (iZ 1)).toNatClampNeg) bB)))) : mWp mCd 195 (128, [some (.ref 14), none, some (.int x2), none], [], h, 0, 0) Q := by
  refine mWp_run 1 (t' := (129, [some (.ref 14), none, some (.int x2), none], [.ref 14], h, 0, 0)) rfl ?_
  refine mWp_gf rfl e1 rfl rfl ?_
  refine mWp_run 2 (t' := (134, [some (.ref 14), none, some (.int x2), none], [.ref 14, .int x2, .ref 24], h, 0, 0)) rfl ?_
  refine mWp_gf rfl e1 rfl rfl ?_
  refine mWp_las rfl (by decide) e2 e3 ?_
  show mWp mCd 195 (138, [some (.ref 14), none, some (.int x2), none], [], (h.set 24 (aL 32 (vp_updL g101 (x2.toNatClampNeg) bA))), 0, 0) Q
  refine mWp_run 1 (t' := (139, [some (.ref 14), none, some (.int x2), none], [.ref 14], (h.set 24 (aL 32 (vp_updL g101 (x2.toNatClampNeg) bA))), 0, 0)) rfl ?_
  refine mWp_gf rfl (mGn (by decide) e1) rfl rfl ?_
  refine mWp_run 4 (t' := (146, [some (.ref 14), none, some (.int x2), none], [.ref 14, .int (x2 + (iZ 1)), .ref 24], (h.set 24 (aL 32 (vp_updL g101 (x2.toNatClampNeg) bA))), 0, 0)) rfl ?_
  refine mWp_gf rfl (mGn (by decide) e1) rfl rfl ?_
  refine mWp_las rfl (by decide) (mGs e2) e4 ?_
  show mWp mCd 195 (150, [some (.ref 14), none, some (.int x2), none], [], ((h.set 24 (aL 32 (vp_updL g101 (x2.toNatClampNeg) bA))).set 24 (aL 32 (vp_updL (vp_updL g101 (x2.toNatClampNeg) bA) ((x2 + (iZ 1)).toNatClampNeg) bB))), 0, 0) Q
  refine mWp_run 3 (t' := (153, [some (.ref 14), none, some (.int x2), none], [.int (x2 + (iZ 2))], ((h.set 24 (aL 32 (vp_updL g101 (x2.toNatClampNeg) bA))).set 24 (aL 32 (vp_updL (vp_updL g101 (x2.toNatClampNeg) bA) ((x2 + (iZ 1)).toNatClampNeg) bB))), 0, 0)) rfl ?_
  exact mWp_r (v := (some (.int (x2 + (iZ 2))))) rfl k
theorem b195_68 {h : mH} {Q : Option Value → mH → Prop} {x1 : Int32} {x2 : Int32} {x3 : Int32} {w0 : Int64} {w1 : Int64} {u3 : Int32} {v : Int32} {cor : Int32} {bA : Int64} {bB : Int64} {rw : Int32} {bo : Int32} (e1 : h[14]? = some (oM v cor bA bB rw bo)) (k : mCt mCd 161 [.ref 14, .long w1, .long w0, .int (iZ 0)] h (fun rv hv => mWp mCd 195 (72, [some (.ref 14), some (.int x1), some (.int x2), some (.int x3)], rv.toList ++ [.int u3, .ref 24], hv, 0, 0) Q)) : mWp mCd 195 (68, [some (.ref 14), some (.int x1), some (.int x2), some (.int x3)], [.long w0, .long w1, .ref 14, .int u3, .ref 24], h, 0, 0) Q := by
  refine mWp_run 1 (t' := (69, [some (.ref 14), some (.int x1), some (.int x2), some (.int x3)], [.int (iZ 0), .long w0, .long w1, .ref 14, .int u3, .ref 24], h, 0, 0)) rfl ?_
  exact mWp_iv rfl rfl e1 rfl rfl rfl rfl k
theorem b195_72 {h : mH} {Q : Option Value → mH → Prop} {x1 : Int32} {x2 : Int32} {x3 : Int32} {w0 : Int64} {u1 : Int32} {g101 : Nat → Int64} {v : Int32} {cor : Int32} {bA : Int64} {bB : Int64} {rw : Int32} {bo : Int32} (e1 : h[24]? = some (aL 32 g101)) (e2 : ¬ (u1 < 0 ∨ 32 ≤ u1.toNatClampNeg)) (e3 : h[14]? = some (oM v cor bA bB rw bo)) (k : mCt mCd 166 [.ref 14, .int x1, .int x3] (h.set 24 (aL 32 (vp_updL g101 (u1.toNatClampNeg) w0))) (fun rv hv => mWp mCd 195 (87, [some (.ref 14), some (.int x1), some (.int x2), some (.int x3)], rv.toList ++ [.ref 14, .int (x2 + (iZ 1)), .ref 24], hv, 0, 0) Q)) : mWp mCd 195 (72, [some (.ref 14), some (.int x1), some (.int x2), some (.int x3)], [.long w0, .int u1, .ref 24], h, 0, 0) Q := by
  refine mWp_las rfl (by decide) e1 e2 ?_
  show mWp mCd 195 (73, [some (.ref 14), some (.int x1), some (.int x2), some (.int x3)], [], (h.set 24 (aL 32 (vp_updL g101 (u1.toNatClampNeg) w0))), 0, 0) Q
  refine mWp_run 1 (t' := (74, [some (.ref 14), some (.int x1), some (.int x2), some (.int x3)], [.ref 14], (h.set 24 (aL 32 (vp_updL g101 (u1.toNatClampNeg) w0))), 0, 0)) rfl ?_
  refine mWp_gf rfl (mGn (by decide) e3) rfl rfl ?_
  refine mWp_run 7 (t' := (84, [some (.ref 14), some (.int x1), some (.int x2), some (.int x3)], [.int x3, .int x1, .ref 14, .ref 14, .int (x2 + (iZ 1)), .ref 24], (h.set 24 (aL 32 (vp_updL g101 (u1.toNatClampNeg) w0))), 0, 0)) rfl ?_
  exact mWp_iv rfl rfl (mGn (by decide) e3) rfl rfl rfl rfl k
theorem b195_87 {h : mH} {Q : Option Value → mH → Prop} {x1 : Int32} {x2 : Int32} {x3 : Int32} {w0 : Int64} {u2 : Int32} {v : Int32} {cor : Int32} {bA : Int64} {bB : Int64} {rw : Int32} {bo : Int32} {g101 : Nat → Int32} (e1 : h[14]? = some (oM v cor bA bB rw bo)) (e2 : h[16]? = some (aI 11 g101)) (e3 : ¬ (x1 < 0 ∨ 11 ≤ x1.toNatClampNeg)) (k : mCt mCd 165 [.ref 14, .int (g101 x1.toNatClampNeg)] h (fun rv hv => mWp mCd 195 (97, [some (.ref 14), some (.int x1), some (.int x2), some (.int x3)], rv.toList ++ [.long w0, .ref 14, .int u2, .ref 24], hv, 0, 0) Q)) : mWp mCd 195 (87, [some (.ref 14), some (.int x1), some (.int x2), some (.int x3)], [.long w0, .ref 14, .int u2, .ref 24], h, 0, 0) Q := by
  refine mWp_run 2 (t' := (89, [some (.ref 14), some (.int x1), some (.int x2), some (.int x3)], [.ref 14, .ref 14, .long w0, .ref 14, .int u2, .ref 24], h, 0, 0)) rfl ?_
  refine mWp_gf rfl e1 rfl rfl ?_
  refine mWp_run 1 (t' := (93, [some (.ref 14), some (.int x1), some (.int x2), some (.int x3)], [.int x1, .ref 16, .ref 14, .long w0, .ref 14, .int u2, .ref 24], h, 0, 0)) rfl ?_
  refine mWp_ial rfl e2 e3 ?_
  exact mWp_iv rfl rfl e1 rfl rfl rfl rfl k
theorem b195_97 {h : mH} {Q : Option Value → mH → Prop} {x1 : Int32} {x2 : Int32} {x3 : Int32} {w0 : Int64} {w1 : Int64} {u3 : Int32} {v : Int32} {cor : Int32} {bA : Int64} {bB : Int64} {rw : Int32} {bo : Int32} (e1 : h[14]? = some (oM v cor bA bB rw bo)) (k : mCt mCd 161 [.ref 14, .long w1, .long w0, .int (iZ 1)] h (fun rv hv => mWp mCd 195 (101, [some (.ref 14), some (.int x1), some (.int x2), some (.int x3)], rv.toList ++ [.int u3, .ref 24], hv, 0, 0) Q)) : mWp mCd 195 (97, [some (.ref 14), some (.int x1), some (.int x2), some (.int x3)], [.long w0, .long w1, .ref 14, .int u3, .ref 24], h, 0, 0) Q := by
  refine mWp_run 1 (t' := (98, [some (.ref 14), some (.int x1), some (.int x2), some (.int x3)], [.int (iZ 1), .long w0, .long w1, .ref 14, .int u3, .ref 24], h, 0, 0)) rfl ?_
  exact mWp_iv rfl rfl e1 rfl rfl rfl rfl k
theorem b195_101 {h : mH} {Q : Option Value → mH → Prop} {x1 : Int32} {x2 : Int32} {x3 : Int32} {w0 : Int64} {u1 : Int32} {g101 : Nat → Int64} (e1 : h[24]? = some (aL 32 g101)) (e2 : ¬ (u1 < 0 ∨ 32 ≤ u1.toNatClampNeg)) (k : mWp mCd 195 (36, [some (.ref 14), some (.int x1), some (.int (x2 + iZ 2)), some (.int (x3 + iZ 1))], [], (h.set 24 (aL 32 (vp_updL g101 (u1.toNatClampNeg) w0))), 0, 0) Q) : mWp mCd 195 (101, [some (.ref 14), some (.int x1), some (.int x2), some (.int x3)], [.long w0, .int u1, .ref 24], h, 0, 0) Q := by
  refine mWp_las rfl (by decide) e1 e2 ?_
  show mWp mCd 195 (102, [some (.ref 14), some (.int x1), some (.int x2), some (.int x3)], [], (h.set 24 (aL 32 (vp_updL g101 (u1.toNatClampNeg) w0))), 0, 0) Q
  refine mWp_run 3 (t' := (36, [some (.ref 14), some (.int x1), some (.int (x2 + iZ 2)), some (.int (x3 + iZ 1))], [], (h.set 24 (aL 32 (vp_updL g101 (u1.toNatClampNeg) w0))), 0, 0)) rfl ?_
  exact k
theorem b196_0 {h : mH} {Q : Option Value → mH → Prop} {x1 : Int32} {v : Int32} {cor : Int32} {bA : Int64} {bB : Int64} {rw : Int32} {bo : Int32} (e1 : h[14]? = some (oM v cor bA bB rw bo)) (k : mCt mCd 138 [.ref 14, .int x1] h (fun rv hv => mWp mCd 196 (5, [some (.ref 14), some (.int x1), none], rv.toList ++ [], hv, 0, 0) Q)) : mWp mCd 196 (0, [some (.ref 14), some (.int x1), none], [], h, 0, 0) Q := by
  refine mWp_run 2 (t' := (2, [some (.ref 14), some (.int x1), none], [.int x1, .ref 14], h, 0, 0)) rfl ?_
  exact mWp_iv rfl rfl e1 rfl rfl rfl rfl k
theorem b196_5 {h : mH} {Q : Option Value → mH → Prop} {x1 : Int32} {u0 : Int32}  (k1 : ¬ u0 = 0 → mWp mCd 196 (11, [some (.ref 14), some (.int x1), none], [], h, 0, 0) Q) (k2 : ¬ (¬ u0 = 0) → mWp mCd 196 (8, [none, none, none], [], h, 0, 0) Q) : mWp mCd 196 (5, [some (.ref 14), some (.int x1), none], [.int u0], h, 0, 0) Q := by
  exact mWp_if (P := fun x => ¬ x = 0) (a := u0) rfl k1 (fun q => mWp_weak (mLe_n (mLe_n (mLe_n mLe_0))) (k2 q))
theorem b196_11 {h : mH} {Q : Option Value → mH → Prop} {x1 : Int32} {v : Int32} {cor : Int32} {bA : Int64} {bB : Int64} {rw : Int32} {bo : Int32} (e1 : h[14]? = some (oM v cor bA bB rw bo)) (k : mCt mCd 195 [.ref 14, .int x1] h (fun rv hv => mWp mCd 196 (17, [some (.ref 14), none, none], rv.toList ++ [.ref 14], hv, 0, 0) Q)) : mWp mCd 196 (11, [some (.ref 14), some (.int x1), none], [], h, 0, 0) Q := by
  refine mWp_run 3 (t' := (14, [some (.ref 14), some (.int x1), none], [.int x1, .ref 14, .ref 14], h, 0, 0)) rfl ?_
  exact mWp_iv rfl rfl e1 rfl rfl rfl rfl (mCt_mono k (fun rv hv y => mWp_weak (mLe_s (mLe_n (mLe_n mLe_0))) y))
theorem b196_8 {h : mH} {Q : Option Value → mH → Prop}   (k : Q (some (.int (iZ (-2)))) h) : mWp mCd 196 (8, [none, none, none], [], h, 0, 0) Q := by
  refine mWp_run 1 (t' := (10, [none, none, none], [.int (iZ (-2))], h, 0, 0)) rfl ?_
  exact mWp_r (v := (some (.int (iZ (-2))))) rfl k
theorem b196_17 {h : mH} {Q : Option Value → mH → Prop} {u0 : Int32} {v : Int32} {cor : Int32} {bA : Int64} {bB : Int64} {rw : Int32} {bo : Int32} (e1 : h[14]? = some (oM v cor bA bB rw bo)) (k : mWp mCd 196 (22, [some (.ref 14), none, some (.int (iZ 0))], [], (h.set 14 (oM v cor bA bB u0 bo)), 0, 0) Q) : mWp mCd 196 (17, [some (.ref 14), none, none], [.int u0, .ref 14], h, 0, 0) Q := by
  refine mWp_pf rfl e1 rfl rfl rfl ?_
  show mWp mCd 196 (20, [some (.ref 14), none, none], [], (h.set 14 (oM v cor bA bB u0 bo)), 0, 0) Q
  refine mWp_run 2 (t' := (22, [some (.ref 14), none, some (.int (iZ 0))], [], (h.set 14 (oM v cor bA bB u0 bo)), 0, 0)) rfl ?_
  exact k
theorem b196_22 {h : mH} {Q : Option Value → mH → Prop} {x2 : Int32} {v : Int32} {cor : Int32} {bA : Int64} {bB : Int64} {rw : Int32} {bo : Int32} (e1 : h[14]? = some (oM v cor bA bB rw bo)) (k1 : rw ≤ x2 → mWp mCd 196 (48, [some (.ref 14), none, none], [], h, 0, 0) Q) (k2 : ¬ (rw ≤ x2) → mWp mCd 196 (30, [some (.ref 14), none, some (.int x2)], [], h, 0, 0) Q) : mWp mCd 196 (22, [some (.ref 14), none, some (.int x2)], [], h, 0, 0) Q := by
  refine mWp_run 2 (t' := (24, [some (.ref 14), none, some (.int x2)], [.ref 14, .int x2], h, 0, 0)) rfl ?_
  refine mWp_gf rfl e1 rfl rfl ?_
  exact mWp_ic (P := fun x y => y ≤ x) (a := x2) (b := rw) rfl (fun q => mWp_weak (mLe_s (mLe_n (mLe_n mLe_0))) (k1 q)) k2
theorem b196_48 {h : mH} {Q : Option Value → mH → Prop} {v : Int32} {cor : Int32} {bA : Int64} {bB : Int64} {rw : Int32} {bo : Int32} (e1 : h[14]? = some (oM v cor bA bB rw bo)) (k : Q (some (.int rw)) h) : mWp mCd 196 (48, [some (.ref 14), none, none], [], h, 0, 0) Q := by
  refine mWp_run 1 (t' := (49, [some (.ref 14), none, none], [.ref 14], h, 0, 0)) rfl ?_
  refine mWp_gf rfl e1 rfl rfl ?_
  exact mWp_r (v := (some (.int rw))) rfl k
theorem b196_30 {h : mH} {Q : Option Value → mH → Prop} {x2 : Int32} {v : Int32} {cor : Int32} {bA : Int64} {bB : Int64} {rw : Int32} {bo : Int32} {g101 : Nat → Int64} {g102 : Nat → Int64} (e1 : h[14]? = some (oM v cor bA bB rw bo)) (e2 : h[24]? = some (aL 32 g101)) (e3 : ¬ (x2 < 0 ∨ 32 ≤ x2.toNatClampNeg)) (e4 : h[23]? = some (aL 32 g102)) (k : mWp mCd 196 (22, [some (.ref 14), none, some (.int (x2 + iZ 1))], [], (h.set 23 (aL 32 (vp_updL g102 (x2.toNatClampNeg) (g101 x2.toNatClampNeg)))), 0, 0) Q) : mWp mCd 196 (30, [some (.ref 14), none, some (.int x2)], [], h, 0, 0) Q := by
  refine mWp_run 1 (t' := (31, [some (.ref 14), none, some (.int x2)], [.ref 14], h, 0, 0)) rfl ?_
  refine mWp_gf rfl e1 rfl rfl ?_
  refine mWp_run 2 (t' := (36, [some (.ref 14), none, some (.int x2)], [.ref 14, .int x2, .ref 23], h, 0, 0)) rfl ?_
  refine mWp_gf rfl e1 rfl rfl ?_
  refine mWp_run 1 (t' := (40, [some (.ref 14), none, some (.int x2)], [.int x2, .ref 24, .int x2, .ref 23], h, 0, 0)) rfl ?_
  refine mWp_lal rfl e2 e3 ?_
  refine mWp_las rfl (by decide) e4 e3 ?_
  show mWp mCd 196 (42, [some (.ref 14), none, some (.int x2)], [], (h.set 23 (aL 32 (vp_updL g102 (x2.toNatClampNeg) (g101 x2.toNatClampNeg)))), 0, 0) Q
  refine mWp_run 2 (t' := (22, [some (.ref 14), none, some (.int (x2 + iZ 1))], [], (h.set 23 (aL 32 (vp_updL g102 (x2.toNatClampNeg) (g101 x2.toNatClampNeg)))), 0, 0)) rfl ?_
  exact k
theorem b197_0 {h : mH} {Q : Option Value → mH → Prop} {x1 : Int32} {v : Int32} {cor : Int32} {bA : Int64} {bB : Int64} {rw : Int32} {bo : Int32} (e1 : h[14]? = some (oM v cor bA bB rw bo)) (k : mCt mCd 137 [.ref 14, .int x1, .int (iZ 0), .int (rw - (iZ 1))] h (fun rv hv => mWp mCd 197 (12, [some (.ref 14), some (.int x1)], rv.toList ++ [], hv, 0, 0) Q)) : mWp mCd 197 (0, [some (.ref 14), some (.int x1)], [], h, 0, 0) Q := by
  refine mWp_run 4 (t' := (4, [some (.ref 14), some (.int x1)], [.ref 14, .int (iZ 0), .int x1, .ref 14], h, 0, 0)) rfl ?_
  refine mWp_gf rfl e1 rfl rfl ?_
  refine mWp_run 2 (t' := (9, [some (.ref 14), some (.int x1)], [.int (rw - (iZ 1)), .int (iZ 0), .int x1, .ref 14], h, 0, 0)) rfl ?_
  exact mWp_iv rfl rfl e1 rfl rfl rfl rfl k
theorem b197_12 {h : mH} {Q : Option Value → mH → Prop} {x1 : Int32} {u0 : Int32}  (k1 : u0 = 0 → mWp mCd 197 (24, [none, none], [], h, 0, 0) Q) (k2 : ¬ (u0 = 0) → mWp mCd 197 (15, [some (.ref 14), some (.int x1)], [], h, 0, 0) Q) : mWp mCd 197 (12, [some (.ref 14), some (.int x1)], [.int u0], h, 0, 0) Q := by
  exact mWp_if (P := fun x => x = 0) (a := u0) rfl (fun q => mWp_weak (mLe_n (mLe_n mLe_0)) (k1 q)) k2
theorem b197_24 {h : mH} {Q : Option Value → mH → Prop}   (k : Q (some (.long (lZ (-4611686018427387904)))) h) : mWp mCd 197 (24, [none, none], [], h, 0, 0) Q := by
  refine mWp_run 1 (t' := (27, [none, none], [.long (lZ (-4611686018427387904))], h, 0, 0)) rfl ?_
  exact mWp_r (v := (some (.long (lZ (-4611686018427387904))))) rfl k
theorem b197_15 {h : mH} {Q : Option Value → mH → Prop} {x1 : Int32} {v : Int32} {cor : Int32} {bA : Int64} {bB : Int64} {rw : Int32} {bo : Int32} {g101 : Nat → Int64} (e1 : h[14]? = some (oM v cor bA bB rw bo)) (e2 : h[23]? = some (aL 32 g101)) (e3 : ¬ (x1 < 0 ∨ 32 ≤ x1.toNatClampNeg)) (k : Q (some (.long (g101 x1.toNatClampNeg))) h) : mWp mCd 197 (15, [some (.ref 14), some (.int x1)], [], h, 0, 0) Q := by
  refine mWp_run 1 (t' := (16, [some (.ref 14), some (.int x1)], [.ref 14], h, 0, 0)) rfl ?_
  refine mWp_gf rfl e1 rfl rfl ?_
  refine mWp_run 1 (t' := (20, [some (.ref 14), some (.int x1)], [.int x1, .ref 23], h, 0, 0)) rfl ?_
  refine mWp_lal rfl e2 e3 ?_
  refine mWp_run 1 (t' := (27, [some (.ref 14), some (.int x1)], [.long (g101 x1.toNatClampNeg)], h, 0, 0)) rfl ?_
  exact mWp_r (v := (some (.long (g101 x1.toNatClampNeg)))) rfl k
theorem b198_0 {h : mH} {Q : Option Value → mH → Prop} {x1 : Int32} {y2 : Int64} {v : Int32} {cor : Int32} {bA : Int64} {bB : Int64} {rw : Int32} {bo : Int32} (e1 : h[14]? = some (oM v cor bA bB rw bo)) (k : mCt mCd 137 [.ref 14, .int x1, .int (iZ 0), .int (rw - (iZ 1))] h (fun rv hv => mWp mCd 198 (12, [some (.ref 14), some (.int x1), some (.long y2), none], rv.toList ++ [], hv, 0, 0) Q)) : mWp mCd 198 (0, [some (.ref 14), some (.int x1), some (.long y2), none], [], h, 0, 0) Q := by
  refine mWp_run 4 (t' := (4, [some (.ref 14), some (.int x1), some (.long y2), none], [.ref 14, .int (iZ 0), .int x1, .ref 14], h, 0, 0)) rfl ?_
  refine mWp_gf rfl e1 rfl rfl ?_
  refine mWp_run 2 (t' := (9, [some (.ref 14), some (.int x1), some (.long y2), none], [.int (rw - (iZ 1)), .int (iZ 0), .int x1, .ref 14], h, 0, 0)) rfl ?_
  exact mWp_iv rfl rfl e1 rfl rfl rfl rfl k
theorem b198_12 {h : mH} {Q : Option Value → mH → Prop} {x1 : Int32} {y2 : Int64} {u0 : Int32}  (k1 : ¬ u0 = 0 → mWp mCd 198 (18, [some (.ref 14), some (.int x1), some (.long y2), none], [], h, 0, 0) Q) (k2 : ¬ (¬ u0 = 0) → mWp mCd 198 (15, [none, none, none, none], [], h, 0, 0) Q) : mWp mCd 198 (12, [some (.ref 14), some (.int x1), some (.long y2), none], [.int u0], h, 0, 0) Q := by
  exact mWp_if (P := fun x => ¬ x = 0) (a := u0) rfl k1 (fun q => mWp_weak (mLe_n (mLe_n (mLe_n (mLe_n mLe_0)))) (k2 q))
theorem b198_18 {h : mH} {Q : Option Value → mH → Prop} {x1 : Int32} {y2 : Int64} {v : Int32} {cor : Int32} {bA : Int64} {bB : Int64} {rw : Int32} {bo : Int32} {g101 : Nat → Int64} (e1 : h[14]? = some (oM v cor bA bB rw bo)) (e2 : h[23]? = some (aL 32 g101)) (e3 : ¬ (x1 < 0 ∨ 32 ≤ x1.toNatClampNeg)) (k : Q (some (.int (iZ 1))) (h.set 23 (aL 32 (vp_updL g101 (x1.toNatClampNeg) y2)))) : mWp mCd 198 (18, [some (.ref 14), some (.int x1), some (.long y2), none], [], h, 0, 0) Q := by
  refine mWp_run 1 (t' := (19, [some (.ref 14), some (.int x1), some (.long y2), none], [.ref 14], h, 0, 0)) rfl ?_
  refine mWp_gf rfl e1 rfl rfl ?_
  refine mWp_run 2 (t' := (24, [some (.ref 14), some (.int x1), some (.long y2), none], [.long y2, .int x1, .ref 23], h, 0, 0)) rfl ?_
  refine mWp_las rfl (by decide) e2 e3 ?_
  show mWp mCd 198 (25, [some (.ref 14), some (.int x1), some (.long y2), none], [], (h.set 23 (aL 32 (vp_updL g101 (x1.toNatClampNeg) y2))), 0, 0) Q
  refine mWp_run 1 (t' := (26, [some (.ref 14), some (.int x1), some (.long y2), none], [.int (iZ 1)], (h.set 23 (aL 32 (vp_updL g101 (x1.toNatClampNeg) y2))), 0, 0)) rfl ?_
  exact mWp_r (v := (some (.int (iZ 1)))) rfl k
theorem b198_15 {h : mH} {Q : Option Value → mH → Prop}   (k : Q (some (.int (iZ (-2)))) h) : mWp mCd 198 (15, [none, none, none, none], [], h, 0, 0) Q := by
  refine mWp_run 1 (t' := (17, [none, none, none, none], [.int (iZ (-2))], h, 0, 0)) rfl ?_
  exact mWp_r (v := (some (.int (iZ (-2))))) rfl k
theorem b199_0 {h : mH} {Q : Option Value → mH → Prop} {x1 : Int32} {v : Int32} {cor : Int32} {bA : Int64} {bB : Int64} {rw : Int32} {bo : Int32} (e1 : h[14]? = some (oM v cor bA bB rw bo)) (k : mCt mCd 138 [.ref 14, .int x1] h (fun rv hv => mWp mCd 199 (5, [some (.ref 14), some (.int x1), none, none], rv.toList ++ [], hv, 0, 0) Q)) : mWp mCd 199 (0, [some (.ref 14), some (.int x1), none, none], [], h, 0, 0) Q := by
  refine mWp_run 2 (t' := (2, [some (.ref 14), some (.int x1), none, none], [.int x1, .ref 14], h, 0, 0)) rfl ?_
  exact mWp_iv rfl rfl e1 rfl rfl rfl rfl k
theorem b199_5 {h : mH} {Q : Option Value → mH → Prop} {x1 : Int32} {u0 : Int32}  (k1 : ¬ u0 = 0 → mWp mCd 199 (11, [some (.ref 14), some (.int x1), none, none], [], h, 0, 0) Q) (k2 : ¬ (¬ u0 = 0) → mWp mCd 199 (8, [none, none, none, none], [], h, 0, 0) Q) : mWp mCd 199 (5, [some (.ref 14), some (.int x1), none, none], [.int u0], h, 0, 0) Q := by
  exact mWp_if (P := fun x => ¬ x = 0) (a := u0) rfl k1 (fun q => mWp_weak (mLe_n (mLe_n (mLe_n (mLe_n mLe_0)))) (k2 q))
theorem b199_11 {h : mH} {Q : Option Value → mH → Prop} {x1 : Int32} {v : Int32} {cor : Int32} {bA : Int64} {bB : Int64} {rw : Int32} {bo : Int32} (e1 : h[14]? = some (oM v cor bA bB rw bo)) (k : mCt mCd 195 [.ref 14, .int x1] h (fun rv hv => mWp mCd 199 (16, [some (.ref 14), none, none, none], rv.toList ++ [], hv, 0, 0) Q)) : mWp mCd 199 (11, [some (.ref 14), some (.int x1), none, none], [], h, 0, 0) Q := by
  refine mWp_run 2 (t' := (13, [some (.ref 14), some (.int x1), none, none], [.int x1, .ref 14], h, 0, 0)) rfl ?_
  exact mWp_iv rfl rfl e1 rfl rfl rfl rfl (mCt_mono k (fun rv hv y => mWp_weak (mLe_s (mLe_n (mLe_n (mLe_n mLe_0)))) y))
theorem b199_8 {h : mH} {Q : Option Value → mH → Prop}   (k : Q (some (.int (iZ (-2)))) h) : mWp mCd 199 (8, [none, none, none, none], [], h, 0, 0) Q := by
  refine mWp_run 1 (t' := (10, [none, none, none, none], [.int (iZ (-2))], h, 0, 0)) rfl ?_
  exact mWp_r (v := (some (.int (iZ (-2))))) rfl k
theorem b199_16 {h : mH} {Q : Option Value → mH → Prop} {u0 : Int32}  (k : mWp mCd 199 (19, [some (.ref 14), none, some (.int u0), some (.int (iZ 0))], [], h, 0, 0) Q) : mWp mCd 199 (16, [some (.ref 14), none, none, none], [.int u0], h, 0, 0) Q := by
  refine mWp_run 3 (t' := (19, [some (.ref 14), none, some (.int u0), some (.int (iZ 0))], [], h, 0, 0)) rfl ?_
  exact k
theorem b199_19 {h : mH} {Q : Option Value → mH → Prop} {x2 : Int32} {x3 : Int32}  (k1 : x3 < x2 → mWp mCd 199 (32, [some (.ref 14), none, some (.int x2), some (.int x3)], [], h, 0, 0) Q) (k2 : ¬ (x3 < x2) → mWp mCd 199 (24, [some (.ref 14), none, some (.int x2), some (.int x3)], [], h, 0, 0) Q) : mWp mCd 199 (19, [some (.ref 14), none, some (.int x2), some (.int x3)], [], h, 0, 0) Q := by
  refine mWp_run 2 (t' := (21, [some (.ref 14), none, some (.int x2), some (.int x3)], [.int x2, .int x3], h, 0, 0)) rfl ?_
  exact mWp_ic (P := fun x y => x < y) (a := x3) (b := x2) rfl k1 k2
theorem b199_32 {h : mH} {Q : Option Value → mH → Prop} {x2 : Int32} {x3 : Int32}  (k1 : x2 ≤ x3 → mWp mCd 199 (61, [none, none, none, some (.int x3)], [], h, 0, 0) Q) (k2 : ¬ (x2 ≤ x3) → mWp mCd 199 (37, [some (.ref 14), none, some (.int x2), some (.int x3)], [], h, 0, 0) Q) : mWp mCd 199 (32, [some (.ref 14), none, some (.int x2), some (.int x3)], [], h, 0, 0) Q := by
  refine mWp_run 2 (t' := (34, [some (.ref 14), none, some (.int x2), some (.int x3)], [.int x2, .int x3], h, 0, 0)) rfl ?_
  exact mWp_ic (P := fun x y => y ≤ x) (a := x3) (b := x2) rfl (fun q => mWp_weak (mLe_n (mLe_n (mLe_n (mLe_s mLe_0)))) (k1 q)) k2
theorem b199_24 {h : mH} {Q : Option Value → mH → Prop} {x2 : Int32} {x3 : Int32} {v : Int32} {cor : Int32} {bA : Int64} {bB : Int64} {rw : Int32} {bo : Int32} (e1 : h[14]? = some (oM v cor bA bB rw bo)) (k1 : rw ≤ x3 → mWp mCd 199 (69, [none, none, none, none], [], h, 0, 0) Q) (k2 : ¬ (rw ≤ x3) → mWp mCd 199 (32, [some (.ref 14), none, some (.int x2), some (.int x3)], [], h, 0, 0) Q) : mWp mCd 199 (24, [some (.ref 14), none, some (.int x2), some (.int x3)], [], h, 0, 0) Q := by
  refine mWp_run 2 (t' := (26, [some (.ref 14), none, some (.int x2), some (.int x3)], [.ref 14, .int x3], h, 0, 0)) rfl ?_
  refine mWp_gf rfl e1 rfl rfl ?_
  exact mWp_ic (P := fun x y => y ≤ x) (a := x3) (b := rw) rfl (fun q => mWp_weak (mLe_n (mLe_n (mLe_n (mLe_n mLe_0)))) (k1 q)) k2
theorem b199_61 {h : mH} {Q : Option Value → mH → Prop} {x3 : Int32}  (k : Q (some (.int x3)) h) : mWp mCd 199 (61, [none, none, none, some (.int x3)], [], h, 0, 0) Q := by
  refine mWp_run 1 (t' := (62, [none, none, none, some (.int x3)], [.int x3], h, 0, 0)) rfl ?_
  exact mWp_r (v := (some (.int x3))) rfl k
theorem b199_37 {h : mH} {Q : Option Value → mH → Prop} {x2 : Int32} {x3 : Int32} {v : Int32} {cor : Int32} {bA : Int64} {bB : Int64} {rw : Int32} {bo : Int32} (e1 : h[14]? = some (oM v cor bA bB rw bo)) (k1 : rw ≤ x3 → mWp mCd 199 (61, [none, none, none, some (.int x3)], [], h, 0, 0) Q) (k2 : ¬ (rw ≤ x3) → mWp mCd 199 (45, [some (.ref 14), none, some (.int x2), some (.int x3)], [], h, 0, 0) Q) : mWp mCd 199 (37, [some (.ref 14), none, some (.int x2), some (.int x3)], [], h, 0, 0) Q := by
  refine mWp_run 2 (t' := (39, [some (.ref 14), none, some (.int x2), some (.int x3)], [.ref 14, .int x3], h, 0, 0)) rfl ?_
  refine mWp_gf rfl e1 rfl rfl ?_
  exact mWp_ic (P := fun x y => y ≤ x) (a := x3) (b := rw) rfl (fun q => mWp_weak (mLe_n (mLe_n (mLe_n (mLe_s mLe_0)))) (k1 q)) k2
theorem b199_69 {h : mH} {Q : Option Value → mH → Prop}   (k : Q (some (.int (iZ (-1)))) h) : mWp mCd 199 (69, [none, none, none, none], [], h, 0, 0) Q := by
  refine mWp_run 1 (t' := (70, [none, none, none, none], [.int (iZ (-1))], h, 0, 0)) rfl ?_
  exact mWp_r (v := (some (.int (iZ (-1))))) rfl k
theorem b199_45 {h : mH} {Q : Option Value → mH → Prop} {x2 : Int32} {x3 : Int32} {v : Int32} {cor : Int32} {bA : Int64} {bB : Int64} {rw : Int32} {bo : Int32} {g101 : Nat → Int64} {g102 : Nat → Int64} (e1 : h[14]? = some (oM v cor bA bB rw bo)) (e2 : h[23]? = some (aL 32 g101)) (e3 : ¬ (x3 < 0 ∨ 32 ≤ x3.toNatClampNeg)) (e4 : h[24]? = some (aL 32 g102)) (k1 : (lg_cmp (g101 x3.toNatClampNeg) (g102 x3.toNatClampNeg)) = 0 → mWp mCd 199 (63, [some (.ref 14), none, some (.int x2), some (.int x3)], [], h, 0, 0) Q) (k2 : ¬ ((lg_cmp (g101 x3.toNatClampNeg) (g102 x3.toNatClampNeg)) = 0) → mWp mCd 199 (61, [none, none, none, some (.int x3)], [], h, 0, 0) Q) : mWp mCd 199 (45, [some (.ref 14), none, some (.int x2), some (.int x3)], [], h, 0, 0) Q := by
  refine mWp_run 1 (t' := (46, [some (.ref 14), none, some (.int x2), some (.int x3)], [.ref 14], h, 0, 0)) rfl ?_
  refine mWp_gf rfl e1 rfl rfl ?_
  refine mWp_run 1 (t' := (50, [some (.ref 14), none, some (.int x2), some (.int x3)], [.int x3, .ref 23], h, 0, 0)) rfl ?_
  refine mWp_lal rfl e2 e3 ?_
  refine mWp_run 1 (t' := (52, [some (.ref 14), none, some (.int x2), some (.int x3)], [.ref 14, .long (g101 x3.toNatClampNeg)], h, 0, 0)) rfl ?_
  refine mWp_gf rfl e1 rfl rfl ?_
  refine mWp_run 1 (t' := (56, [some (.ref 14), none, some (.int x2), some (.int x3)], [.int x3, .ref 24, .long (g101 x3.toNatClampNeg)], h, 0, 0)) rfl ?_
  refine mWp_lal rfl e4 e3 ?_
  refine mWp_run 1 (t' := (58, [some (.ref 14), none, some (.int x2), some (.int x3)], [.int (lg_cmp (g101 x3.toNatClampNeg) (g102 x3.toNatClampNeg))], h, 0, 0)) rfl ?_
  exact mWp_if (P := fun x => x = 0) (a := lg_cmp (g101 x3.toNatClampNeg) (g102 x3.toNatClampNeg)) rfl k1 (fun q => mWp_weak (mLe_n (mLe_n (mLe_n (mLe_s mLe_0)))) (k2 q))
theorem b199_63 {h : mH} {Q : Option Value → mH → Prop} {x2 : Int32} {x3 : Int32}  (k : mWp mCd 199 (19, [some (.ref 14), none, some (.int x2), some (.int (x3 + iZ 1))], [], h, 0, 0) Q) : mWp mCd 199 (63, [some (.ref 14), none, some (.int x2), some (.int x3)], [], h, 0, 0) Q := by
  refine mWp_run 2 (t' := (19, [some (.ref 14), none, some (.int x2), some (.int (x3 + iZ 1))], [], h, 0, 0)) rfl ?_
  exact k
theorem b200_0 {h : mH} {Q : Option Value → mH → Prop} {x1 : Int32} {v : Int32} {cor : Int32} {bA : Int64} {bB : Int64} {rw : Int32} {bo : Int32} (e1 : h[14]? = some (oM v cor bA bB rw bo)) (k1 : (iZ 40) ≤ bo → mWp mCd 200 (19, [some (.ref 14), none], [], h, 0, 0) Q) (k2 : ¬ ((iZ 40) ≤ bo) → mWp mCd 200 (9, [some (.ref 14), some (.int x1)], [], h, 0, 0) Q) : mWp mCd 200 (0, [some (.ref 14), some (.int x1)], [], h, 0, 0) Q := by
  refine mWp_run 1 (t' := (1, [some (.ref 14), some (.int x1)], [.ref 14], h, 0, 0)) rfl ?_
  refine mWp_gf rfl e1 rfl rfl ?_
  refine mWp_run 1 (t' := (6, [some (.ref 14), some (.int x1)], [.int (iZ 40), .int bo], h, 0, 0)) rfl ?_
  exact mWp_ic (P := fun x y => y ≤ x) (a := bo) (b := iZ 40) rfl (fun q => mWp_weak (mLe_s (mLe_n mLe_0)) (k1 q)) k2
theorem b200_19 {h : mH} {Q : Option Value → mH → Prop} {v : Int32} {cor : Int32} {bA : Int64} {bB : Int64} {rw : Int32} {bo : Int32} (e1 : h[14]? = some (oM v cor bA bB rw bo)) (k : Q none (h.set 14 (oM v cor bA bB rw (bo + (iZ 1))))) : mWp mCd 200 (19, [some (.ref 14), none], [], h, 0, 0) Q := by
  refine mWp_run 2 (t' := (21, [some (.ref 14), none], [.ref 14, .ref 14], h, 0, 0)) rfl ?_
  refine mWp_gf rfl e1 rfl rfl ?_
  refine mWp_run 2 (t' := (26, [some (.ref 14), none], [.int (bo + (iZ 1)), .ref 14], h, 0, 0)) rfl ?_
  refine mWp_pf rfl e1 rfl rfl rfl ?_
  show mWp mCd 200 (29, [some (.ref 14), none], [], (h.set 14 (oM v cor bA bB rw (bo + (iZ 1)))), 0, 0) Q
  exact mWp_r (v := none) rfl k
theorem b200_9 {h : mH} {Q : Option Value → mH → Prop} {x1 : Int32} {v : Int32} {cor : Int32} {bA : Int64} {bB : Int64} {rw : Int32} {bo : Int32} {g101 : Nat → Int32} (e1 : h[14]? = some (oM v cor bA bB rw bo)) (e2 : h[25]? = some (aI 40 g101)) (e3 : ¬ (bo < 0 ∨ 40 ≤ bo.toNatClampNeg)) (k : mWp mCd 200 (19, [some (.ref 14), none], [], (h.set 25 (aI 40 (upd g101 (bo.toNatClampNeg) x1))), 0, 0) Q) : mWp mCd 200 (9, [some (.ref 14), some (.int x1)], [], h, 0, 0) Q := by
  refine mWp_run 1 (t' := (10, [some (.ref 14), some (.int x1)], [.ref 14], h, 0, 0)) rfl ?_
  refine mWp_gf rfl e1 rfl rfl ?_
  refine mWp_run 1 (t' := (14, [some (.ref 14), some (.int x1)], [.ref 14, .ref 25], h, 0, 0)) rfl ?_
  refine mWp_gf rfl e1 rfl rfl ?_
  refine mWp_run 1 (t' := (18, [some (.ref 14), some (.int x1)], [.int x1, .int bo, .ref 25], h, 0, 0)) rfl ?_
  refine mWp_ias rfl (by decide) e2 e3 ?_
  show mWp mCd 200 (19, [some (.ref 14), some (.int x1)], [], (h.set 25 (aI 40 (upd g101 (bo.toNatClampNeg) x1))), 0, 0) Q
  exact mWp_weak (mLe_s (mLe_n mLe_0)) k
theorem b201_0 {h : mH} {Q : Option Value → mH → Prop} {x1 : Int32} {x2 : Int32} {v : Int32} {cor : Int32} {bA : Int64} {bB : Int64} {rw : Int32} {bo : Int32} (e1 : h[14]? = some (oM v cor bA bB rw bo)) (k : mCt mCd 200 [.ref 14, .int (iZ 10)] h (fun rv hv => mWp mCd 201 (6, [some (.ref 14), some (.int x1), some (.int x2)], rv.toList ++ [], hv, 0, 0) Q)) : mWp mCd 201 (0, [some (.ref 14), some (.int x1), some (.int x2)], [], h, 0, 0) Q := by
  refine mWp_run 2 (t' := (3, [some (.ref 14), some (.int x1), some (.int x2)], [.int (iZ 10), .ref 14], h, 0, 0)) rfl ?_
  exact mWp_iv rfl rfl e1 rfl rfl rfl rfl k
theorem b201_6 {h : mH} {Q : Option Value → mH → Prop} {x1 : Int32} {x2 : Int32} {v : Int32} {cor : Int32} {bA : Int64} {bB : Int64} {rw : Int32} {bo : Int32} (e1 : h[14]? = some (oM v cor bA bB rw bo)) (k : mCt mCd 139 [.ref 14, .int x1] h (fun rv hv => mWp mCd 201 (14, [none, none, none], rv.toList ++ [.int x1, .ref 14, .int x2], hv, 0, 0) Q)) : mWp mCd 201 (6, [some (.ref 14), some (.int x1), some (.int x2)], [], h, 0, 0) Q := by
  refine mWp_run 5 (t' := (11, [some (.ref 14), some (.int x1), some (.int x2)], [.int x1, .ref 14, .int x1, .ref 14, .int x2], h, 0, 0)) rfl ?_
  exact mWp_iv rfl rfl e1 rfl rfl rfl rfl (mCt_mono k (fun rv hv y => mWp_weak (mLe_n (mLe_n (mLe_n mLe_0))) y))
theorem b201_14 {h : mH} {Q : Option Value → mH → Prop} {u0 : Int32} {u1 : Int32} {u3 : Int32} {v : Int32} {cor : Int32} {bA : Int64} {bB : Int64} {rw : Int32} {bo : Int32} (e1 : h[14]? = some (oM v cor bA bB rw bo)) (k : mCt mCd 144 [.ref 14, .int u1, .int u0] h (fun rv hv => mWp mCd 201 (17, [none, none, none], rv.toList ++ [.int u3], hv, 0, 0) Q)) : mWp mCd 201 (14, [none, none, none], [.int u0, .int u1, .ref 14, .int u3], h, 0, 0) Q := by
  exact mWp_iv rfl rfl e1 rfl rfl rfl rfl k
theorem b201_17 {h : mH} {Q : Option Value → mH → Prop} {w0 : Int64} {u1 : Int32}  (k : Q (some (.int (u1 + (Int64.toInt32 w0)))) h) : mWp mCd 201 (17, [none, none, none], [.long w0, .int u1], h, 0, 0) Q := by
  refine mWp_run 2 (t' := (19, [none, none, none], [.int (u1 + (Int64.toInt32 w0))], h, 0, 0)) rfl ?_
  exact mWp_r (v := (some (.int (u1 + (Int64.toInt32 w0))))) rfl k
theorem b202_0 {h : mH} {Q : Option Value → mH → Prop} {x1 : Int32} {x2 : Int32} {v : Int32} {cor : Int32} {bA : Int64} {bB : Int64} {rw : Int32} {bo : Int32} {g101 : Nat → Int32} (e1 : h[14]? = some (oM v cor bA bB rw bo)) (e2 : h[15]? = some (aI 11 g101)) (e3 : ¬ (x1 < 0 ∨ 11 ≤ x1.toNatClampNeg)) (k1 : ¬ (g101 x1.toNatClampNeg) = (iZ 1) → mWp mCd 202 (25, [some (.ref 14), some (.int x1), some (.int x2)], [], h, 0, 0) Q) (k2 : ¬ (¬ (g101 x1.toNatClampNeg) = (iZ 1)) → mWp mCd 202 (10, [some (.ref 14), some (.int x1), some (.int x2)], [], h, 0, 0) Q) : mWp mCd 202 (0, [some (.ref 14), some (.int x1), some (.int x2)], [], h, 0, 0) Q := by
  refine mWp_run 1 (t' := (1, [some (.ref 14), some (.int x1), some (.int x2)], [.ref 14], h, 0, 0)) rfl ?_
  refine mWp_gf rfl e1 rfl rfl ?_
  refine mWp_run 1 (t' := (5, [some (.ref 14), some (.int x1), some (.int x2)], [.int x1, .ref 15], h, 0, 0)) rfl ?_
  refine mWp_ial rfl e2 e3 ?_
  refine mWp_run 1 (t' := (7, [some (.ref 14), some (.int x1), some (.int x2)], [.int (iZ 1), .int (g101 x1.toNatClampNeg)], h, 0, 0)) rfl ?_
  exact mWp_ic (P := fun x y => ¬ x = y) (a := g101 x1.toNatClampNeg) (b := iZ 1) rfl k1 k2
theorem b202_25 {h : mH} {Q : Option Value → mH → Prop} {x1 : Int32} {x2 : Int32} {v : Int32} {cor : Int32} {bA : Int64} {bB : Int64} {rw : Int32} {bo : Int32} {g101 : Nat → Int32} (e1 : h[14]? = some (oM v cor bA bB rw bo)) (e2 : h[15]? = some (aI 11 g101)) (e3 : ¬ (x1 < 0 ∨ 11 ≤ x1.toNatClampNeg)) (k1 : ¬ (g101 x1.toNatClampNeg) = (iZ 4) → mWp mCd 202 (55, [some (.ref 14), some (.int x1), some (.int x2)], [], h, 0, 0) Q) (k2 : ¬ (¬ (g101 x1.toNatClampNeg) = (iZ 4)) → mWp mCd 202 (35, [some (.ref 14), some (.int x1), some (.int x2)], [], h, 0, 0) Q) : mWp mCd 202 (25, [some (.ref 14), some (.int x1), some (.int x2)], [], h, 0, 0) Q := by
  refine mWp_run 1 (t' := (26, [some (.ref 14), some (.int x1), some (.int x2)], [.ref 14], h, 0, 0)) rfl ?_
  refine mWp_gf rfl e1 rfl rfl ?_
  refine mWp_run 1 (t' := (30, [some (.ref 14), some (.int x1), some (.int x2)], [.int x1, .ref 15], h, 0, 0)) rfl ?_
  refine mWp_ial rfl e2 e3 ?_
  refine mWp_run 1 (t' := (32, [some (.ref 14), some (.int x1), some (.int x2)], [.int (iZ 4), .int (g101 x1.toNatClampNeg)], h, 0, 0)) rfl ?_
  exact mWp_ic (P := fun x y => ¬ x = y) (a := g101 x1.toNatClampNeg) (b := iZ 4) rfl k1 k2
theorem b202_10 {h : mH} {Q : Option Value → mH → Prop} {x1 : Int32} {x2 : Int32} {v : Int32} {cor : Int32} {bA : Int64} {bB : Int64} {rw : Int32} {bo : Int32} (e1 : h[14]? = some (oM v cor bA bB rw bo)) (k : mCt mCd 200 [.ref 14, .int (iZ 20)] h (fun rv hv => mWp mCd 202 (16, [some (.ref 14), some (.int x1), some (.int x2)], rv.toList ++ [], hv, 0, 0) Q)) : mWp mCd 202 (10, [some (.ref 14), some (.int x1), some (.int x2)], [], h, 0, 0) Q := by
  refine mWp_run 2 (t' := (13, [some (.ref 14), some (.int x1), some (.int x2)], [.int (iZ 20), .ref 14], h, 0, 0)) rfl ?_
  exact mWp_iv rfl rfl e1 rfl rfl rfl rfl k
theorem b202_55 {h : mH} {Q : Option Value → mH → Prop} {x1 : Int32} {x2 : Int32} {v : Int32} {cor : Int32} {bA : Int64} {bB : Int64} {rw : Int32} {bo : Int32} (e1 : h[14]? = some (oM v cor bA bB rw bo)) (k : mCt mCd 201 [.ref 14, .int x1, .int x2] h (fun rv hv => mWp mCd 202 (61, [none, none, none], rv.toList ++ [], hv, 0, 0) Q)) : mWp mCd 202 (55, [some (.ref 14), some (.int x1), some (.int x2)], [], h, 0, 0) Q := by
  refine mWp_run 3 (t' := (58, [some (.ref 14), some (.int x1), some (.int x2)], [.int x2, .int x1, .ref 14], h, 0, 0)) rfl ?_
  exact mWp_iv rfl rfl e1 rfl rfl rfl rfl (mCt_mono k (fun rv hv y => mWp_weak (mLe_n (mLe_n (mLe_n mLe_0))) y))
theorem b202_35 {h : mH} {Q : Option Value → mH → Prop} {x1 : Int32} {x2 : Int32} {v : Int32} {cor : Int32} {bA : Int64} {bB : Int64} {rw : Int32} {bo : Int32} (e1 : h[14]? = some (oM v cor bA bB rw bo)) (k : mCt mCd 200 [.ref 14, .int (iZ 50)] h (fun rv hv => mWp mCd 202 (41, [some (.ref 14), some (.int x1), some (.int x2)], rv.toList ++ [], hv, 0, 0) Q)) : mWp mCd 202 (35, [some (.ref 14), some (.int x1), some (.int x2)], [], h, 0, 0) Q := by
  refine mWp_run 2 (t' := (38, [some (.ref 14), some (.int x1), some (.int x2)], [.int (iZ 50), .ref 14], h, 0, 0)) rfl ?_
  exact mWp_iv rfl rfl e1 rfl rfl rfl rfl k
theorem b202_16 {h : mH} {Q : Option Value → mH → Prop} {x1 : Int32} {x2 : Int32} {v : Int32} {cor : Int32} {bA : Int64} {bB : Int64} {rw : Int32} {bo : Int32} (e1 : h[14]? = some (oM v cor bA bB rw bo)) (k : mCt mCd 201 [.ref 14, .int x1, .int x2] h (fun rv hv => mWp mCd 202 (22, [none, none, none], rv.toList ++ [], hv, 0, 0) Q)) : mWp mCd 202 (16, [some (.ref 14), some (.int x1), some (.int x2)], [], h, 0, 0) Q := by
  refine mWp_run 3 (t' := (19, [some (.ref 14), some (.int x1), some (.int x2)], [.int x2, .int x1, .ref 14], h, 0, 0)) rfl ?_
  exact mWp_iv rfl rfl e1 rfl rfl rfl rfl (mCt_mono k (fun rv hv y => mWp_weak (mLe_n (mLe_n (mLe_n mLe_0))) y))
theorem b202_61 {h : mH} {Q : Option Value → mH → Prop} {u0 : Int32}  (k : Q (some (.int u0)) h) : mWp mCd 202 (61, [none, none, none], [.int u0], h, 0, 0) Q := by
  exact mWp_r (v := (some (.int u0))) rfl k
theorem b202_41 {h : mH} {Q : Option Value → mH → Prop} {x1 : Int32} {x2 : Int32} {v : Int32} {cor : Int32} {bA : Int64} {bB : Int64} {rw : Int32} {bo : Int32} {g101 : Nat → Int32} (e1 : h[14]? = some (oM v cor bA bB rw bo)) (e2 : h[16]? = some (aI 11 g101)) (e3 : ¬ (x1 < 0 ∨ 11 ≤ x1.toNatClampNeg)) (k : mCt mCd 201 [.ref 14, .int x1, .int (x2 - (g101 x1.toNatClampNeg))] h (fun rv hv => mWp mCd 202 (54, [none, none, none], rv.toList ++ [], hv, 0, 0) Q)) : mWp mCd 202 (41, [some (.ref 14), some (.int x1), some (.int x2)], [], h, 0, 0) Q := by
  refine mWp_run 4 (t' := (45, [some (.ref 14), some (.int x1), some (.int x2)], [.ref 14, .int x2, .int x1, .ref 14], h, 0, 0)) rfl ?_
  refine mWp_gf rfl e1 rfl rfl ?_
  refine mWp_run 1 (t' := (49, [some (.ref 14), some (.int x1), some (.int x2)], [.int x1, .ref 16, .int x2, .int x1, .ref 14], h, 0, 0)) rfl ?_
  refine mWp_ial rfl e2 e3 ?_
  refine mWp_run 1 (t' := (51, [some (.ref 14), some (.int x1), some (.int x2)], [.int (x2 - (g101 x1.toNatClampNeg)), .int x1, .ref 14], h, 0, 0)) rfl ?_
  exact mWp_iv rfl rfl e1 rfl rfl rfl rfl (mCt_mono k (fun rv hv y => mWp_weak (mLe_n (mLe_n (mLe_n mLe_0))) y))
theorem b202_22 {h : mH} {Q : Option Value → mH → Prop} {u0 : Int32}  (k : Q (some (.int (u0 * (iZ 2)))) h) : mWp mCd 202 (22, [none, none, none], [.int u0], h, 0, 0) Q := by
  refine mWp_run 2 (t' := (24, [none, none, none], [.int (u0 * (iZ 2))], h, 0, 0)) rfl ?_
  exact mWp_r (v := (some (.int (u0 * (iZ 2))))) rfl k
theorem b202_54 {h : mH} {Q : Option Value → mH → Prop} {u0 : Int32}  (k : Q (some (.int u0)) h) : mWp mCd 202 (54, [none, none, none], [.int u0], h, 0, 0) Q := by
  exact mWp_r (v := (some (.int u0))) rfl k
theorem b203_0 {h : mH} {Q : Option Value → mH → Prop} {x1 : Int32} {x2 : Int32} {v : Int32} {cor : Int32} {bA : Int64} {bB : Int64} {rw : Int32} {bo : Int32} (e1 : h[14]? = some (oM v cor bA bB rw bo)) (k : mCt mCd 200 [.ref 14, .int (iZ 11)] h (fun rv hv => mWp mCd 203 (6, [some (.ref 14), some (.int x1), some (.int x2)], rv.toList ++ [], hv, 0, 0) Q)) : mWp mCd 203 (0, [some (.ref 14), some (.int x1), some (.int x2)], [], h, 0, 0) Q := by
  refine mWp_run 2 (t' := (3, [some (.ref 14), some (.int x1), some (.int x2)], [.int (iZ 11), .ref 14], h, 0, 0)) rfl ?_
  exact mWp_iv rfl rfl e1 rfl rfl rfl rfl k
theorem b203_6 {h : mH} {Q : Option Value → mH → Prop} {x1 : Int32} {x2 : Int32} {v : Int32} {cor : Int32} {bA : Int64} {bB : Int64} {rw : Int32} {bo : Int32} (e1 : h[14]? = some (oM v cor bA bB rw bo)) (k : mCt mCd 202 [.ref 14, .int x1, .int x2] h (fun rv hv => mWp mCd 203 (12, [some (.ref 14), some (.int x1), none], rv.toList ++ [], hv, 0, 0) Q)) : mWp mCd 203 (6, [some (.ref 14), some (.int x1), some (.int x2)], [], h, 0, 0) Q := by
  refine mWp_run 3 (t' := (9, [some (.ref 14), some (.int x1), some (.int x2)], [.int x2, .int x1, .ref 14], h, 0, 0)) rfl ?_
  exact mWp_iv rfl rfl e1 rfl rfl rfl rfl (mCt_mono k (fun rv hv y => mWp_weak (mLe_s (mLe_s (mLe_n mLe_0))) y))
theorem b203_12 {h : mH} {Q : Option Value → mH → Prop} {x1 : Int32} {u0 : Int32} {v : Int32} {cor : Int32} {bA : Int64} {bB : Int64} {rw : Int32} {bo : Int32} {g101 : Nat → Int32} (e1 : h[14]? = some (oM v cor bA bB rw bo)) (e2 : h[16]? = some (aI 11 g101)) (e3 : ¬ (x1 < 0 ∨ 11 ≤ x1.toNatClampNeg)) (k : Q (some (.int (u0 * (g101 x1.toNatClampNeg)))) h) : mWp mCd 203 (12, [some (.ref 14), some (.int x1), none], [.int u0], h, 0, 0) Q := by
  refine mWp_run 1 (t' := (13, [some (.ref 14), some (.int x1), none], [.ref 14, .int u0], h, 0, 0)) rfl ?_
  refine mWp_gf rfl e1 rfl rfl ?_
  refine mWp_run 1 (t' := (17, [some (.ref 14), some (.int x1), none], [.int x1, .ref 16, .int u0], h, 0, 0)) rfl ?_
  refine mWp_ial rfl e2 e3 ?_
  refine mWp_run 1 (t' := (19, [some (.ref 14), some (.int x1), none], [.int (u0 * (g101 x1.toNatClampNeg))], h, 0, 0)) rfl ?_
  exact mWp_r (v := (some (.int (u0 * (g101 x1.toNatClampNeg))))) rfl k
theorem b204_0 {h : mH} {Q : Option Value → mH → Prop} {x1 : Int32} {x2 : Int32} {v : Int32} {cor : Int32} {bA : Int64} {bB : Int64} {rw : Int32} {bo : Int32} {g101 : Nat → Int32} (e1 : h[14]? = some (oM v cor bA bB rw bo)) (e2 : h[15]? = some (aI 11 g101)) (e3 : ¬ (x1 < 0 ∨ 11 ≤ x1.toNatClampNeg)) (k1 : ¬ (g101 x1.toNatClampNeg) = (iZ 2) → mWp mCd 204 (25, [some (.ref 14), some (.int x1), some (.int x2), none], [], h, 0, 0) Q) (k2 : ¬ (¬ (g101 x1.toNatClampNeg) = (iZ 2)) → mWp mCd 204 (10, [some (.ref 14), some (.int x1), some (.int x2), none], [], h, 0, 0) Q) : mWp mCd 204 (0, [some (.ref 14), some (.int x1), some (.int x2), none], [], h, 0, 0) Q := by
  refine mWp_run 1 (t' := (1, [some (.ref 14), some (.int x1), some (.int x2), none], [.ref 14], h, 0, 0)) rfl ?_
  refine mWp_gf rfl e1 rfl rfl ?_
  refine mWp_run 1 (t' := (5, [some (.ref 14), some (.int x1), some (.int x2), none], [.int x1, .ref 15], h, 0, 0)) rfl ?_
  refine mWp_ial rfl e2 e3 ?_
  refine mWp_run 1 (t' := (7, [some (.ref 14), some (.int x1), some (.int x2), none], [.int (iZ 2), .int (g101 x1.toNatClampNeg)], h, 0, 0)) rfl ?_
  exact mWp_ic (P := fun x y => ¬ x = y) (a := g101 x1.toNatClampNeg) (b := iZ 2) rfl k1 k2
theorem b204_25 {h : mH} {Q : Option Value → mH → Prop} {x1 : Int32} {x2 : Int32} {v : Int32} {cor : Int32} {bA : Int64} {bB : Int64} {rw : Int32} {bo : Int32} {g101 : Nat → Int32} (e1 : h[14]? = some (oM v cor bA bB rw bo)) (e2 : h[15]? = some (aI 11 g101)) (e3 : ¬ (x1 < 0 ∨ 11 ≤ x1.toNatClampNeg)) (k1 : ¬ (g101 x1.toNatClampNeg) = (iZ 4) → mWp mCd 204 (57, [some (.ref 14), some (.int x1), some (.int x2), none], [], h, 0, 0) Q) (k2 : ¬ (¬ (g101 x1.toNatClampNeg) = (iZ 4)) → mWp mCd 204 (35, [some (.ref 14), some (.int x1), some (.int x2), none], [], h, 0, 0) Q) : mWp mCd 204 (25, [some (.ref 14), some (.int x1), some (.int x2), none], [], h, 0, 0) Q := by
  refine mWp_run 1 (t' := (26, [some (.ref 14), some (.int x1), some (.int x2), none], [.ref 14], h, 0, 0)) rfl ?_
  refine mWp_gf rfl e1 rfl rfl ?_
  refine mWp_run 1 (t' := (30, [some (.ref 14), some (.int x1), some (.int x2), none], [.int x1, .ref 15], h, 0, 0)) rfl ?_
  refine mWp_ial rfl e2 e3 ?_
  refine mWp_run 1 (t' := (32, [some (.ref 14), some (.int x1), some (.int x2), none], [.int (iZ 4), .int (g101 x1.toNatClampNeg)], h, 0, 0)) rfl ?_
  exact mWp_ic (P := fun x y => ¬ x = y) (a := g101 x1.toNatClampNeg) (b := iZ 4) rfl k1 k2
theorem b204_10 {h : mH} {Q : Option Value → mH → Prop} {x1 : Int32} {x2 : Int32} {v : Int32} {cor : Int32} {bA : Int64} {bB : Int64} {rw : Int32} {bo : Int32} (e1 : h[14]? = some (oM v cor bA bB rw bo)) (k : mCt mCd 200 [.ref 14, .int (iZ 30)] h (fun rv hv => mWp mCd 204 (16, [some (.ref 14), some (.int x1), some (.int x2), none], rv.toList ++ [], hv, 0, 0) Q)) : mWp mCd 204 (10, [some (.ref 14), some (.int x1), some (.int x2), none], [], h, 0, 0) Q := by
  refine mWp_run 2 (t' := (13, [some (.ref 14), some (.int x1), some (.int x2), none], [.int (iZ 30), .ref 14], h, 0, 0)) rfl ?_
  exact mWp_iv rfl rfl e1 rfl rfl rfl rfl k
theorem b204_57 {h : mH} {Q : Option Value → mH → Prop} {x1 : Int32} {x2 : Int32} {v : Int32} {cor : Int32} {bA : Int64} {bB : Int64} {rw : Int32} {bo : Int32} (e1 : h[14]? = some (oM v cor bA bB rw bo)) (k : mCt mCd 203 [.ref 14, .int x1, .int x2] h (fun rv hv => mWp mCd 204 (63, [none, none, none, none], rv.toList ++ [], hv, 0, 0) Q)) : mWp mCd 204 (57, [some (.ref 14), some (.int x1), some (.int x2), none], [], h, 0, 0) Q := by
  refine mWp_run 3 (t' := (60, [some (.ref 14), some (.int x1), some (.int x2), none], [.int x2, .int x1, .ref 14], h, 0, 0)) rfl ?_
  exact mWp_iv rfl rfl e1 rfl rfl rfl rfl (mCt_mono k (fun rv hv y => mWp_weak (mLe_n (mLe_n (mLe_n (mLe_n mLe_0)))) y))
theorem b204_35 {h : mH} {Q : Option Value → mH → Prop} {x1 : Int32} {x2 : Int32} {v : Int32} {cor : Int32} {bA : Int64} {bB : Int64} {rw : Int32} {bo : Int32} (e1 : h[14]? = some (oM v cor bA bB rw bo)) (k : mCt mCd 200 [.ref 14, .int (iZ 51)] h (fun rv hv => mWp mCd 204 (41, [some (.ref 14), some (.int x1), some (.int x2), none], rv.toList ++ [], hv, 0, 0) Q)) : mWp mCd 204 (35, [some (.ref 14), some (.int x1), some (.int x2), none], [], h, 0, 0) Q := by
  refine mWp_run 2 (t' := (38, [some (.ref 14), some (.int x1), some (.int x2), none], [.int (iZ 51), .ref 14], h, 0, 0)) rfl ?_
  exact mWp_iv rfl rfl e1 rfl rfl rfl rfl k
theorem b204_16 {h : mH} {Q : Option Value → mH → Prop} {x1 : Int32} {x2 : Int32} {v : Int32} {cor : Int32} {bA : Int64} {bB : Int64} {rw : Int32} {bo : Int32} (e1 : h[14]? = some (oM v cor bA bB rw bo)) (k : mCt mCd 203 [.ref 14, .int x1, .int x2] h (fun rv hv => mWp mCd 204 (22, [none, some (.int x1), none, none], rv.toList ++ [], hv, 0, 0) Q)) : mWp mCd 204 (16, [some (.ref 14), some (.int x1), some (.int x2), none], [], h, 0, 0) Q := by
  refine mWp_run 3 (t' := (19, [some (.ref 14), some (.int x1), some (.int x2), none], [.int x2, .int x1, .ref 14], h, 0, 0)) rfl ?_
  exact mWp_iv rfl rfl e1 rfl rfl rfl rfl (mCt_mono k (fun rv hv y => mWp_weak (mLe_n (mLe_s (mLe_n (mLe_n mLe_0)))) y))
theorem b204_63 {h : mH} {Q : Option Value → mH → Prop} {u0 : Int32}  (k : Q (some (.int u0)) h) : mWp mCd 204 (63, [none, none, none, none], [.int u0], h, 0, 0) Q := by
  exact mWp_r (v := (some (.int u0))) rfl k
theorem b204_41 {h : mH} {Q : Option Value → mH → Prop} {x1 : Int32} {x2 : Int32} {v : Int32} {cor : Int32} {bA : Int64} {bB : Int64} {rw : Int32} {bo : Int32} (e1 : h[14]? = some (oM v cor bA bB rw bo)) (k : mCt mCd 203 [.ref 14, .int x1, .int x2] h (fun rv hv => mWp mCd 204 (47, [some (.ref 14), some (.int x1), some (.int x2), none], rv.toList ++ [], hv, 0, 0) Q)) : mWp mCd 204 (41, [some (.ref 14), some (.int x1), some (.int x2), none], [], h, 0, 0) Q := by
  refine mWp_run 3 (t' := (44, [some (.ref 14), some (.int x1), some (.int x2), none], [.int x2, .int x1, .ref 14], h, 0, 0)) rfl ?_
  exact mWp_iv rfl rfl e1 rfl rfl rfl rfl k
theorem b204_22 {h : mH} {Q : Option Value → mH → Prop} {x1 : Int32} {u0 : Int32}  (k : Q (some (.int (u0 + x1))) h) : mWp mCd 204 (22, [none, some (.int x1), none, none], [.int u0], h, 0, 0) Q := by
  refine mWp_run 2 (t' := (24, [none, some (.int x1), none, none], [.int (u0 + x1)], h, 0, 0)) rfl ?_
  exact mWp_r (v := (some (.int (u0 + x1)))) rfl k
theorem b204_47 {h : mH} {Q : Option Value → mH → Prop} {x1 : Int32} {x2 : Int32} {u0 : Int32} {v : Int32} {cor : Int32} {bA : Int64} {bB : Int64} {rw : Int32} {bo : Int32} (e1 : h[14]? = some (oM v cor bA bB rw bo)) (k : mCt mCd 201 [.ref 14, .int x1, .int x2] h (fun rv hv => mWp mCd 204 (55, [none, none, none, none], rv.toList ++ [.int u0], hv, 0, 0) Q)) : mWp mCd 204 (47, [some (.ref 14), some (.int x1), some (.int x2), none], [.int u0], h, 0, 0) Q := by
  refine mWp_run 5 (t' := (52, [some (.ref 14), some (.int x1), some (.int x2), some (.int u0)], [.int x2, .int x1, .ref 14, .int u0], h, 0, 0)) rfl ?_
  exact mWp_iv rfl rfl e1 rfl rfl rfl rfl (mCt_mono k (fun rv hv y => mWp_weak (mLe_n (mLe_n (mLe_n (mLe_n mLe_0)))) y))
theorem b204_55 {h : mH} {Q : Option Value → mH → Prop} {u0 : Int32} {u1 : Int32}  (k : Q (some (.int (u1 ^^^ u0))) h) : mWp mCd 204 (55, [none, none, none, none], [.int u0, .int u1], h, 0, 0) Q := by
  refine mWp_run 1 (t' := (56, [none, none, none, none], [.int (u1 ^^^ u0)], h, 0, 0)) rfl ?_
  exact mWp_r (v := (some (.int (u1 ^^^ u0)))) rfl k
theorem b205_0 {h : mH} {Q : Option Value → mH → Prop} {x1 : Int32} {x2 : Int32} {v : Int32} {cor : Int32} {bA : Int64} {bB : Int64} {rw : Int32} {bo : Int32} (e1 : h[14]? = some (oM v cor bA bB rw bo)) (k : mCt mCd 200 [.ref 14, .int (iZ 12)] h (fun rv hv => mWp mCd 205 (6, [some (.ref 14), some (.int x1), some (.int x2), none], rv.toList ++ [], hv, 0, 0) Q)) : mWp mCd 205 (0, [some (.ref 14), some (.int x1), some (.int x2), none], [], h, 0, 0) Q := by
  refine mWp_run 2 (t' := (3, [some (.ref 14), some (.int x1), some (.int x2), none], [.int (iZ 12), .ref 14], h, 0, 0)) rfl ?_
  exact mWp_iv rfl rfl e1 rfl rfl rfl rfl k
theorem b205_6 {h : mH} {Q : Option Value → mH → Prop} {x1 : Int32} {x2 : Int32} {v : Int32} {cor : Int32} {bA : Int64} {bB : Int64} {rw : Int32} {bo : Int32} (e1 : h[14]? = some (oM v cor bA bB rw bo)) (k : mCt mCd 204 [.ref 14, .int x1, .int x2] h (fun rv hv => mWp mCd 205 (12, [some (.ref 14), some (.int x1), some (.int x2), none], rv.toList ++ [], hv, 0, 0) Q)) : mWp mCd 205 (6, [some (.ref 14), some (.int x1), some (.int x2), none], [], h, 0, 0) Q := by
  refine mWp_run 3 (t' := (9, [some (.ref 14), some (.int x1), some (.int x2), none], [.int x2, .int x1, .ref 14], h, 0, 0)) rfl ?_
  exact mWp_iv rfl rfl e1 rfl rfl rfl rfl k
theorem b205_12 {h : mH} {Q : Option Value → mH → Prop} {x1 : Int32} {x2 : Int32} {u0 : Int32} {v : Int32} {cor : Int32} {bA : Int64} {bB : Int64} {rw : Int32} {bo : Int32} (e1 : h[14]? = some (oM v cor bA bB rw bo)) (k : mCt mCd 202 [.ref 14, .int x1, .int (x2 + x1)] h (fun rv hv => mWp mCd 205 (22, [none, none, none, none], rv.toList ++ [.int u0], hv, 0, 0) Q)) : mWp mCd 205 (12, [some (.ref 14), some (.int x1), some (.int x2), none], [.int u0], h, 0, 0) Q := by
  refine mWp_run 7 (t' := (19, [some (.ref 14), some (.int x1), some (.int x2), some (.int u0)], [.int (x2 + x1), .int x1, .ref 14, .int u0], h, 0, 0)) rfl ?_
  exact mWp_iv rfl rfl e1 rfl rfl rfl rfl (mCt_mono k (fun rv hv y => mWp_weak (mLe_n (mLe_n (mLe_n (mLe_n mLe_0)))) y))
theorem b205_22 {h : mH} {Q : Option Value → mH → Prop} {u0 : Int32} {u1 : Int32}  (k : Q (some (.int (u1 ^^^ u0))) h) : mWp mCd 205 (22, [none, none, none, none], [.int u0, .int u1], h, 0, 0) Q := by
  refine mWp_run 1 (t' := (23, [none, none, none, none], [.int (u1 ^^^ u0)], h, 0, 0)) rfl ?_
  exact mWp_r (v := (some (.int (u1 ^^^ u0)))) rfl k
theorem b206_0 {h : mH} {Q : Option Value → mH → Prop} {x1 : Int32} {x2 : Int32} {v : Int32} {cor : Int32} {bA : Int64} {bB : Int64} {rw : Int32} {bo : Int32} {g101 : Nat → Int32} (e1 : h[14]? = some (oM v cor bA bB rw bo)) (e2 : h[15]? = some (aI 11 g101)) (e3 : ¬ (x1 < 0 ∨ 11 ≤ x1.toNatClampNeg)) (k1 : ¬ (g101 x1.toNatClampNeg) = (iZ 1) → mWp mCd 206 (25, [some (.ref 14), some (.int x1), some (.int x2), none], [], h, 0, 0) Q) (k2 : ¬ (¬ (g101 x1.toNatClampNeg) = (iZ 1)) → mWp mCd 206 (10, [some (.ref 14), some (.int x1), some (.int x2), none], [], h, 0, 0) Q) : mWp mCd 206 (0, [some (.ref 14), some (.int x1), some (.int x2), none], [], h, 0, 0) Q := by
  refine mWp_run 1 (t' := (1, [some (.ref 14), some (.int x1), some (.int x2), none], [.ref 14], h, 0, 0)) rfl ?_
  refine mWp_gf rfl e1 rfl rfl ?_
  refine mWp_run 1 (t' := (5, [some (.ref 14), some (.int x1), some (.int x2), none], [.int x1, .ref 15], h, 0, 0)) rfl ?_
  refine mWp_ial rfl e2 e3 ?_
  refine mWp_run 1 (t' := (7, [some (.ref 14), some (.int x1), some (.int x2), none], [.int (iZ 1), .int (g101 x1.toNatClampNeg)], h, 0, 0)) rfl ?_
  exact mWp_ic (P := fun x y => ¬ x = y) (a := g101 x1.toNatClampNeg) (b := iZ 1) rfl k1 k2
theorem b206_25 {h : mH} {Q : Option Value → mH → Prop} {x1 : Int32} {x2 : Int32} {v : Int32} {cor : Int32} {bA : Int64} {bB : Int64} {rw : Int32} {bo : Int32} {g101 : Nat → Int32} (e1 : h[14]? = some (oM v cor bA bB rw bo)) (e2 : h[15]? = some (aI 11 g101)) (e3 : ¬ (x1 < 0 ∨ 11 ≤ x1.toNatClampNeg)) (k1 : ¬ (g101 x1.toNatClampNeg) = (iZ 3) → mWp mCd 206 (59, [some (.ref 14), some (.int x1), some (.int x2), none], [], h, 0, 0) Q) (k2 : ¬ (¬ (g101 x1.toNatClampNeg) = (iZ 3)) → mWp mCd 206 (35, [some (.ref 14), some (.int x1), some (.int x2), none], [], h, 0, 0) Q) : mWp mCd 206 (25, [some (.ref 14), some (.int x1), some (.int x2), none], [], h, 0, 0) Q := by
  refine mWp_run 1 (t' := (26, [some (.ref 14), some (.int x1), some (.int x2), none], [.ref 14], h, 0, 0)) rfl ?_
  refine mWp_gf rfl e1 rfl rfl ?_
  refine mWp_run 1 (t' := (30, [some (.ref 14), some (.int x1), some (.int x2), none], [.int x1, .ref 15], h, 0, 0)) rfl ?_
  refine mWp_ial rfl e2 e3 ?_
  refine mWp_run 1 (t' := (32, [some (.ref 14), some (.int x1), some (.int x2), none], [.int (iZ 3), .int (g101 x1.toNatClampNeg)], h, 0, 0)) rfl ?_
  exact mWp_ic (P := fun x y => ¬ x = y) (a := g101 x1.toNatClampNeg) (b := iZ 3) rfl k1 k2
theorem b206_10 {h : mH} {Q : Option Value → mH → Prop} {x1 : Int32} {x2 : Int32} {v : Int32} {cor : Int32} {bA : Int64} {bB : Int64} {rw : Int32} {bo : Int32} (e1 : h[14]? = some (oM v cor bA bB rw bo)) (k : mCt mCd 200 [.ref 14, .int (iZ 21)] h (fun rv hv => mWp mCd 206 (16, [some (.ref 14), some (.int x1), some (.int x2), none], rv.toList ++ [], hv, 0, 0) Q)) : mWp mCd 206 (10, [some (.ref 14), some (.int x1), some (.int x2), none], [], h, 0, 0) Q := by
  refine mWp_run 2 (t' := (13, [some (.ref 14), some (.int x1), some (.int x2), none], [.int (iZ 21), .ref 14], h, 0, 0)) rfl ?_
  exact mWp_iv rfl rfl e1 rfl rfl rfl rfl k
theorem b206_59 {h : mH} {Q : Option Value → mH → Prop} {x1 : Int32} {x2 : Int32} {v : Int32} {cor : Int32} {bA : Int64} {bB : Int64} {rw : Int32} {bo : Int32} (e1 : h[14]? = some (oM v cor bA bB rw bo)) (k : mCt mCd 205 [.ref 14, .int x1, .int x2] h (fun rv hv => mWp mCd 206 (65, [none, none, none, none], rv.toList ++ [], hv, 0, 0) Q)) : mWp mCd 206 (59, [some (.ref 14), some (.int x1), some (.int x2), none], [], h, 0, 0) Q := by
  refine mWp_run 3 (t' := (62, [some (.ref 14), some (.int x1), some (.int x2), none], [.int x2, .int x1, .ref 14], h, 0, 0)) rfl ?_
  exact mWp_iv rfl rfl e1 rfl rfl rfl rfl (mCt_mono k (fun rv hv y => mWp_weak (mLe_n (mLe_n (mLe_n (mLe_n mLe_0)))) y))
theorem b206_35 {h : mH} {Q : Option Value → mH → Prop} {x1 : Int32} {x2 : Int32} {v : Int32} {cor : Int32} {bA : Int64} {bB : Int64} {rw : Int32} {bo : Int32} (e1 : h[14]? = some (oM v cor bA bB rw bo)) (k : mCt mCd 200 [.ref 14, .int (iZ 40)] h (fun rv hv => mWp mCd 206 (41, [some (.ref 14), some (.int x1), some (.int x2), none], rv.toList ++ [], hv, 0, 0) Q)) : mWp mCd 206 (35, [some (.ref 14), some (.int x1), some (.int x2), none], [], h, 0, 0) Q := by
  refine mWp_run 2 (t' := (38, [some (.ref 14), some (.int x1), some (.int x2), none], [.int (iZ 40), .ref 14], h, 0, 0)) rfl ?_
  exact mWp_iv rfl rfl e1 rfl rfl rfl rfl k
theorem b206_16 {h : mH} {Q : Option Value → mH → Prop} {x1 : Int32} {x2 : Int32} {v : Int32} {cor : Int32} {bA : Int64} {bB : Int64} {rw : Int32} {bo : Int32} (e1 : h[14]? = some (oM v cor bA bB rw bo)) (k : mCt mCd 205 [.ref 14, .int x1, .int x2] h (fun rv hv => mWp mCd 206 (22, [none, none, none, none], rv.toList ++ [], hv, 0, 0) Q)) : mWp mCd 206 (16, [some (.ref 14), some (.int x1), some (.int x2), none], [], h, 0, 0) Q := by
  refine mWp_run 3 (t' := (19, [some (.ref 14), some (.int x1), some (.int x2), none], [.int x2, .int x1, .ref 14], h, 0, 0)) rfl ?_
  exact mWp_iv rfl rfl e1 rfl rfl rfl rfl (mCt_mono k (fun rv hv y => mWp_weak (mLe_n (mLe_n (mLe_n (mLe_n mLe_0)))) y))
theorem b206_65 {h : mH} {Q : Option Value → mH → Prop} {u0 : Int32}  (k : Q (some (.int u0)) h) : mWp mCd 206 (65, [none, none, none, none], [.int u0], h, 0, 0) Q := by
  exact mWp_r (v := (some (.int u0))) rfl k
theorem b206_41 {h : mH} {Q : Option Value → mH → Prop} {x1 : Int32} {x2 : Int32} {v : Int32} {cor : Int32} {bA : Int64} {bB : Int64} {rw : Int32} {bo : Int32} (e1 : h[14]? = some (oM v cor bA bB rw bo)) (k : mCt mCd 202 [.ref 14, .int x1, .int x2] h (fun rv hv => mWp mCd 206 (47, [some (.ref 14), some (.int x1), some (.int x2), none], rv.toList ++ [], hv, 0, 0) Q)) : mWp mCd 206 (41, [some (.ref 14), some (.int x1), some (.int x2), none], [], h, 0, 0) Q := by
  refine mWp_run 3 (t' := (44, [some (.ref 14), some (.int x1), some (.int x2), none], [.int x2, .int x1, .ref 14], h, 0, 0)) rfl ?_
  exact mWp_iv rfl rfl e1 rfl rfl rfl rfl k
theorem b206_22 {h : mH} {Q : Option Value → mH → Prop} {u0 : Int32}  (k : Q (some (.int (u0 - (iZ 1)))) h) : mWp mCd 206 (22, [none, none, none, none], [.int u0], h, 0, 0) Q := by
  refine mWp_run 2 (t' := (24, [none, none, none, none], [.int (u0 - (iZ 1))], h, 0, 0)) rfl ?_
  exact mWp_r (v := (some (.int (u0 - (iZ 1))))) rfl k
theorem b206_47 {h : mH} {Q : Option Value → mH → Prop} {x1 : Int32} {x2 : Int32} {u0 : Int32} {v : Int32} {cor : Int32} {bA : Int64} {bB : Int64} {rw : Int32} {bo : Int32} (e1 : h[14]? = some (oM v cor bA bB rw bo)) (k : mCt mCd 205 [.ref 14, .int x1, .int (x2 + (iZ 1))] h (fun rv hv => mWp mCd 206 (57, [none, none, none, none], rv.toList ++ [.int u0], hv, 0, 0) Q)) : mWp mCd 206 (47, [some (.ref 14), some (.int x1), some (.int x2), none], [.int u0], h, 0, 0) Q := by
  refine mWp_run 7 (t' := (54, [some (.ref 14), some (.int x1), some (.int x2), some (.int u0)], [.int (x2 + (iZ 1)), .int x1, .ref 14, .int u0], h, 0, 0)) rfl ?_
  exact mWp_iv rfl rfl e1 rfl rfl rfl rfl (mCt_mono k (fun rv hv y => mWp_weak (mLe_n (mLe_n (mLe_n (mLe_n mLe_0)))) y))
theorem b206_57 {h : mH} {Q : Option Value → mH → Prop} {u0 : Int32} {u1 : Int32}  (k : Q (some (.int (u1 - u0))) h) : mWp mCd 206 (57, [none, none, none, none], [.int u0, .int u1], h, 0, 0) Q := by
  refine mWp_run 1 (t' := (58, [none, none, none, none], [.int (u1 - u0)], h, 0, 0)) rfl ?_
  exact mWp_r (v := (some (.int (u1 - u0)))) rfl k
theorem b207_0 {h : mH} {Q : Option Value → mH → Prop} {x1 : Int32} {x2 : Int32} {x3 : Int32} {v : Int32} {cor : Int32} {bA : Int64} {bB : Int64} {rw : Int32} {bo : Int32} (e1 : h[14]? = some (oM v cor bA bB rw bo)) (k : mCt mCd 138 [.ref 14, .int x1] (h.set 14 (oM v cor bA bB rw (iZ 0))) (fun rv hv => mWp mCd 207 (10, [some (.ref 14), some (.int x1), some (.int x2), some (.int x3)], rv.toList ++ [], hv, 0, 0) Q)) : mWp mCd 207 (0, [some (.ref 14), some (.int x1), some (.int x2), some (.int x3)], [], h, 0, 0) Q := by
  refine mWp_run 2 (t' := (2, [some (.ref 14), some (.int x1), some (.int x2), some (.int x3)], [.int (iZ 0), .ref 14], h, 0, 0)) rfl ?_
  refine mWp_pf rfl e1 rfl rfl rfl ?_
  show mWp mCd 207 (5, [some (.ref 14), some (.int x1), some (.int x2), some (.int x3)], [], (h.set 14 (oM v cor bA bB rw (iZ 0))), 0, 0) Q
  refine mWp_run 2 (t' := (7, [some (.ref 14), some (.int x1), some (.int x2), some (.int x3)], [.int x1, .ref 14], (h.set 14 (oM v cor bA bB rw (iZ 0))), 0, 0)) rfl ?_
  exact mWp_iv rfl rfl (mGs e1) rfl rfl rfl rfl k
