theorem b80_5 {h : mH} {Q : Option Value → mH → Prop} {x2 : Int32} {x3 : Int32}  (k : Q (some (.int (iZ (-2)))) h) : mWp mCd 80 (5, [none, none, some (.int x2), some (.int x3), none], [.null], h, 0, 0) Q := by
  refine mWp_run 4 (t' := (31, [none, none, some (.int x2), some (.int x3), some (.null)], [.int (iZ (-2))], h, 0, 0)) rfl ?_
  exact mWp_r (v := (some (.int (iZ (-2))))) rfl k
theorem b80_5_1 {h : mH} {Q : Option Value → mH → Prop} {x2 : Int32} {x3 : Int32} {q0 : Nat} {ci : Nat} {num : Int32} {n : Int32} {fd : Int32} (hc : [1, 2, 4, 6, 8].contains ci = true) (e2 : h[q0]? = some (oV ci q0 num n fd)) (k : mCt mCd 44 [.ref q0, .int x2] h (fun rv hv => mWp mCd 80 (18, [none, none, some (.int x2), some (.int x3), some (.ref q0)], rv.toList ++ [], hv, 0, 0) Q)) : mWp mCd 80 (5, [none, none, some (.int x2), some (.int x3), none], [.ref q0], h, 0, 0) Q := by
  refine mWp_run 5 (t' := (15, [none, none, some (.int x2), some (.int x3), some (.ref q0)], [.int x2, .ref q0], h, 0, 0)) rfl ?_
  exact mWp_iv rfl rfl e2 (mS5 hc) rfl rfl rfl k
theorem b80_18 {h : mH} {Q : Option Value → mH → Prop} {x2 : Int32} {x3 : Int32} {r4 : Nat} {u0 : Int32}  (k1 : u0 = 0 → mWp mCd 80 (29, [none, none, none, none, none], [], h, 0, 0) Q) (k2 : ¬ (u0 = 0) → mWp mCd 80 (21, [none, none, some (.int x2), some (.int x3), some (.ref r4)], [], h, 0, 0) Q) : mWp mCd 80 (18, [none, none, some (.int x2), some (.int x3), some (.ref r4)], [.int u0], h, 0, 0) Q := by
  exact mWp_if (P := fun x => x = 0) (a := u0) rfl (fun q => mWp_weak (mLe_n (mLe_n (mLe_n (mLe_n (mLe_n mLe_0))))) (k1 q)) k2
theorem b80_29 {h : mH} {Q : Option Value → mH → Prop}   (k : Q (some (.int (iZ (-2)))) h) : mWp mCd 80 (29, [none, none, none, none, none], [], h, 0, 0) Q := by
  refine mWp_run 1 (t' := (31, [none, none, none, none, none], [.int (iZ (-2))], h, 0, 0)) rfl ?_
  exact mWp_r (v := (some (.int (iZ (-2))))) rfl k
theorem b80_21 {h : mH} {Q : Option Value → mH → Prop} {x2 : Int32} {x3 : Int32} {r4 : Nat}  (k : mCt mCd 120 [.long (Int32.toInt64 x3)] h (fun rv hv => mWp mCd 80 (26, [none, none, some (.int x2), some (.int x3), some (.ref r4)], rv.toList ++ [], hv, 0, 0) Q)) : mWp mCd 80 (21, [none, none, some (.int x2), some (.int x3), some (.ref r4)], [], h, 0, 0) Q := by
  refine mWp_run 2 (t' := (23, [none, none, some (.int x2), some (.int x3), some (.ref r4)], [.long (Int32.toInt64 x3)], h, 0, 0)) rfl ?_
  exact mWp_is rfl rfl rfl rfl rfl k
theorem b80_26 {h : mH} {Q : Option Value → mH → Prop} {x2 : Int32} {x3 : Int32} {r4 : Nat} {u0 : Int32}  (k1 : ¬ u0 = 0 → mWp mCd 80 (32, [none, none, some (.int x2), some (.int x3), some (.ref r4)], [], h, 0, 0) Q) (k2 : ¬ (¬ u0 = 0) → mWp mCd 80 (29, [none, none, none, none, none], [], h, 0, 0) Q) : mWp mCd 80 (26, [none, none, some (.int x2), some (.int x3), some (.ref r4)], [.int u0], h, 0, 0) Q := by
  exact mWp_if (P := fun x => ¬ x = 0) (a := u0) rfl k1 (fun q => mWp_weak (mLe_n (mLe_n (mLe_n (mLe_n (mLe_n mLe_0))))) (k2 q))
theorem b80_32 {h : mH} {Q : Option Value → mH → Prop} {x2 : Int32} {x3 : Int32} {r4 : Nat} {ci : Nat} {num : Int32} {n : Int32} {fd : Int32} {k101 : Nat} (hc : [1, 2, 4, 6, 8].contains ci = true) (e2 : h[r4]? = some (oV ci r4 num n fd)) (e3 : mSel [(1, 15, 0, 0), (2, 18, 0, 0), (4, 31, 0, 0), (6, 38, 0, 0), (8, 75, 0, 0)] ci = some (k101, 0, 0)) (k : mCt mCd k101 [.ref r4] h (fun rv hv => mWp mCd 80 (37, [none, none, some (.int x2), some (.int x3), some (.ref r4)], rv.toList ++ [], hv, 0, 0) Q)) : mWp mCd 80 (32, [none, none, some (.int x2), some (.int x3), some (.ref r4)], [], h, 0, 0) Q := by
  refine mWp_run 1 (t' := (34, [none, none, some (.int x2), some (.int x3), some (.ref r4)], [.ref r4], h, 0, 0)) rfl ?_
  exact mWp_iv rfl rfl e2 e3 rfl rfl rfl k
theorem b80_37 {h : mH} {Q : Option Value → mH → Prop} {x2 : Int32} {x3 : Int32} {r4 : Nat} {u0 : Int32}  (k1 : u0 = 0 → mWp mCd 80 (43, [none, none, some (.int x2), some (.int x3), some (.ref r4)], [], h, 0, 0) Q) (k2 : ¬ (u0 = 0) → mWp mCd 80 (40, [none, none, none, none, none], [], h, 0, 0) Q) : mWp mCd 80 (37, [none, none, some (.int x2), some (.int x3), some (.ref r4)], [.int u0], h, 0, 0) Q := by
  exact mWp_if (P := fun x => x = 0) (a := u0) rfl k1 (fun q => mWp_weak (mLe_n (mLe_n (mLe_n (mLe_n (mLe_n mLe_0))))) (k2 q))
theorem b80_43 {h : mH} {Q : Option Value → mH → Prop} {x2 : Int32} {x3 : Int32} {r4 : Nat} {ci : Nat} {num : Int32} {n : Int32} {fd : Int32} (hc : [1, 2, 4, 6, 8].contains ci = true) (e2 : h[r4]? = some (oV ci r4 num n fd)) (k : mCt mCd 48 [.ref r4, .int x2, .int x3] h (fun rv hv => mWp mCd 80 (50, [none, none, none, none, none], rv.toList ++ [], hv, 0, 0) Q)) : mWp mCd 80 (43, [none, none, some (.int x2), some (.int x3), some (.ref r4)], [], h, 0, 0) Q := by
  refine mWp_run 3 (t' := (47, [none, none, some (.int x2), some (.int x3), some (.ref r4)], [.int x3, .int x2, .ref r4], h, 0, 0)) rfl ?_
  exact mWp_iv rfl rfl e2 (mS5 hc) rfl rfl rfl (mCt_mono k (fun rv hv y => mWp_weak (mLe_n (mLe_n (mLe_n (mLe_n (mLe_n mLe_0))))) y))
theorem b80_40 {h : mH} {Q : Option Value → mH → Prop}   (k : Q (some (.int (iZ (-3)))) h) : mWp mCd 80 (40, [none, none, none, none, none], [], h, 0, 0) Q := by
  refine mWp_run 1 (t' := (42, [none, none, none, none, none], [.int (iZ (-3))], h, 0, 0)) rfl ?_
  exact mWp_r (v := (some (.int (iZ (-3))))) rfl k
theorem b80_50 {h : mH} {Q : Option Value → mH → Prop}   (k : Q (some (.int (iZ 1))) h) : mWp mCd 80 (50, [none, none, none, none, none], [], h, 0, 0) Q := by
  refine mWp_run 1 (t' := (51, [none, none, none, none, none], [.int (iZ 1)], h, 0, 0)) rfl ?_
  exact mWp_r (v := (some (.int (iZ 1)))) rfl k
theorem b81_0 {h : mH} {Q : Option Value → mH → Prop} {x1 : Int32} {x2 : Int32} {x3 : Int32}  (k : mCt mCd 119 [.int x1] h (fun rv hv => mWp mCd 81 (4, [some (.ref 5), some (.int x1), some (.int x2), some (.int x3)], rv.toList ++ [], hv, 0, 0) Q)) : mWp mCd 81 (0, [some (.ref 5), some (.int x1), some (.int x2), some (.int x3)], [], h, 0, 0) Q := by
  refine mWp_run 1 (t' := (1, [some (.ref 5), some (.int x1), some (.int x2), some (.int x3)], [.int x1], h, 0, 0)) rfl ?_
  exact mWp_is rfl rfl rfl rfl rfl k
theorem b81_4 {h : mH} {Q : Option Value → mH → Prop} {x1 : Int32} {x2 : Int32} {x3 : Int32} {u0 : Int32}  (k1 : u0 = 0 → mWp mCd 81 (28, [none, none, none, none], [], h, 0, 0) Q) (k2 : ¬ (u0 = 0) → mWp mCd 81 (7, [some (.ref 5), some (.int x1), some (.int x2), some (.int x3)], [], h, 0, 0) Q) : mWp mCd 81 (4, [some (.ref 5), some (.int x1), some (.int x2), some (.int x3)], [.int u0], h, 0, 0) Q := by
  exact mWp_if (P := fun x => x = 0) (a := u0) rfl (fun q => mWp_weak (mLe_n (mLe_n (mLe_n (mLe_n mLe_0)))) (k1 q)) k2
theorem b81_28 {h : mH} {Q : Option Value → mH → Prop}   (k : Q (some (.int (iZ (-2)))) h) : mWp mCd 81 (28, [none, none, none, none], [], h, 0, 0) Q := by
  refine mWp_run 1 (t' := (30, [none, none, none, none], [.int (iZ (-2))], h, 0, 0)) rfl ?_
  exact mWp_r (v := (some (.int (iZ (-2))))) rfl k
theorem b81_7 {h : mH} {Q : Option Value → mH → Prop} {x1 : Int32} {x2 : Int32} {x3 : Int32}  (k : mCt mCd 125 [.int x2, .int (iZ 21), .int x1] h (fun rv hv => mWp mCd 81 (14, [some (.ref 5), some (.int x1), some (.int x2), some (.int x3)], rv.toList ++ [], hv, 0, 0) Q)) : mWp mCd 81 (7, [some (.ref 5), some (.int x1), some (.int x2), some (.int x3)], [], h, 0, 0) Q := by
  refine mWp_run 3 (t' := (11, [some (.ref 5), some (.int x1), some (.int x2), some (.int x3)], [.int x1, .int (iZ 21), .int x2], h, 0, 0)) rfl ?_
  exact mWp_is rfl rfl rfl rfl rfl k
theorem b81_14 {h : mH} {Q : Option Value → mH → Prop} {x1 : Int32} {x2 : Int32} {x3 : Int32} {u0 : Int32}  (k1 : u0 = 0 → mWp mCd 81 (28, [none, none, none, none], [], h, 0, 0) Q) (k2 : ¬ (u0 = 0) → mWp mCd 81 (17, [some (.ref 5), some (.int x1), some (.int x2), some (.int x3)], [], h, 0, 0) Q) : mWp mCd 81 (14, [some (.ref 5), some (.int x1), some (.int x2), some (.int x3)], [.int u0], h, 0, 0) Q := by
  exact mWp_if (P := fun x => x = 0) (a := u0) rfl (fun q => mWp_weak (mLe_n (mLe_n (mLe_n (mLe_n mLe_0)))) (k1 q)) k2
theorem b81_17 {h : mH} {Q : Option Value → mH → Prop} {x1 : Int32} {x2 : Int32} {x3 : Int32}  (k1 : x3 < (iZ 1) → mWp mCd 81 (28, [none, none, none, none], [], h, 0, 0) Q) (k2 : ¬ (x3 < (iZ 1)) → mWp mCd 81 (22, [some (.ref 5), some (.int x1), some (.int x2), some (.int x3)], [], h, 0, 0) Q) : mWp mCd 81 (17, [some (.ref 5), some (.int x1), some (.int x2), some (.int x3)], [], h, 0, 0) Q := by
  refine mWp_run 2 (t' := (19, [some (.ref 5), some (.int x1), some (.int x2), some (.int x3)], [.int (iZ 1), .int x3], h, 0, 0)) rfl ?_
  exact mWp_ic (P := fun x y => x < y) (a := x3) (b := iZ 1) rfl (fun q => mWp_weak (mLe_n (mLe_n (mLe_n (mLe_n mLe_0)))) (k1 q)) k2
theorem b81_22 {h : mH} {Q : Option Value → mH → Prop} {x1 : Int32} {x2 : Int32} {x3 : Int32}  (k1 : x3 ≤ (iZ 80) → mWp mCd 81 (31, [some (.ref 5), some (.int x1), some (.int x2), some (.int x3)], [], h, 0, 0) Q) (k2 : ¬ (x3 ≤ (iZ 80)) → mWp mCd 81 (28, [none, none, none, none], [], h, 0, 0) Q) : mWp mCd 81 (22, [some (.ref 5), some (.int x1), some (.int x2), some (.int x3)], [], h, 0, 0) Q := by
  refine mWp_run 2 (t' := (25, [some (.ref 5), some (.int x1), some (.int x2), some (.int x3)], [.int (iZ 80), .int x3], h, 0, 0)) rfl ?_
  exact mWp_ic (P := fun x y => x ≤ y) (a := x3) (b := iZ 80) rfl k1 (fun q => mWp_weak (mLe_n (mLe_n (mLe_n (mLe_n mLe_0)))) (k2 q))
theorem b81_31 {h : mH} {Q : Option Value → mH → Prop} {x1 : Int32} {x2 : Int32} {x3 : Int32} {vc : Int32} (e1 : h[5]? = some (oJ vc)) (k : mCt mCd 115 [.ref 5] h (fun rv hv => mWp mCd 81 (35, [some (.ref 5), some (.int x1), some (.int x2), some (.int x3)], rv.toList ++ [], hv, 0, 0) Q)) : mWp mCd 81 (31, [some (.ref 5), some (.int x1), some (.int x2), some (.int x3)], [], h, 0, 0) Q := by
  refine mWp_run 1 (t' := (32, [some (.ref 5), some (.int x1), some (.int x2), some (.int x3)], [.ref 5], h, 0, 0)) rfl ?_
  exact mWp_iv rfl rfl e1 rfl rfl rfl rfl k
theorem b81_35 {h : mH} {Q : Option Value → mH → Prop} {x1 : Int32} {x2 : Int32} {x3 : Int32} {u0 : Int32}  (k1 : u0 = 0 → mWp mCd 81 (43, [some (.ref 5), some (.int x1), some (.int x2), some (.int x3)], [], h, 0, 0) Q) (k2 : ¬ (u0 = 0) → mWp mCd 81 (38, [none, none, none, none], [], h, 0, 0) Q) : mWp mCd 81 (35, [some (.ref 5), some (.int x1), some (.int x2), some (.int x3)], [.int u0], h, 0, 0) Q := by
  exact mWp_if (P := fun x => x = 0) (a := u0) rfl k1 (fun q => mWp_weak (mLe_n (mLe_n (mLe_n (mLe_n mLe_0)))) (k2 q))
theorem b81_43 {h : mH} {Q : Option Value → mH → Prop} {x1 : Int32} {x2 : Int32} {x3 : Int32}  (k : mWp mCd 81 (47, [some (.ref 5), some (.int x1), some (.int x2), some (.int x3)], [.ref ((h).length), .ref 5], (h ++ [.inr (8, [.int 0, .int 0, .null, .null, .null, .int 0])]), 1, 6) Q) : mWp mCd 81 (43, [some (.ref 5), some (.int x1), some (.int x2), some (.int x3)], [], h, 0, 0) Q := by
  refine mWp_run 1 (t' := (44, [some (.ref 5), some (.int x1), some (.int x2), some (.int x3)], [.ref 5], h, 0, 0)) rfl ?_
  refine mWp_run 1 (t' := (47, [some (.ref 5), some (.int x1), some (.int x2), some (.int x3)], [.ref ((h).length), .ref 5], (h ++ [.inr (8, [.int 0, .int 0, .null, .null, .null, .int 0])]), 1, 6)) rfl ?_
  exact k
theorem b81_38 {h : mH} {Q : Option Value → mH → Prop}   (k : Q (some (.int (iZ (-4)))) h) : mWp mCd 81 (38, [none, none, none, none], [], h, 0, 0) Q := by
  refine mWp_run 2 (t' := (61, [none, none, none, none], [.int (iZ (-4))], h, 0, 0)) rfl ?_
  exact mWp_r (v := (some (.int (iZ (-4))))) rfl k
theorem b81_47 {h : mH} {Q : Option Value → mH → Prop} {x1 : Int32} {x2 : Int32} {x3 : Int32} {q0 : Nat} {vc : Int32} (e1 : h[5]? = some (oJ vc)) (k : mCt mCd 73 [.ref q0, .int vc, .int x1, .int x2, .int x3] h (fun rv hv => mWp mCd 81 (58, [none, none, none, none], rv.toList ++ [.ref q0, .ref 5], hv, 9, 158) Q)) : mWp mCd 81 (47, [some (.ref 5), some (.int x1), some (.int x2), some (.int x3)], [.ref q0, .ref 5], h, 1, 6) Q := by
  refine mWp_run 2 (t' := (49, [some (.ref 5), some (.int x1), some (.int x2), some (.int x3)], [.ref 5, .ref q0, .ref q0, .ref 5], h, 1, 6)) rfl ?_
  refine mWp_gf rfl e1 rfl rfl ?_
  refine mWp_run 3 (t' := (55, [some (.ref 5), some (.int x1), some (.int x2), some (.int x3)], [.int x3, .int x2, .int x1, .int vc, .ref q0, .ref q0, .ref 5], h, 1, 6)) rfl ?_
  exact mWp_ii rfl rfl rfl rfl rfl (mCt_mono k (fun rv hv y => mWp_weak (mLe_n (mLe_n (mLe_n (mLe_n mLe_0)))) y))
theorem b81_58 {h : mH} {Q : Option Value → mH → Prop} {q0 : Nat} {vc : Int32} (e1 : h[5]? = some (oJ vc)) (k : mCt mCd 116 [.ref 5, .ref q0] h (fun rv hv => mWp mCd 81 (61, [none, none, none, none], rv.toList ++ [], hv, 9, 158) Q)) : mWp mCd 81 (58, [none, none, none, none], [.ref q0, .ref 5], h, 9, 158) Q := by
  exact mWp_iv rfl rfl e1 rfl rfl rfl rfl k
theorem b81_61 {h : mH} {Q : Option Value → mH → Prop} {u0 : Int32}  (k : Q (some (.int u0)) h) : mWp mCd 81 (61, [none, none, none, none], [.int u0], h, 9, 158) Q := by
  exact mWp_r (v := (some (.int u0))) rfl k
theorem b82_0 {h : mH} {Q : Option Value → mH → Prop} {x1 : Int32} {x2 : Int32}  (k : mCt mCd 119 [.int x1] h (fun rv hv => mWp mCd 82 (4, [some (.ref 5), some (.int x1), some (.int x2)], rv.toList ++ [], hv, 0, 0) Q)) : mWp mCd 82 (0, [some (.ref 5), some (.int x1), some (.int x2)], [], h, 0, 0) Q := by
  refine mWp_run 1 (t' := (1, [some (.ref 5), some (.int x1), some (.int x2)], [.int x1], h, 0, 0)) rfl ?_
  exact mWp_is rfl rfl rfl rfl rfl k
theorem b82_4 {h : mH} {Q : Option Value → mH → Prop} {x1 : Int32} {x2 : Int32} {u0 : Int32}  (k1 : u0 = 0 → mWp mCd 82 (17, [none, none, none], [], h, 0, 0) Q) (k2 : ¬ (u0 = 0) → mWp mCd 82 (7, [some (.ref 5), some (.int x1), some (.int x2)], [], h, 0, 0) Q) : mWp mCd 82 (4, [some (.ref 5), some (.int x1), some (.int x2)], [.int u0], h, 0, 0) Q := by
  exact mWp_if (P := fun x => x = 0) (a := u0) rfl (fun q => mWp_weak (mLe_n (mLe_n (mLe_n mLe_0))) (k1 q)) k2
theorem b82_17 {h : mH} {Q : Option Value → mH → Prop}   (k : Q (some (.int (iZ (-2)))) h) : mWp mCd 82 (17, [none, none, none], [], h, 0, 0) Q := by
  refine mWp_run 1 (t' := (19, [none, none, none], [.int (iZ (-2))], h, 0, 0)) rfl ?_
  exact mWp_r (v := (some (.int (iZ (-2))))) rfl k
theorem b82_7 {h : mH} {Q : Option Value → mH → Prop} {x1 : Int32} {x2 : Int32}  (k : mCt mCd 125 [.int x2, .int (iZ 51), .int x1] h (fun rv hv => mWp mCd 82 (14, [some (.ref 5), some (.int x1), some (.int x2)], rv.toList ++ [], hv, 0, 0) Q)) : mWp mCd 82 (7, [some (.ref 5), some (.int x1), some (.int x2)], [], h, 0, 0) Q := by
  refine mWp_run 3 (t' := (11, [some (.ref 5), some (.int x1), some (.int x2)], [.int x1, .int (iZ 51), .int x2], h, 0, 0)) rfl ?_
  exact mWp_is rfl rfl rfl rfl rfl k
theorem b82_14 {h : mH} {Q : Option Value → mH → Prop} {x1 : Int32} {x2 : Int32} {u0 : Int32}  (k1 : ¬ u0 = 0 → mWp mCd 82 (20, [some (.ref 5), some (.int x1), some (.int x2)], [], h, 0, 0) Q) (k2 : ¬ (¬ u0 = 0) → mWp mCd 82 (17, [none, none, none], [], h, 0, 0) Q) : mWp mCd 82 (14, [some (.ref 5), some (.int x1), some (.int x2)], [.int u0], h, 0, 0) Q := by
  exact mWp_if (P := fun x => ¬ x = 0) (a := u0) rfl k1 (fun q => mWp_weak (mLe_n (mLe_n (mLe_n mLe_0))) (k2 q))
theorem b82_20 {h : mH} {Q : Option Value → mH → Prop} {x1 : Int32} {x2 : Int32} {vc : Int32} (e1 : h[5]? = some (oJ vc)) (k : mCt mCd 115 [.ref 5] h (fun rv hv => mWp mCd 82 (24, [some (.ref 5), some (.int x1), some (.int x2)], rv.toList ++ [], hv, 0, 0) Q)) : mWp mCd 82 (20, [some (.ref 5), some (.int x1), some (.int x2)], [], h, 0, 0) Q := by
  refine mWp_run 1 (t' := (21, [some (.ref 5), some (.int x1), some (.int x2)], [.ref 5], h, 0, 0)) rfl ?_
  exact mWp_iv rfl rfl e1 rfl rfl rfl rfl k
theorem b82_24 {h : mH} {Q : Option Value → mH → Prop} {x1 : Int32} {x2 : Int32} {u0 : Int32}  (k1 : u0 = 0 → mWp mCd 82 (32, [some (.ref 5), some (.int x1), some (.int x2)], [], h, 0, 0) Q) (k2 : ¬ (u0 = 0) → mWp mCd 82 (27, [none, none, none], [], h, 0, 0) Q) : mWp mCd 82 (24, [some (.ref 5), some (.int x1), some (.int x2)], [.int u0], h, 0, 0) Q := by
  exact mWp_if (P := fun x => x = 0) (a := u0) rfl k1 (fun q => mWp_weak (mLe_n (mLe_n (mLe_n mLe_0))) (k2 q))
theorem b82_32 {h : mH} {Q : Option Value → mH → Prop} {x1 : Int32} {x2 : Int32}  (k : mWp mCd 82 (36, [some (.ref 5), some (.int x1), some (.int x2)], [.ref ((h).length), .ref 5], (h ++ [.inr (4, [.int 0, .int 0, .null, .null, .null, .int 0])]), 1, 6) Q) : mWp mCd 82 (32, [some (.ref 5), some (.int x1), some (.int x2)], [], h, 0, 0) Q := by
  refine mWp_run 1 (t' := (33, [some (.ref 5), some (.int x1), some (.int x2)], [.ref 5], h, 0, 0)) rfl ?_
  refine mWp_run 1 (t' := (36, [some (.ref 5), some (.int x1), some (.int x2)], [.ref ((h).length), .ref 5], (h ++ [.inr (4, [.int 0, .int 0, .null, .null, .null, .int 0])]), 1, 6)) rfl ?_
  exact k
theorem b82_27 {h : mH} {Q : Option Value → mH → Prop}   (k : Q (some (.int (iZ (-4)))) h) : mWp mCd 82 (27, [none, none, none], [], h, 0, 0) Q := by
  refine mWp_run 2 (t' := (49, [none, none, none], [.int (iZ (-4))], h, 0, 0)) rfl ?_
  exact mWp_r (v := (some (.int (iZ (-4))))) rfl k
theorem b82_36 {h : mH} {Q : Option Value → mH → Prop} {x1 : Int32} {x2 : Int32} {q0 : Nat} {vc : Int32} (e1 : h[5]? = some (oJ vc)) (k : mCt mCd 29 [.ref q0, .int vc, .int x1, .int x2] h (fun rv hv => mWp mCd 82 (46, [none, none, none], rv.toList ++ [.ref q0, .ref 5], hv, 9, 158) Q)) : mWp mCd 82 (36, [some (.ref 5), some (.int x1), some (.int x2)], [.ref q0, .ref 5], h, 1, 6) Q := by
  refine mWp_run 2 (t' := (38, [some (.ref 5), some (.int x1), some (.int x2)], [.ref 5, .ref q0, .ref q0, .ref 5], h, 1, 6)) rfl ?_
  refine mWp_gf rfl e1 rfl rfl ?_
  refine mWp_run 2 (t' := (43, [some (.ref 5), some (.int x1), some (.int x2)], [.int x2, .int x1, .int vc, .ref q0, .ref q0, .ref 5], h, 1, 6)) rfl ?_
  exact mWp_ii rfl rfl rfl rfl rfl (mCt_mono k (fun rv hv y => mWp_weak (mLe_n (mLe_n (mLe_n mLe_0))) y))
theorem b82_46 {h : mH} {Q : Option Value → mH → Prop} {q0 : Nat} {vc : Int32} (e1 : h[5]? = some (oJ vc)) (k : mCt mCd 116 [.ref 5, .ref q0] h (fun rv hv => mWp mCd 82 (49, [none, none, none], rv.toList ++ [], hv, 9, 158) Q)) : mWp mCd 82 (46, [none, none, none], [.ref q0, .ref 5], h, 9, 158) Q := by
  exact mWp_iv rfl rfl e1 rfl rfl rfl rfl k
theorem b82_49 {h : mH} {Q : Option Value → mH → Prop} {u0 : Int32}  (k : Q (some (.int u0)) h) : mWp mCd 82 (49, [none, none, none], [.int u0], h, 9, 158) Q := by
  exact mWp_r (v := (some (.int u0))) rfl k
theorem b83_0 {h : mH} {Q : Option Value → mH → Prop} {x1 : Int32} {x2 : Int32}  (k : mCt mCd 119 [.int x1] h (fun rv hv => mWp mCd 83 (4, [some (.ref 5), some (.int x1), some (.int x2)], rv.toList ++ [], hv, 0, 0) Q)) : mWp mCd 83 (0, [some (.ref 5), some (.int x1), some (.int x2)], [], h, 0, 0) Q := by
  refine mWp_run 1 (t' := (1, [some (.ref 5), some (.int x1), some (.int x2)], [.int x1], h, 0, 0)) rfl ?_
  exact mWp_is rfl rfl rfl rfl rfl k
theorem b83_4 {h : mH} {Q : Option Value → mH → Prop} {x1 : Int32} {x2 : Int32} {u0 : Int32}  (k1 : u0 = 0 → mWp mCd 83 (18, [none, none, none], [], h, 0, 0) Q) (k2 : ¬ (u0 = 0) → mWp mCd 83 (7, [some (.ref 5), some (.int x1), some (.int x2)], [], h, 0, 0) Q) : mWp mCd 83 (4, [some (.ref 5), some (.int x1), some (.int x2)], [.int u0], h, 0, 0) Q := by
  exact mWp_if (P := fun x => x = 0) (a := u0) rfl (fun q => mWp_weak (mLe_n (mLe_n (mLe_n mLe_0))) (k1 q)) k2
theorem b83_18 {h : mH} {Q : Option Value → mH → Prop}   (k : Q (some (.int (iZ (-2)))) h) : mWp mCd 83 (18, [none, none, none], [], h, 0, 0) Q := by
  refine mWp_run 1 (t' := (20, [none, none, none], [.int (iZ (-2))], h, 0, 0)) rfl ?_
  exact mWp_r (v := (some (.int (iZ (-2))))) rfl k
theorem b83_7 {h : mH} {Q : Option Value → mH → Prop} {x1 : Int32} {x2 : Int32}  (k1 : x2 < 0 → mWp mCd 83 (18, [none, none, none], [], h, 0, 0) Q) (k2 : ¬ (x2 < 0) → mWp mCd 83 (11, [some (.ref 5), some (.int x1), some (.int x2)], [], h, 0, 0) Q) : mWp mCd 83 (7, [some (.ref 5), some (.int x1), some (.int x2)], [], h, 0, 0) Q := by
  refine mWp_run 1 (t' := (8, [some (.ref 5), some (.int x1), some (.int x2)], [.int x2], h, 0, 0)) rfl ?_
  exact mWp_if (P := fun x => x < 0) (a := x2) rfl (fun q => mWp_weak (mLe_n (mLe_n (mLe_n mLe_0))) (k1 q)) k2
theorem b83_11 {h : mH} {Q : Option Value → mH → Prop} {x1 : Int32} {x2 : Int32}  (k1 : x2 < ((iZ 1) <<< (x1 &&& 31)) → mWp mCd 83 (21, [some (.ref 5), some (.int x1), some (.int x2)], [], h, 0, 0) Q) (k2 : ¬ (x2 < ((iZ 1) <<< (x1 &&& 31))) → mWp mCd 83 (18, [none, none, none], [], h, 0, 0) Q) : mWp mCd 83 (11, [some (.ref 5), some (.int x1), some (.int x2)], [], h, 0, 0) Q := by
  refine mWp_run 4 (t' := (15, [some (.ref 5), some (.int x1), some (.int x2)], [.int ((iZ 1) <<< (x1 &&& 31)), .int x2], h, 0, 0)) rfl ?_
  exact mWp_ic (P := fun x y => x < y) (a := x2) (b := (iZ 1) <<< (x1 &&& 31)) rfl k1 (fun q => mWp_weak (mLe_n (mLe_n (mLe_n mLe_0))) (k2 q))
theorem b83_21 {h : mH} {Q : Option Value → mH → Prop} {x1 : Int32} {x2 : Int32} {vc : Int32} (e1 : h[5]? = some (oJ vc)) (k : mCt mCd 115 [.ref 5] h (fun rv hv => mWp mCd 83 (25, [some (.ref 5), some (.int x1), some (.int x2)], rv.toList ++ [], hv, 0, 0) Q)) : mWp mCd 83 (21, [some (.ref 5), some (.int x1), some (.int x2)], [], h, 0, 0) Q := by
  refine mWp_run 1 (t' := (22, [some (.ref 5), some (.int x1), some (.int x2)], [.ref 5], h, 0, 0)) rfl ?_
  exact mWp_iv rfl rfl e1 rfl rfl rfl rfl k
theorem b83_25 {h : mH} {Q : Option Value → mH → Prop} {x1 : Int32} {x2 : Int32} {u0 : Int32}  (k1 : u0 = 0 → mWp mCd 83 (33, [some (.ref 5), some (.int x1), some (.int x2)], [], h, 0, 0) Q) (k2 : ¬ (u0 = 0) → mWp mCd 83 (28, [none, none, none], [], h, 0, 0) Q) : mWp mCd 83 (25, [some (.ref 5), some (.int x1), some (.int x2)], [.int u0], h, 0, 0) Q := by
  exact mWp_if (P := fun x => x = 0) (a := u0) rfl k1 (fun q => mWp_weak (mLe_n (mLe_n (mLe_n mLe_0))) (k2 q))
theorem b83_33 {h : mH} {Q : Option Value → mH → Prop} {x1 : Int32} {x2 : Int32}  (k : mWp mCd 83 (37, [some (.ref 5), some (.int x1), some (.int x2)], [.ref ((h).length), .ref 5], (h ++ [.inr (1, [.int 0, .int 0, .null, .null, .null, .int 0])]), 1, 6) Q) : mWp mCd 83 (33, [some (.ref 5), some (.int x1), some (.int x2)], [], h, 0, 0) Q := by
  refine mWp_run 1 (t' := (34, [some (.ref 5), some (.int x1), some (.int x2)], [.ref 5], h, 0, 0)) rfl ?_
  refine mWp_run 1 (t' := (37, [some (.ref 5), some (.int x1), some (.int x2)], [.ref ((h).length), .ref 5], (h ++ [.inr (1, [.int 0, .int 0, .null, .null, .null, .int 0])]), 1, 6)) rfl ?_
  exact k
theorem b83_28 {h : mH} {Q : Option Value → mH → Prop}   (k : Q (some (.int (iZ (-4)))) h) : mWp mCd 83 (28, [none, none, none], [], h, 0, 0) Q := by
  refine mWp_run 2 (t' := (50, [none, none, none], [.int (iZ (-4))], h, 0, 0)) rfl ?_
  exact mWp_r (v := (some (.int (iZ (-4))))) rfl k
theorem b83_37 {h : mH} {Q : Option Value → mH → Prop} {x1 : Int32} {x2 : Int32} {q0 : Nat} {vc : Int32} (e1 : h[5]? = some (oJ vc)) (k : mCt mCd 14 [.ref q0, .int vc, .int x1, .int x2] h (fun rv hv => mWp mCd 83 (47, [none, none, none], rv.toList ++ [.ref q0, .ref 5], hv, 9, 158) Q)) : mWp mCd 83 (37, [some (.ref 5), some (.int x1), some (.int x2)], [.ref q0, .ref 5], h, 1, 6) Q := by
  refine mWp_run 2 (t' := (39, [some (.ref 5), some (.int x1), some (.int x2)], [.ref 5, .ref q0, .ref q0, .ref 5], h, 1, 6)) rfl ?_
  refine mWp_gf rfl e1 rfl rfl ?_
  refine mWp_run 2 (t' := (44, [some (.ref 5), some (.int x1), some (.int x2)], [.int x2, .int x1, .int vc, .ref q0, .ref q0, .ref 5], h, 1, 6)) rfl ?_
  exact mWp_ii rfl rfl rfl rfl rfl (mCt_mono k (fun rv hv y => mWp_weak (mLe_n (mLe_n (mLe_n mLe_0))) y))
theorem b83_47 {h : mH} {Q : Option Value → mH → Prop} {q0 : Nat} {vc : Int32} (e1 : h[5]? = some (oJ vc)) (k : mCt mCd 116 [.ref 5, .ref q0] h (fun rv hv => mWp mCd 83 (50, [none, none, none], rv.toList ++ [], hv, 9, 158) Q)) : mWp mCd 83 (47, [none, none, none], [.ref q0, .ref 5], h, 9, 158) Q := by
  exact mWp_iv rfl rfl e1 rfl rfl rfl rfl k
theorem b83_50 {h : mH} {Q : Option Value → mH → Prop} {u0 : Int32}  (k : Q (some (.int u0)) h) : mWp mCd 83 (50, [none, none, none], [.int u0], h, 9, 158) Q := by
  exact mWp_r (v := (some (.int u0))) rfl k
theorem b84_0 {h : mH} {Q : Option Value → mH → Prop} {x1 : Int32} {x2 : Int32} {x3 : Int32} {x4 : Int32} {vc : Int32} (e1 : h[5]? = some (oJ vc)) (k : mCt mCd 114 [.ref 5, .int x1] h (fun rv hv => mWp mCd 84 (5, [some (.ref 5), none, some (.int x2), some (.int x3), some (.int x4), none, none, none, none], rv.toList ++ [], hv, 0, 0) Q)) : mWp mCd 84 (0, [some (.ref 5), some (.int x1), some (.int x2), some (.int x3), some (.int x4), none, none, none, none], [], h, 0, 0) Q := by
  refine mWp_run 2 (t' := (2, [some (.ref 5), some (.int x1), some (.int x2), some (.int x3), some (.int x4), none, none, none, none], [.int x1, .ref 5], h, 0, 0)) rfl ?_
  exact mWp_iv rfl rfl e1 rfl rfl rfl rfl (mCt_mono k (fun rv hv y => mWp_weak (mLe_s (mLe_n (mLe_s (mLe_s (mLe_s (mLe_n (mLe_n (mLe_n (mLe_n mLe_0))))))))) y))
theorem b84_5 {h : mH} {Q : Option Value → mH → Prop} {x2 : Int32} {x3 : Int32} {x4 : Int32} {vc : Int32} (e1 : h[5]? = some (oJ vc)) (k : mCt mCd 114 [.ref 5, .int x2] h (fun rv hv => mWp mCd 84 (12, [some (.ref 5), none, none, some (.int x3), some (.int x4), some (.null), none, none, none], rv.toList ++ [], hv, 0, 0) Q)) : mWp mCd 84 (5, [some (.ref 5), none, some (.int x2), some (.int x3), some (.int x4), none, none, none, none], [.null], h, 0, 0) Q := by
  refine mWp_run 3 (t' := (9, [some (.ref 5), none, some (.int x2), some (.int x3), some (.int x4), some (.null), none, none, none], [.int x2, .ref 5], h, 0, 0)) rfl ?_
  exact mWp_iv rfl rfl e1 rfl rfl rfl rfl (mCt_mono k (fun rv hv y => mWp_weak (mLe_s (mLe_n (mLe_n (mLe_s (mLe_s (mLe_s (mLe_n (mLe_n (mLe_n mLe_0))))))))) y))
theorem b84_5_1 {h : mH} {Q : Option Value → mH → Prop} {x2 : Int32} {x3 : Int32} {x4 : Int32} {q0 : Nat} {vc : Int32} (e1 : h[5]? = some (oJ vc)) (k : mCt mCd 114 [.ref 5, .int x2] h (fun rv hv => mWp mCd 84 (12, [some (.ref 5), none, none, some (.int x3), some (.int x4), some (.ref q0), none, none, none], rv.toList ++ [], hv, 0, 0) Q)) : mWp mCd 84 (5, [some (.ref 5), none, some (.int x2), some (.int x3), some (.int x4), none, none, none, none], [.ref q0], h, 0, 0) Q := by
  refine mWp_run 3 (t' := (9, [some (.ref 5), none, some (.int x2), some (.int x3), some (.int x4), some (.ref q0), none, none, none], [.int x2, .ref 5], h, 0, 0)) rfl ?_
  exact mWp_iv rfl rfl e1 rfl rfl rfl rfl (mCt_mono k (fun rv hv y => mWp_weak (mLe_s (mLe_n (mLe_n (mLe_s (mLe_s (mLe_s (mLe_n (mLe_n (mLe_n mLe_0))))))))) y))
theorem b84_12 {h : mH} {Q : Option Value → mH → Prop} {x3 : Int32} {x4 : Int32}  (k : Q (some (.int (iZ (-2)))) h) : mWp mCd 84 (12, [some (.ref 5), none, none, some (.int x3), some (.int x4), some (.null), none, none, none], [.null], h, 0, 0) Q := by
  refine mWp_run 4 (t' := (41, [some (.ref 5), none, none, some (.int x3), some (.int x4), some (.null), some (.null), none, none], [.int (iZ (-2))], h, 0, 0)) rfl ?_
  exact mWp_r (v := (some (.int (iZ (-2))))) rfl k
theorem b84_12_1 {h : mH} {Q : Option Value → mH → Prop} {x3 : Int32} {x4 : Int32} {q0 : Nat}  (k : Q (some (.int (iZ (-2)))) h) : mWp mCd 84 (12, [some (.ref 5), none, none, some (.int x3), some (.int x4), some (.null), none, none, none], [.ref q0], h, 0, 0) Q := by
  refine mWp_run 4 (t' := (41, [some (.ref 5), none, none, some (.int x3), some (.int x4), some (.null), some (.ref q0), none, none], [.int (iZ (-2))], h, 0, 0)) rfl ?_
  exact mWp_r (v := (some (.int (iZ (-2))))) rfl k
theorem b84_12_2 {h : mH} {Q : Option Value → mH → Prop} {x3 : Int32} {x4 : Int32} {r5 : Nat}  (k : Q (some (.int (iZ (-2)))) h) : mWp mCd 84 (12, [some (.ref 5), none, none, some (.int x3), some (.int x4), some (.ref r5), none, none, none], [.null], h, 0, 0) Q := by
  refine mWp_run 6 (t' := (41, [some (.ref 5), none, none, some (.int x3), some (.int x4), some (.ref r5), some (.null), none, none], [.int (iZ (-2))], h, 0, 0)) rfl ?_
  exact mWp_r (v := (some (.int (iZ (-2))))) rfl k
theorem b84_12_3 {h : mH} {Q : Option Value → mH → Prop} {x3 : Int32} {x4 : Int32} {r5 : Nat} {q0 : Nat}  (k : mCt mCd 121 [.int x3] h (fun rv hv => mWp mCd 84 (28, [some (.ref 5), none, none, some (.int x3), some (.int x4), some (.ref r5), some (.ref q0), none, none], rv.toList ++ [], hv, 0, 0) Q)) : mWp mCd 84 (12, [some (.ref 5), none, none, some (.int x3), some (.int x4), some (.ref r5), none, none, none], [.ref q0], h, 0, 0) Q := by
  refine mWp_run 6 (t' := (25, [some (.ref 5), none, none, some (.int x3), some (.int x4), some (.ref r5), some (.ref q0), none, none], [.int x3], h, 0, 0)) rfl ?_
  exact mWp_is rfl rfl rfl rfl rfl k
theorem b84_28 {h : mH} {Q : Option Value → mH → Prop} {x3 : Int32} {x4 : Int32} {r5 : Nat} {r6 : Nat} {u0 : Int32}  (k1 : u0 = 0 → mWp mCd 84 (39, [none, none, none, none, none, none, none, none, none], [], h, 0, 0) Q) (k2 : ¬ (u0 = 0) → mWp mCd 84 (31, [some (.ref 5), none, none, some (.int x3), some (.int x4), some (.ref r5), some (.ref r6), none, none], [], h, 0, 0) Q) : mWp mCd 84 (28, [some (.ref 5), none, none, some (.int x3), some (.int x4), some (.ref r5), some (.ref r6), none, none], [.int u0], h, 0, 0) Q := by
  exact mWp_if (P := fun x => x = 0) (a := u0) rfl (fun q => mWp_weak (mLe_n (mLe_n (mLe_n (mLe_n (mLe_n (mLe_n (mLe_n (mLe_n (mLe_n mLe_0))))))))) (k1 q)) k2
theorem b84_39 {h : mH} {Q : Option Value → mH → Prop}   (k : Q (some (.int (iZ (-2)))) h) : mWp mCd 84 (39, [none, none, none, none, none, none, none, none, none], [], h, 0, 0) Q := by
  refine mWp_run 1 (t' := (41, [none, none, none, none, none, none, none, none, none], [.int (iZ (-2))], h, 0, 0)) rfl ?_
  exact mWp_r (v := (some (.int (iZ (-2))))) rfl k
theorem b84_31 {h : mH} {Q : Option Value → mH → Prop} {x3 : Int32} {x4 : Int32} {r5 : Nat} {r6 : Nat}  (k : mCt mCd 121 [.int x4] h (fun rv hv => mWp mCd 84 (36, [some (.ref 5), none, none, some (.int x3), some (.int x4), some (.ref r5), some (.ref r6), none, none], rv.toList ++ [], hv, 0, 0) Q)) : mWp mCd 84 (31, [some (.ref 5), none, none, some (.int x3), some (.int x4), some (.ref r5), some (.ref r6), none, none], [], h, 0, 0) Q := by
  refine mWp_run 1 (t' := (33, [some (.ref 5), none, none, some (.int x3), some (.int x4), some (.ref r5), some (.ref r6), none, none], [.int x4], h, 0, 0)) rfl ?_
  exact mWp_is rfl rfl rfl rfl rfl k
theorem b84_36 {h : mH} {Q : Option Value → mH → Prop} {x3 : Int32} {x4 : Int32} {r5 : Nat} {r6 : Nat} {u0 : Int32}  (k1 : ¬ u0 = 0 → mWp mCd 84 (42, [some (.ref 5), none, none, some (.int x3), some (.int x4), some (.ref r5), some (.ref r6), none, none], [], h, 0, 0) Q) (k2 : ¬ (¬ u0 = 0) → mWp mCd 84 (39, [none, none, none, none, none, none, none, none, none], [], h, 0, 0) Q) : mWp mCd 84 (36, [some (.ref 5), none, none, some (.int x3), some (.int x4), some (.ref r5), some (.ref r6), none, none], [.int u0], h, 0, 0) Q := by
  exact mWp_if (P := fun x => ¬ x = 0) (a := u0) rfl k1 (fun q => mWp_weak (mLe_n (mLe_n (mLe_n (mLe_n (mLe_n (mLe_n (mLe_n (mLe_n (mLe_n mLe_0))))))))) (k2 q))
theorem b84_42 {h : mH} {Q : Option Value → mH → Prop} {x3 : Int32} {x4 : Int32} {r5 : Nat} {r6 : Nat} {ci101 : Nat} {fs102 : List Value} {z103 : Int32} {ci104 : Nat} {fs105 : List Value} {z106 : Int32} (e1 : h[r5]? = some (.inr (ci101, fs102))) (e2 : fs102[1]? = some (.int z103)) (e3 : ([1, 2, 4, 6, 8] : List Nat).contains ci101 = true) (e4 : h[r6]? = some (.inr (ci104, fs105))) (e5 : fs105[1]? = some (.int z106)) (e6 : ([1, 2, 4, 6, 8] : List Nat).contains ci104 = true) (k1 : z103 = z106 → mWp mCd 84 (58, [some (.ref 5), none, none, some (.int x3), some (.int x4), some (.ref r5), some (.ref r6), none, none], [], h, 0, 0) Q) (k2 : ¬ (z103 = z106) → mWp mCd 84 (55, [none, none, none, none, none, none, none, none, none], [], h, 0, 0) Q) : mWp mCd 84 (42, [some (.ref 5), none, none, some (.int x3), some (.int x4), some (.ref r5), some (.ref r6), none, none], [], h, 0, 0) Q := by
  refine mWp_run 1 (t' := (44, [some (.ref 5), none, none, some (.int x3), some (.int x4), some (.ref r5), some (.ref r6), none, none], [.ref r5], h, 0, 0)) rfl ?_
  refine mWp_gf rfl e1 e3 e2 ?_
  refine mWp_run 1 (t' := (49, [some (.ref 5), none, none, some (.int x3), some (.int x4), some (.ref r5), some (.ref r6), none, none], [.ref r6, .int z103], h, 0, 0)) rfl ?_
  refine mWp_gf rfl e4 e6 e5 ?_
  exact mWp_ic (P := fun x y => x = y) (a := z103) (b := z106) rfl k1 (fun q => mWp_weak (mLe_n (mLe_n (mLe_n (mLe_n (mLe_n (mLe_n (mLe_n (mLe_n (mLe_n mLe_0))))))))) (k2 q))
theorem b84_58 {h : mH} {Q : Option Value → mH → Prop} {x3 : Int32} {x4 : Int32} {r5 : Nat} {r6 : Nat} {vc : Int32} (e1 : h[5]? = some (oJ vc)) (k : mCt mCd 115 [.ref 5] h (fun rv hv => mWp mCd 84 (62, [some (.ref 5), none, none, some (.int x3), some (.int x4), some (.ref r5), some (.ref r6), none, none], rv.toList ++ [], hv, 0, 0) Q)) : mWp mCd 84 (58, [some (.ref 5), none, none, some (.int x3), some (.int x4), some (.ref r5), some (.ref r6), none, none], [], h, 0, 0) Q := by
  refine mWp_run 1 (t' := (59, [some (.ref 5), none, none, some (.int x3), some (.int x4), some (.ref r5), some (.ref r6), none, none], [.ref 5], h, 0, 0)) rfl ?_
  exact mWp_iv rfl rfl e1 rfl rfl rfl rfl k
theorem b84_55 {h : mH} {Q : Option Value → mH → Prop}   (k : Q (some (.int (iZ (-3)))) h) : mWp mCd 84 (55, [none, none, none, none, none, none, none, none, none], [], h, 0, 0) Q := by
  refine mWp_run 1 (t' := (57, [none, none, none, none, none, none, none, none, none], [.int (iZ (-3))], h, 0, 0)) rfl ?_
  exact mWp_r (v := (some (.int (iZ (-3))))) rfl k
theorem b84_62 {h : mH} {Q : Option Value → mH → Prop} {x3 : Int32} {x4 : Int32} {r5 : Nat} {r6 : Nat} {u0 : Int32}  (k1 : ¬ u0 = 0 → mWp mCd 84 (78, [none, none, none, none, none, none, none, none, none], [], h, 0, 0) Q) (k2 : ¬ (¬ u0 = 0) → mWp mCd 84 (65, [some (.ref 5), none, none, some (.int x3), some (.int x4), some (.ref r5), some (.ref r6), none, none], [], h, 0, 0) Q) : mWp mCd 84 (62, [some (.ref 5), none, none, some (.int x3), some (.int x4), some (.ref r5), some (.ref r6), none, none], [.int u0], h, 0, 0) Q := by
  exact mWp_if (P := fun x => ¬ x = 0) (a := u0) rfl (fun q => mWp_weak (mLe_n (mLe_n (mLe_n (mLe_n (mLe_n (mLe_n (mLe_n (mLe_n (mLe_n mLe_0))))))))) (k1 q)) k2
theorem b84_78 {h : mH} {Q : Option Value → mH → Prop}   (k : Q (some (.int (iZ (-4)))) h) : mWp mCd 84 (78, [none, none, none, none, none, none, none, none, none], [], h, 0, 0) Q := by
  refine mWp_run 1 (t' := (80, [none, none, none, none, none, none, none, none, none], [.int (iZ (-4))], h, 0, 0)) rfl ?_
  exact mWp_r (v := (some (.int (iZ (-4))))) rfl k
theorem b84_65 {h : mH} {Q : Option Value → mH → Prop} {x3 : Int32} {x4 : Int32} {r5 : Nat} {r6 : Nat}  (k : mCt mCd 117 [.ref r5, .ref r6, .int x3, .int x4] h (fun rv hv => mWp mCd 84 (75, [some (.ref 5), none, none, some (.int x3), some (.int x4), some (.ref r5), some (.ref r6), none, none], rv.toList ++ [], hv, 0, 0) Q)) : mWp mCd 84 (65, [some (.ref 5), none, none, some (.int x3), some (.int x4), some (.ref r5), some (.ref r6), none, none], [], h, 0, 0) Q := by
  refine mWp_run 4 (t' := (72, [some (.ref 5), none, none, some (.int x3), some (.int x4), some (.ref r5), some (.ref r6), none, none], [.int x4, .int x3, .ref r6, .ref r5], h, 0, 0)) rfl ?_
  exact mWp_is rfl rfl rfl rfl rfl k
theorem b84_75 {h : mH} {Q : Option Value → mH → Prop} {x3 : Int32} {x4 : Int32} {r5 : Nat} {r6 : Nat} {u0 : Int32}  (k1 : ¬ u0 = 0 → mWp mCd 84 (81, [some (.ref 5), none, none, some (.int x3), some (.int x4), some (.ref r5), some (.ref r6), none, none], [], h, 0, 0) Q) (k2 : ¬ (¬ u0 = 0) → mWp mCd 84 (78, [none, none, none, none, none, none, none, none, none], [], h, 0, 0) Q) : mWp mCd 84 (75, [some (.ref 5), none, none, some (.int x3), some (.int x4), some (.ref r5), some (.ref r6), none, none], [.int u0], h, 0, 0) Q := by
  exact mWp_if (P := fun x => ¬ x = 0) (a := u0) rfl k1 (fun q => mWp_weak (mLe_n (mLe_n (mLe_n (mLe_n (mLe_n (mLe_n (mLe_n (mLe_n (mLe_n mLe_0))))))))) (k2 q))
theorem b84_81 {h : mH} {Q : Option Value → mH → Prop} {x3 : Int32} {x4 : Int32} {r5 : Nat} {r6 : Nat}  (k : mWp mCd 84 (84, [some (.ref 5), none, none, some (.int x3), some (.int x4), some (.ref r5), some (.ref r6), none, none], [.ref ((h).length)], (h ++ [.inr (2, [.int 0, .int 0, .null, .null, .null, .int 0])]), 1, 6) Q) : mWp mCd 84 (81, [some (.ref 5), none, none, some (.int x3), some (.int x4), some (.ref r5), some (.ref r6), none, none], [], h, 0, 0) Q := by
  refine mWp_run 1 (t' := (84, [some (.ref 5), none, none, some (.int x3), some (.int x4), some (.ref r5), some (.ref r6), none, none], [.ref ((h).length)], (h ++ [.inr (2, [.int 0, .int 0, .null, .null, .null, .int 0])]), 1, 6)) rfl ?_
  exact k
theorem b84_84 {h : mH} {Q : Option Value → mH → Prop} {x3 : Int32} {x4 : Int32} {r5 : Nat} {r6 : Nat} {q0 : Nat} {vc : Int32} {ci101 : Nat} {fs102 : List Value} {z103 : Int32} (e1 : h[5]? = some (oJ vc)) (e2 : h[r5]? = some (.inr (ci101, fs102))) (e3 : fs102[1]? = some (.int z103)) (e4 : ([1, 2, 4, 6, 8] : List Nat).contains ci101 = true) (k : mCt mCd 17 [.ref q0, .int vc, .int z103] h (fun rv hv => mWp mCd 84 (97, [some (.ref 5), none, none, some (.int x3), some (.int x4), some (.ref r5), some (.ref r6), none, none], rv.toList ++ [.ref q0], hv, 9, 158) Q)) : mWp mCd 84 (84, [some (.ref 5), none, none, some (.int x3), some (.int x4), some (.ref r5), some (.ref r6), none, none], [.ref q0], h, 1, 6) Q := by
  refine mWp_run 2 (t' := (86, [some (.ref 5), none, none, some (.int x3), some (.int x4), some (.ref r5), some (.ref r6), none, none], [.ref 5, .ref q0, .ref q0], h, 1, 6)) rfl ?_
  refine mWp_gf rfl e1 rfl rfl ?_
  refine mWp_run 1 (t' := (91, [some (.ref 5), none, none, some (.int x3), some (.int x4), some (.ref r5), some (.ref r6), none, none], [.ref r5, .int vc, .ref q0, .ref q0], h, 1, 6)) rfl ?_
  refine mWp_gf rfl e2 e4 e3 ?_
  exact mWp_ii rfl rfl rfl rfl rfl k
theorem b84_97 {h : mH} {Q : Option Value → mH → Prop} {x3 : Int32} {x4 : Int32} {r5 : Nat} {r6 : Nat} {q0 : Nat}  (k : mWp mCd 84 (102, [some (.ref 5), none, none, some (.int x3), some (.int x4), some (.ref r5), some (.ref r6), some (.ref q0), some (.int (iZ 1))], [], h, 9, 158) Q) : mWp mCd 84 (97, [some (.ref 5), none, none, some (.int x3), some (.int x4), some (.ref r5), some (.ref r6), none, none], [.ref q0], h, 9, 158) Q := by
  refine mWp_run 3 (t' := (102, [some (.ref 5), none, none, some (.int x3), some (.int x4), some (.ref r5), some (.ref r6), some (.ref q0), some (.int (iZ 1))], [], h, 9, 158)) rfl ?_
  exact k
theorem b84_102 {h : mH} {Q : Option Value → mH → Prop} {x3 : Int32} {x4 : Int32} {r5 : Nat} {r6 : Nat} {r7 : Nat} {x8 : Int32} {ci101 : Nat} {fs102 : List Value} (e1 : h[r7]? = some (.inr (ci101, fs102))) (e2 : ci101 = 2) (k : mCt mCd 42 [.ref r7] h (fun rv hv => mWp mCd 84 (109, [some (.ref 5), none, none, some (.int x3), some (.int x4), some (.ref r5), some (.ref r6), some (.ref r7), some (.int x8)], rv.toList ++ [.int x8], hv, 9, 158) Q)) : mWp mCd 84 (102, [some (.ref 5), none, none, some (.int x3), some (.int x4), some (.ref r5), some (.ref r6), some (.ref r7), some (.int x8)], [], h, 9, 158) Q := by
  refine mWp_run 2 (t' := (106, [some (.ref 5), none, none, some (.int x3), some (.int x4), some (.ref r5), some (.ref r6), some (.ref r7), some (.int x8)], [.ref r7, .int x8], h, 9, 158)) rfl ?_
  exact mWp_iv rfl rfl e1 (by rw [e2]; rfl) rfl rfl rfl k
theorem b84_109 {h : mH} {Q : Option Value → mH → Prop} {x3 : Int32} {x4 : Int32} {r5 : Nat} {r6 : Nat} {r7 : Nat} {x8 : Int32} {u0 : Int32} {u1 : Int32}  (k1 : u0 < u1 → mWp mCd 84 (145, [some (.ref 5), none, none, none, none, none, none, some (.ref r7), none], [], h, 9, 158) Q) (k2 : ¬ (u0 < u1) → mWp mCd 84 (112, [some (.ref 5), none, none, some (.int x3), some (.int x4), some (.ref r5), some (.ref r6), some (.ref r7), some (.int x8)], [], h, 9, 158) Q) : mWp mCd 84 (109, [some (.ref 5), none, none, some (.int x3), some (.int x4), some (.ref r5), some (.ref r6), some (.ref r7), some (.int x8)], [.int u0, .int u1], h, 9, 158) Q := by
  exact mWp_ic (P := fun x y => y < x) (a := u1) (b := u0) rfl (fun q => mWp_weak (mLe_s (mLe_n (mLe_n (mLe_n (mLe_n (mLe_n (mLe_n (mLe_s (mLe_n mLe_0))))))))) (k1 q)) k2
theorem b84_145 {h : mH} {Q : Option Value → mH → Prop} {r7 : Nat} {vc : Int32} (e1 : h[5]? = some (oJ vc)) (k : mCt mCd 116 [.ref 5, .ref r7] h (fun rv hv => mWp mCd 84 (151, [none, none, none, none, none, none, none, none, none], rv.toList ++ [], hv, 9, 158) Q)) : mWp mCd 84 (145, [some (.ref 5), none, none, none, none, none, none, some (.ref r7), none], [], h, 9, 158) Q := by
  refine mWp_run 2 (t' := (148, [some (.ref 5), none, none, none, none, none, none, some (.ref r7), none], [.ref r7, .ref 5], h, 9, 158)) rfl ?_
  exact mWp_iv rfl rfl e1 rfl rfl rfl rfl (mCt_mono k (fun rv hv y => mWp_weak (mLe_n (mLe_n (mLe_n (mLe_n (mLe_n (mLe_n (mLe_n (mLe_n (mLe_n mLe_0))))))))) y))
theorem b84_112 {h : mH} {Q : Option Value → mH → Prop} {x3 : Int32} {x4 : Int32} {r5 : Nat} {r6 : Nat} {r7 : Nat} {x8 : Int32} {ci101 : Nat} {fs102 : List Value} (e1 : h[r5]? = some (.inr (ci101, fs102))) (e2 : [1, 2, 4, 6, 8].contains ci101 = true) (k : mCt mCd 46 [.ref r5, .int x8] h (fun rv hv => mWp mCd 84 (124, [some (.ref 5), none, none, some (.int x3), some (.int x4), some (.ref r5), some (.ref r6), some (.ref r7), some (.int x8)], rv.toList ++ [.int x3, .int x8, .ref r7], hv, 9, 158) Q)) : mWp mCd 84 (112, [some (.ref 5), none, none, some (.int x3), some (.int x4), some (.ref r5), some (.ref r6), some (.ref r7), some (.int x8)], [], h, 9, 158) Q := by
  refine mWp_run 5 (t' := (121, [some (.ref 5), none, none, some (.int x3), some (.int x4), some (.ref r5), some (.ref r6), some (.ref r7), some (.int x8)], [.int x8, .ref r5, .int x3, .int x8, .ref r7], h, 9, 158)) rfl ?_
  exact mWp_iv rfl rfl e1 (mS5 e2) rfl rfl rfl k
theorem b84_151 {h : mH} {Q : Option Value → mH → Prop} {u0 : Int32}  (k : Q (some (.int u0)) h) : mWp mCd 84 (151, [none, none, none, none, none, none, none, none, none], [.int u0], h, 9, 158) Q := by
  exact mWp_r (v := (some (.int u0))) rfl k
theorem b84_124 {h : mH} {Q : Option Value → mH → Prop} {x3 : Int32} {x4 : Int32} {r5 : Nat} {r6 : Nat} {r7 : Nat} {x8 : Int32} {u0 : Int32} {u1 : Int32} {u2 : Int32} {q3 : Nat} {ci101 : Nat} {fs102 : List Value} (e1 : h[r6]? = some (.inr (ci101, fs102))) (e2 : [1, 2, 4, 6, 8].contains ci101 = true) (k : mCt mCd 46 [.ref r6, .int x8] h (fun rv hv => mWp mCd 84 (134, [some (.ref 5), none, none, some (.int x3), some (.int x4), some (.ref r5), some (.ref r6), some (.ref r7), some (.int x8)], rv.toList ++ [.int x4, .int (u1 * u0), .int u2, .ref q3], hv, 9, 158) Q)) : mWp mCd 84 (124, [some (.ref 5), none, none, some (.int x3), some (.int x4), some (.ref r5), some (.ref r6), some (.ref r7), some (.int x8)], [.int u0, .int u1, .int u2, .ref q3], h, 9, 158) Q := by
  refine mWp_run 4 (t' := (131, [some (.ref 5), none, none, some (.int x3), some (.int x4), some (.ref r5), some (.ref r6), some (.ref r7), some (.int x8)], [.int x8, .ref r6, .int x4, .int (u1 * u0), .int u2, .ref q3], h, 9, 158)) rfl ?_
  exact mWp_iv rfl rfl e1 (mS5 e2) rfl rfl rfl k
theorem b84_134 {h : mH} {Q : Option Value → mH → Prop} {x3 : Int32} {x4 : Int32} {r5 : Nat} {r6 : Nat} {r7 : Nat} {x8 : Int32} {u0 : Int32} {u1 : Int32} {u2 : Int32} {u3 : Int32} {q4 : Nat} {ci101 : Nat} {fs102 : List Value} (e1 : h[q4]? = some (.inr (ci101, fs102))) (e2 : ci101 = 2) (k : mCt mCd 48 [.ref q4, .int u3, .int (u2 + (u1 * u0))] h (fun rv hv => mWp mCd 84 (139, [some (.ref 5), none, none, some (.int x3), some (.int x4), some (.ref r5), some (.ref r6), some (.ref r7), some (.int x8)], rv.toList ++ [], hv, 9, 158) Q)) : mWp mCd 84 (134, [some (.ref 5), none, none, some (.int x3), some (.int x4), some (.ref r5), some (.ref r6), some (.ref r7), some (.int x8)], [.int u0, .int u1, .int u2, .int u3, .ref q4], h, 9, 158) Q := by
  refine mWp_run 2 (t' := (136, [some (.ref 5), none, none, some (.int x3), some (.int x4), some (.ref r5), some (.ref r6), some (.ref r7), some (.int x8)], [.int (u2 + (u1 * u0)), .int u3, .ref q4], h, 9, 158)) rfl ?_
  exact mWp_iv rfl rfl e1 (by rw [e2]; rfl) rfl rfl rfl k
theorem b84_139 {h : mH} {Q : Option Value → mH → Prop} {x3 : Int32} {x4 : Int32} {r5 : Nat} {r6 : Nat} {r7 : Nat} {x8 : Int32}  (k : mWp mCd 84 (102, [some (.ref 5), none, none, some (.int x3), some (.int x4), some (.ref r5), some (.ref r6), some (.ref r7), some (.int (x8 + iZ 1))], [], h, 9, 158) Q) : mWp mCd 84 (139, [some (.ref 5), none, none, some (.int x3), some (.int x4), some (.ref r5), some (.ref r6), some (.ref r7), some (.int x8)], [], h, 9, 158) Q := by
  refine mWp_run 2 (t' := (102, [some (.ref 5), none, none, some (.int x3), some (.int x4), some (.ref r5), some (.ref r6), some (.ref r7), some (.int (x8 + iZ 1))], [], h, 9, 158)) rfl ?_
  exact k
theorem b85_0 {h : mH} {Q : Option Value → mH → Prop} {x1 : Int32} {x2 : Int32} {vc : Int32} (e1 : h[5]? = some (oJ vc)) (k : mCt mCd 114 [.ref 5, .int x1] h (fun rv hv => mWp mCd 85 (5, [some (.ref 5), none, some (.int x2), none, none, none], rv.toList ++ [], hv, 0, 0) Q)) : mWp mCd 85 (0, [some (.ref 5), some (.int x1), some (.int x2), none, none, none], [], h, 0, 0) Q := by
  refine mWp_run 2 (t' := (2, [some (.ref 5), some (.int x1), some (.int x2), none, none, none], [.int x1, .ref 5], h, 0, 0)) rfl ?_
  exact mWp_iv rfl rfl e1 rfl rfl rfl rfl (mCt_mono k (fun rv hv y => mWp_weak (mLe_s (mLe_n (mLe_s (mLe_n (mLe_n (mLe_n mLe_0)))))) y))
theorem b85_5 {h : mH} {Q : Option Value → mH → Prop} {x2 : Int32}  (k : Q (some (.int (iZ (-2)))) h) : mWp mCd 85 (5, [some (.ref 5), none, some (.int x2), none, none, none], [.null], h, 0, 0) Q := by
  refine mWp_run 4 (t' := (20, [some (.ref 5), none, some (.int x2), some (.null), none, none], [.int (iZ (-2))], h, 0, 0)) rfl ?_
  exact mWp_r (v := (some (.int (iZ (-2))))) rfl k
theorem b85_5_1 {h : mH} {Q : Option Value → mH → Prop} {x2 : Int32} {q0 : Nat} {ci101 : Nat} {fs102 : List Value} (e1 : h[q0]? = some (.inr (ci101, fs102))) (e2 : [1, 2, 4, 6, 8].contains ci101 = true) (k : mCt mCd 43 [.ref q0, .int x2] h (fun rv hv => mWp mCd 85 (15, [some (.ref 5), none, some (.int x2), some (.ref q0), none, none], rv.toList ++ [], hv, 0, 0) Q)) : mWp mCd 85 (5, [some (.ref 5), none, some (.int x2), none, none, none], [.ref q0], h, 0, 0) Q := by
  refine mWp_run 5 (t' := (12, [some (.ref 5), none, some (.int x2), some (.ref q0), none, none], [.int x2, .ref q0], h, 0, 0)) rfl ?_
  exact mWp_iv rfl rfl e1 (mS5 e2) rfl rfl rfl k
theorem b85_15 {h : mH} {Q : Option Value → mH → Prop} {x2 : Int32} {r3 : Nat} {u0 : Int32}  (k1 : ¬ u0 = 0 → mWp mCd 85 (21, [some (.ref 5), none, some (.int x2), some (.ref r3), none, none], [], h, 0, 0) Q) (k2 : ¬ (¬ u0 = 0) → mWp mCd 85 (18, [none, none, none, none, none, none], [], h, 0, 0) Q) : mWp mCd 85 (15, [some (.ref 5), none, some (.int x2), some (.ref r3), none, none], [.int u0], h, 0, 0) Q := by
  exact mWp_if (P := fun x => ¬ x = 0) (a := u0) rfl k1 (fun q => mWp_weak (mLe_n (mLe_n (mLe_n (mLe_n (mLe_n (mLe_n mLe_0)))))) (k2 q))
theorem b85_21 {h : mH} {Q : Option Value → mH → Prop} {x2 : Int32} {r3 : Nat} {ci101 : Nat} {fs102 : List Value} {z103 : Int32} (e1 : h[r3]? = some (.inr (ci101, fs102))) (e2 : fs102[1]? = some (.int z103)) (e3 : ([1, 2, 4, 6, 8] : List Nat).contains ci101 = true) (k1 : ¬ z103 = (iZ 1) → mWp mCd 85 (32, [some (.ref 5), none, some (.int x2), some (.ref r3), none, none], [], h, 0, 0) Q) (k2 : ¬ (¬ z103 = (iZ 1)) → mWp mCd 85 (29, [none, none, none, none, none, none], [], h, 0, 0) Q) : mWp mCd 85 (21, [some (.ref 5), none, some (.int x2), some (.ref r3), none, none], [], h, 0, 0) Q := by
  refine mWp_run 1 (t' := (22, [some (.ref 5), none, some (.int x2), some (.ref r3), none, none], [.ref r3], h, 0, 0)) rfl ?_
  refine mWp_gf rfl e1 e3 e2 ?_
  refine mWp_run 1 (t' := (26, [some (.ref 5), none, some (.int x2), some (.ref r3), none, none], [.int (iZ 1), .int z103], h, 0, 0)) rfl ?_
  exact mWp_ic (P := fun x y => ¬ x = y) (a := z103) (b := iZ 1) rfl k1 (fun q => mWp_weak (mLe_n (mLe_n (mLe_n (mLe_n (mLe_n (mLe_n mLe_0)))))) (k2 q))
theorem b85_18 {h : mH} {Q : Option Value → mH → Prop}   (k : Q (some (.int (iZ (-2)))) h) : mWp mCd 85 (18, [none, none, none, none, none, none], [], h, 0, 0) Q := by
  refine mWp_run 1 (t' := (20, [none, none, none, none, none, none], [.int (iZ (-2))], h, 0, 0)) rfl ?_
  exact mWp_r (v := (some (.int (iZ (-2))))) rfl k
theorem b85_32 {h : mH} {Q : Option Value → mH → Prop} {x2 : Int32} {r3 : Nat} {vc : Int32} (e1 : h[5]? = some (oJ vc)) (k : mCt mCd 115 [.ref 5] h (fun rv hv => mWp mCd 85 (36, [some (.ref 5), none, some (.int x2), some (.ref r3), none, none], rv.toList ++ [], hv, 0, 0) Q)) : mWp mCd 85 (32, [some (.ref 5), none, some (.int x2), some (.ref r3), none, none], [], h, 0, 0) Q := by
  refine mWp_run 1 (t' := (33, [some (.ref 5), none, some (.int x2), some (.ref r3), none, none], [.ref 5], h, 0, 0)) rfl ?_
  exact mWp_iv rfl rfl e1 rfl rfl rfl rfl k
theorem b85_29 {h : mH} {Q : Option Value → mH → Prop}   (k : Q (some (.int (iZ (-3)))) h) : mWp mCd 85 (29, [none, none, none, none, none, none], [], h, 0, 0) Q := by
  refine mWp_run 1 (t' := (31, [none, none, none, none, none, none], [.int (iZ (-3))], h, 0, 0)) rfl ?_
  exact mWp_r (v := (some (.int (iZ (-3))))) rfl k
theorem b85_36 {h : mH} {Q : Option Value → mH → Prop} {x2 : Int32} {r3 : Nat} {u0 : Int32}  (k1 : u0 = 0 → mWp mCd 85 (42, [some (.ref 5), none, some (.int x2), some (.ref r3), none, none], [], h, 0, 0) Q) (k2 : ¬ (u0 = 0) → mWp mCd 85 (39, [none, none, none, none, none, none], [], h, 0, 0) Q) : mWp mCd 85 (36, [some (.ref 5), none, some (.int x2), some (.ref r3), none, none], [.int u0], h, 0, 0) Q := by
  exact mWp_if (P := fun x => x = 0) (a := u0) rfl k1 (fun q => mWp_weak (mLe_n (mLe_n (mLe_n (mLe_n (mLe_n (mLe_n mLe_0)))))) (k2 q))
theorem b85_42 {h : mH} {Q : Option Value → mH → Prop} {x2 : Int32} {r3 : Nat}  (k : mWp mCd 85 (45, [some (.ref 5), none, some (.int x2), some (.ref r3), none, none], [.ref ((h).length)], (h ++ [.inr (2, [.int 0, .int 0, .null, .null, .null, .int 0])]), 1, 6) Q) : mWp mCd 85 (42, [some (.ref 5), none, some (.int x2), some (.ref r3), none, none], [], h, 0, 0) Q := by
  refine mWp_run 1 (t' := (45, [some (.ref 5), none, some (.int x2), some (.ref r3), none, none], [.ref ((h).length)], (h ++ [.inr (2, [.int 0, .int 0, .null, .null, .null, .int 0])]), 1, 6)) rfl ?_
  exact k
theorem b85_39 {h : mH} {Q : Option Value → mH → Prop}   (k : Q (some (.int (iZ (-4)))) h) : mWp mCd 85 (39, [none, none, none, none, none, none], [], h, 0, 0) Q := by
  refine mWp_run 1 (t' := (41, [none, none, none, none, none, none], [.int (iZ (-4))], h, 0, 0)) rfl ?_
  exact mWp_r (v := (some (.int (iZ (-4))))) rfl k
theorem b85_45 {h : mH} {Q : Option Value → mH → Prop} {x2 : Int32} {r3 : Nat} {q0 : Nat} {vc : Int32} {ci101 : Nat} {fs102 : List Value} {z103 : Int32} (e1 : h[5]? = some (oJ vc)) (e2 : h[r3]? = some (.inr (ci101, fs102))) (e3 : fs102[1]? = some (.int z103)) (e4 : ([1, 2, 4, 6, 8] : List Nat).contains ci101 = true) (k : mCt mCd 17 [.ref q0, .int vc, .int (z103 - (iZ 1))] h (fun rv hv => mWp mCd 85 (59, [some (.ref 5), none, some (.int x2), some (.ref r3), none, none], rv.toList ++ [.ref q0], hv, 9, 158) Q)) : mWp mCd 85 (45, [some (.ref 5), none, some (.int x2), some (.ref r3), none, none], [.ref q0], h, 1, 6) Q := by
  refine mWp_run 2 (t' := (47, [some (.ref 5), none, some (.int x2), some (.ref r3), none, none], [.ref 5, .ref q0, .ref q0], h, 1, 6)) rfl ?_
  refine mWp_gf rfl e1 rfl rfl ?_
  refine mWp_run 1 (t' := (51, [some (.ref 5), none, some (.int x2), some (.ref r3), none, none], [.ref r3, .int vc, .ref q0, .ref q0], h, 1, 6)) rfl ?_
  refine mWp_gf rfl e2 e4 e3 ?_
  refine mWp_run 2 (t' := (56, [some (.ref 5), none, some (.int x2), some (.ref r3), none, none], [.int (z103 - (iZ 1)), .int vc, .ref q0, .ref q0], h, 1, 6)) rfl ?_
  exact mWp_ii rfl rfl rfl rfl rfl k
theorem b85_59 {h : mH} {Q : Option Value → mH → Prop} {x2 : Int32} {r3 : Nat} {q0 : Nat}  (k : mWp mCd 85 (64, [some (.ref 5), none, some (.int x2), some (.ref r3), some (.ref q0), some (.int (iZ 1))], [], h, 9, 158) Q) : mWp mCd 85 (59, [some (.ref 5), none, some (.int x2), some (.ref r3), none, none], [.ref q0], h, 9, 158) Q := by
  refine mWp_run 3 (t' := (64, [some (.ref 5), none, some (.int x2), some (.ref r3), some (.ref q0), some (.int (iZ 1))], [], h, 9, 158)) rfl ?_
  exact k
theorem b85_64 {h : mH} {Q : Option Value → mH → Prop} {x2 : Int32} {r3 : Nat} {r4 : Nat} {x5 : Int32} {ci101 : Nat} {fs102 : List Value} (e1 : h[r4]? = some (.inr (ci101, fs102))) (e2 : ci101 = 2) (k : mCt mCd 42 [.ref r4] h (fun rv hv => mWp mCd 85 (71, [some (.ref 5), none, some (.int x2), some (.ref r3), some (.ref r4), some (.int x5)], rv.toList ++ [.int x5], hv, 9, 158) Q)) : mWp mCd 85 (64, [some (.ref 5), none, some (.int x2), some (.ref r3), some (.ref r4), some (.int x5)], [], h, 9, 158) Q := by
  refine mWp_run 2 (t' := (68, [some (.ref 5), none, some (.int x2), some (.ref r3), some (.ref r4), some (.int x5)], [.ref r4, .int x5], h, 9, 158)) rfl ?_
  exact mWp_iv rfl rfl e1 (by rw [e2]; rfl) rfl rfl rfl k
theorem b85_71 {h : mH} {Q : Option Value → mH → Prop} {x2 : Int32} {r3 : Nat} {r4 : Nat} {x5 : Int32} {u0 : Int32} {u1 : Int32}  (k1 : u0 < u1 → mWp mCd 85 (97, [some (.ref 5), none, none, none, some (.ref r4), none], [], h, 9, 158) Q) (k2 : ¬ (u0 < u1) → mWp mCd 85 (74, [some (.ref 5), none, some (.int x2), some (.ref r3), some (.ref r4), some (.int x5)], [], h, 9, 158) Q) : mWp mCd 85 (71, [some (.ref 5), none, some (.int x2), some (.ref r3), some (.ref r4), some (.int x5)], [.int u0, .int u1], h, 9, 158) Q := by
  exact mWp_ic (P := fun x y => y < x) (a := u1) (b := u0) rfl (fun q => mWp_weak (mLe_s (mLe_n (mLe_n (mLe_n (mLe_s (mLe_n mLe_0)))))) (k1 q)) k2
theorem b85_97 {h : mH} {Q : Option Value → mH → Prop} {r4 : Nat} {vc : Int32} (e1 : h[5]? = some (oJ vc)) (k : mCt mCd 116 [.ref 5, .ref r4] h (fun rv hv => mWp mCd 85 (103, [none, none, none, none, none, none], rv.toList ++ [], hv, 9, 158) Q)) : mWp mCd 85 (97, [some (.ref 5), none, none, none, some (.ref r4), none], [], h, 9, 158) Q := by
  refine mWp_run 2 (t' := (100, [some (.ref 5), none, none, none, some (.ref r4), none], [.ref r4, .ref 5], h, 9, 158)) rfl ?_
  exact mWp_iv rfl rfl e1 rfl rfl rfl rfl (mCt_mono k (fun rv hv y => mWp_weak (mLe_n (mLe_n (mLe_n (mLe_n (mLe_n (mLe_n mLe_0)))))) y))
theorem b85_74 {h : mH} {Q : Option Value → mH → Prop} {x2 : Int32} {r3 : Nat} {r4 : Nat} {x5 : Int32}  (k : mCt mCd 127 [.int x5, .int x2] h (fun rv hv => mWp mCd 85 (85, [some (.ref 5), none, some (.int x2), some (.ref r3), some (.ref r4), some (.int x5)], rv.toList ++ [.ref r3, .int x5, .ref r4], hv, 9, 158) Q)) : mWp mCd 85 (74, [some (.ref 5), none, some (.int x2), some (.ref r3), some (.ref r4), some (.int x5)], [], h, 9, 158) Q := by
  refine mWp_run 5 (t' := (82, [some (.ref 5), none, some (.int x2), some (.ref r3), some (.ref r4), some (.int x5)], [.int x2, .int x5, .ref r3, .int x5, .ref r4], h, 9, 158)) rfl ?_
  exact mWp_is rfl rfl rfl rfl rfl k
theorem b85_103 {h : mH} {Q : Option Value → mH → Prop} {u0 : Int32}  (k : Q (some (.int u0)) h) : mWp mCd 85 (103, [none, none, none, none, none, none], [.int u0], h, 9, 158) Q := by
  exact mWp_r (v := (some (.int u0))) rfl k
theorem b85_85 {h : mH} {Q : Option Value → mH → Prop} {x2 : Int32} {r3 : Nat} {r4 : Nat} {x5 : Int32} {u0 : Int32} {q1 : Nat} {u2 : Int32} {q3 : Nat} {ci101 : Nat} {fs102 : List Value} (e1 : h[q1]? = some (.inr (ci101, fs102))) (e2 : [1, 2, 4, 6, 8].contains ci101 = true) (k : mCt mCd 46 [.ref q1, .int u0] h (fun rv hv => mWp mCd 85 (88, [some (.ref 5), none, some (.int x2), some (.ref r3), some (.ref r4), some (.int x5)], rv.toList ++ [.int u2, .ref q3], hv, 9, 158) Q)) : mWp mCd 85 (85, [some (.ref 5), none, some (.int x2), some (.ref r3), some (.ref r4), some (.int x5)], [.int u0, .ref q1, .int u2, .ref q3], h, 9, 158) Q := by
  exact mWp_iv rfl rfl e1 (mS5 e2) rfl rfl rfl k
theorem b85_88 {h : mH} {Q : Option Value → mH → Prop} {x2 : Int32} {r3 : Nat} {r4 : Nat} {x5 : Int32} {u0 : Int32} {u1 : Int32} {q2 : Nat} {ci101 : Nat} {fs102 : List Value} (e1 : h[q2]? = some (.inr (ci101, fs102))) (e2 : ci101 = 2) (k : mCt mCd 48 [.ref q2, .int u1, .int u0] h (fun rv hv => mWp mCd 85 (91, [some (.ref 5), none, some (.int x2), some (.ref r3), some (.ref r4), some (.int x5)], rv.toList ++ [], hv, 9, 158) Q)) : mWp mCd 85 (88, [some (.ref 5), none, some (.int x2), some (.ref r3), some (.ref r4), some (.int x5)], [.int u0, .int u1, .ref q2], h, 9, 158) Q := by
  exact mWp_iv rfl rfl e1 (by rw [e2]; rfl) rfl rfl rfl k
theorem b85_91 {h : mH} {Q : Option Value → mH → Prop} {x2 : Int32} {r3 : Nat} {r4 : Nat} {x5 : Int32}  (k : mWp mCd 85 (64, [some (.ref 5), none, some (.int x2), some (.ref r3), some (.ref r4), some (.int (x5 + iZ 1))], [], h, 9, 158) Q) : mWp mCd 85 (91, [some (.ref 5), none, some (.int x2), some (.ref r3), some (.ref r4), some (.int x5)], [], h, 9, 158) Q := by
  refine mWp_run 2 (t' := (64, [some (.ref 5), none, some (.int x2), some (.ref r3), some (.ref r4), some (.int (x5 + iZ 1))], [], h, 9, 158)) rfl ?_
  exact k
theorem b86_0 {h : mH} {Q : Option Value → mH → Prop} {x1 : Int32} {x2 : Int32} {x3 : Int32} {vc : Int32} (e1 : h[5]? = some (oJ vc)) (k : mCt mCd 114 [.ref 5, .int x1] h (fun rv hv => mWp mCd 86 (5, [some (.ref 5), none, some (.int x2), some (.int x3), none, none, none], rv.toList ++ [], hv, 0, 0) Q)) : mWp mCd 86 (0, [some (.ref 5), some (.int x1), some (.int x2), some (.int x3), none, none, none], [], h, 0, 0) Q := by
  refine mWp_run 2 (t' := (2, [some (.ref 5), some (.int x1), some (.int x2), some (.int x3), none, none, none], [.int x1, .ref 5], h, 0, 0)) rfl ?_
  exact mWp_iv rfl rfl e1 rfl rfl rfl rfl (mCt_mono k (fun rv hv y => mWp_weak (mLe_s (mLe_n (mLe_s (mLe_s (mLe_n (mLe_n (mLe_n mLe_0))))))) y))
theorem b86_5 {h : mH} {Q : Option Value → mH → Prop} {x2 : Int32} {x3 : Int32}  (k : Q (some (.int (iZ (-2)))) h) : mWp mCd 86 (5, [some (.ref 5), none, some (.int x2), some (.int x3), none, none, none], [.null], h, 0, 0) Q := by
  refine mWp_run 4 (t' := (37, [some (.ref 5), none, some (.int x2), some (.int x3), some (.null), none, none], [.int (iZ (-2))], h, 0, 0)) rfl ?_
  exact mWp_r (v := (some (.int (iZ (-2))))) rfl k
theorem b86_5_1 {h : mH} {Q : Option Value → mH → Prop} {x2 : Int32} {x3 : Int32} {q0 : Nat} {ci101 : Nat} {fs102 : List Value} (e1 : h[q0]? = some (.inr (ci101, fs102))) (e2 : [1, 2, 4, 6, 8].contains ci101 = true) (k : mCt mCd 43 [.ref q0, .int x2] h (fun rv hv => mWp mCd 86 (18, [some (.ref 5), none, some (.int x2), some (.int x3), some (.ref q0), none, none], rv.toList ++ [], hv, 0, 0) Q)) : mWp mCd 86 (5, [some (.ref 5), none, some (.int x2), some (.int x3), none, none, none], [.ref q0], h, 0, 0) Q := by
  refine mWp_run 5 (t' := (15, [some (.ref 5), none, some (.int x2), some (.int x3), some (.ref q0), none, none], [.int x2, .ref q0], h, 0, 0)) rfl ?_
  exact mWp_iv rfl rfl e1 (mS5 e2) rfl rfl rfl k
theorem b86_18 {h : mH} {Q : Option Value → mH → Prop} {x2 : Int32} {x3 : Int32} {r4 : Nat} {u0 : Int32}  (k1 : u0 = 0 → mWp mCd 86 (35, [none, none, none, none, none, none, none], [], h, 0, 0) Q) (k2 : ¬ (u0 = 0) → mWp mCd 86 (21, [some (.ref 5), none, some (.int x2), some (.int x3), some (.ref r4), none, none], [], h, 0, 0) Q) : mWp mCd 86 (18, [some (.ref 5), none, some (.int x2), some (.int x3), some (.ref r4), none, none], [.int u0], h, 0, 0) Q := by
  exact mWp_if (P := fun x => x = 0) (a := u0) rfl (fun q => mWp_weak (mLe_n (mLe_n (mLe_n (mLe_n (mLe_n (mLe_n (mLe_n mLe_0))))))) (k1 q)) k2
theorem b86_35 {h : mH} {Q : Option Value → mH → Prop}   (k : Q (some (.int (iZ (-2)))) h) : mWp mCd 86 (35, [none, none, none, none, none, none, none], [], h, 0, 0) Q := by
  refine mWp_run 1 (t' := (37, [none, none, none, none, none, none, none], [.int (iZ (-2))], h, 0, 0)) rfl ?_
  exact mWp_r (v := (some (.int (iZ (-2))))) rfl k
theorem b86_21 {h : mH} {Q : Option Value → mH → Prop} {x2 : Int32} {x3 : Int32} {r4 : Nat} {ci101 : Nat} {fs102 : List Value} (e1 : h[r4]? = some (.inr (ci101, fs102))) (e2 : [1, 2, 4, 6, 8].contains ci101 = true) (k : mCt mCd 43 [.ref r4, .int x3] h (fun rv hv => mWp mCd 86 (27, [some (.ref 5), none, some (.int x2), some (.int x3), some (.ref r4), none, none], rv.toList ++ [], hv, 0, 0) Q)) : mWp mCd 86 (21, [some (.ref 5), none, some (.int x2), some (.int x3), some (.ref r4), none, none], [], h, 0, 0) Q := by
  refine mWp_run 2 (t' := (24, [some (.ref 5), none, some (.int x2), some (.int x3), some (.ref r4), none, none], [.int x3, .ref r4], h, 0, 0)) rfl ?_
  exact mWp_iv rfl rfl e1 (mS5 e2) rfl rfl rfl k
theorem b86_27 {h : mH} {Q : Option Value → mH → Prop} {x2 : Int32} {x3 : Int32} {r4 : Nat} {u0 : Int32}  (k1 : u0 = 0 → mWp mCd 86 (35, [none, none, none, none, none, none, none], [], h, 0, 0) Q) (k2 : ¬ (u0 = 0) → mWp mCd 86 (30, [some (.ref 5), none, some (.int x2), some (.int x3), some (.ref r4), none, none], [], h, 0, 0) Q) : mWp mCd 86 (27, [some (.ref 5), none, some (.int x2), some (.int x3), some (.ref r4), none, none], [.int u0], h, 0, 0) Q := by
  exact mWp_if (P := fun x => x = 0) (a := u0) rfl (fun q => mWp_weak (mLe_n (mLe_n (mLe_n (mLe_n (mLe_n (mLe_n (mLe_n mLe_0))))))) (k1 q)) k2
theorem b86_30 {h : mH} {Q : Option Value → mH → Prop} {x2 : Int32} {x3 : Int32} {r4 : Nat}  (k1 : x2 < x3 → mWp mCd 86 (38, [some (.ref 5), none, some (.int x2), some (.int x3), some (.ref r4), none, none], [], h, 0, 0) Q) (k2 : ¬ (x2 < x3) → mWp mCd 86 (35, [none, none, none, none, none, none, none], [], h, 0, 0) Q) : mWp mCd 86 (30, [some (.ref 5), none, some (.int x2), some (.int x3), some (.ref r4), none, none], [], h, 0, 0) Q := by
  refine mWp_run 2 (t' := (32, [some (.ref 5), none, some (.int x2), some (.int x3), some (.ref r4), none, none], [.int x3, .int x2], h, 0, 0)) rfl ?_
  exact mWp_ic (P := fun x y => x < y) (a := x2) (b := x3) rfl k1 (fun q => mWp_weak (mLe_n (mLe_n (mLe_n (mLe_n (mLe_n (mLe_n (mLe_n mLe_0))))))) (k2 q))
theorem b86_38 {h : mH} {Q : Option Value → mH → Prop} {x2 : Int32} {x3 : Int32} {r4 : Nat} {vc : Int32} (e1 : h[5]? = some (oJ vc)) (k : mCt mCd 115 [.ref 5] h (fun rv hv => mWp mCd 86 (42, [some (.ref 5), none, some (.int x2), some (.int x3), some (.ref r4), none, none], rv.toList ++ [], hv, 0, 0) Q)) : mWp mCd 86 (38, [some (.ref 5), none, some (.int x2), some (.int x3), some (.ref r4), none, none], [], h, 0, 0) Q := by
  refine mWp_run 1 (t' := (39, [some (.ref 5), none, some (.int x2), some (.int x3), some (.ref r4), none, none], [.ref 5], h, 0, 0)) rfl ?_
  exact mWp_iv rfl rfl e1 rfl rfl rfl rfl k
theorem b86_42 {h : mH} {Q : Option Value → mH → Prop} {x2 : Int32} {x3 : Int32} {r4 : Nat} {u0 : Int32}  (k1 : u0 = 0 → mWp mCd 86 (48, [some (.ref 5), none, some (.int x2), some (.int x3), some (.ref r4), none, none], [], h, 0, 0) Q) (k2 : ¬ (u0 = 0) → mWp mCd 86 (45, [none, none, none, none, none, none, none], [], h, 0, 0) Q) : mWp mCd 86 (42, [some (.ref 5), none, some (.int x2), some (.int x3), some (.ref r4), none, none], [.int u0], h, 0, 0) Q := by
  exact mWp_if (P := fun x => x = 0) (a := u0) rfl k1 (fun q => mWp_weak (mLe_n (mLe_n (mLe_n (mLe_n (mLe_n (mLe_n (mLe_n mLe_0))))))) (k2 q))
theorem b86_48 {h : mH} {Q : Option Value → mH → Prop} {x2 : Int32} {x3 : Int32} {r4 : Nat}  (k : mWp mCd 86 (51, [some (.ref 5), none, some (.int x2), some (.int x3), some (.ref r4), none, none], [.ref ((h).length)], (h ++ [.inr (2, [.int 0, .int 0, .null, .null, .null, .int 0])]), 1, 6) Q) : mWp mCd 86 (48, [some (.ref 5), none, some (.int x2), some (.int x3), some (.ref r4), none, none], [], h, 0, 0) Q := by
  refine mWp_run 1 (t' := (51, [some (.ref 5), none, some (.int x2), some (.int x3), some (.ref r4), none, none], [.ref ((h).length)], (h ++ [.inr (2, [.int 0, .int 0, .null, .null, .null, .int 0])]), 1, 6)) rfl ?_
  exact k
theorem b86_45 {h : mH} {Q : Option Value → mH → Prop}   (k : Q (some (.int (iZ (-4)))) h) : mWp mCd 86 (45, [none, none, none, none, none, none, none], [], h, 0, 0) Q := by
  refine mWp_run 1 (t' := (47, [none, none, none, none, none, none, none], [.int (iZ (-4))], h, 0, 0)) rfl ?_
  exact mWp_r (v := (some (.int (iZ (-4))))) rfl k
theorem b86_51 {h : mH} {Q : Option Value → mH → Prop} {x2 : Int32} {x3 : Int32} {r4 : Nat} {q0 : Nat} {vc : Int32} {ci101 : Nat} {fs102 : List Value} {z103 : Int32} (e1 : h[5]? = some (oJ vc)) (e2 : h[r4]? = some (.inr (ci101, fs102))) (e3 : fs102[1]? = some (.int z103)) (e4 : ([1, 2, 4, 6, 8] : List Nat).contains ci101 = true) (k : mCt mCd 17 [.ref q0, .int vc, .int (z103 - (iZ 1))] h (fun rv hv => mWp mCd 86 (66, [some (.ref 5), none, some (.int x2), some (.int x3), some (.ref r4), none, none], rv.toList ++ [.ref q0], hv, 9, 158) Q)) : mWp mCd 86 (51, [some (.ref 5), none, some (.int x2), some (.int x3), some (.ref r4), none, none], [.ref q0], h, 1, 6) Q := by
  refine mWp_run 2 (t' := (53, [some (.ref 5), none, some (.int x2), some (.int x3), some (.ref r4), none, none], [.ref 5, .ref q0, .ref q0], h, 1, 6)) rfl ?_
  refine mWp_gf rfl e1 rfl rfl ?_
  refine mWp_run 1 (t' := (58, [some (.ref 5), none, some (.int x2), some (.int x3), some (.ref r4), none, none], [.ref r4, .int vc, .ref q0, .ref q0], h, 1, 6)) rfl ?_
  refine mWp_gf rfl e2 e4 e3 ?_
  refine mWp_run 2 (t' := (63, [some (.ref 5), none, some (.int x2), some (.int x3), some (.ref r4), none, none], [.int (z103 - (iZ 1)), .int vc, .ref q0, .ref q0], h, 1, 6)) rfl ?_
  exact mWp_ii rfl rfl rfl rfl rfl k
theorem b86_66 {h : mH} {Q : Option Value → mH → Prop} {x2 : Int32} {x3 : Int32} {r4 : Nat} {q0 : Nat}  (k : mWp mCd 86 (71, [some (.ref 5), none, some (.int x2), some (.int x3), some (.ref r4), some (.ref q0), some (.int (iZ 1))], [], h, 9, 158) Q) : mWp mCd 86 (66, [some (.ref 5), none, some (.int x2), some (.int x3), some (.ref r4), none, none], [.ref q0], h, 9, 158) Q := by
  refine mWp_run 3 (t' := (71, [some (.ref 5), none, some (.int x2), some (.int x3), some (.ref r4), some (.ref q0), some (.int (iZ 1))], [], h, 9, 158)) rfl ?_
  exact k
theorem b86_71 {h : mH} {Q : Option Value → mH → Prop} {x2 : Int32} {x3 : Int32} {r4 : Nat} {r5 : Nat} {x6 : Int32} {ci101 : Nat} {fs102 : List Value} (e1 : h[r5]? = some (.inr (ci101, fs102))) (e2 : ci101 = 2) (k : mCt mCd 42 [.ref r5] h (fun rv hv => mWp mCd 86 (78, [some (.ref 5), none, some (.int x2), some (.int x3), some (.ref r4), some (.ref r5), some (.int x6)], rv.toList ++ [.int x6], hv, 9, 158) Q)) : mWp mCd 86 (71, [some (.ref 5), none, some (.int x2), some (.int x3), some (.ref r4), some (.ref r5), some (.int x6)], [], h, 9, 158) Q := by
  refine mWp_run 2 (t' := (75, [some (.ref 5), none, some (.int x2), some (.int x3), some (.ref r4), some (.ref r5), some (.int x6)], [.ref r5, .int x6], h, 9, 158)) rfl ?_
  exact mWp_iv rfl rfl e1 (by rw [e2]; rfl) rfl rfl rfl k
theorem b86_78 {h : mH} {Q : Option Value → mH → Prop} {x2 : Int32} {x3 : Int32} {r4 : Nat} {r5 : Nat} {x6 : Int32} {u0 : Int32} {u1 : Int32}  (k1 : u0 < u1 → mWp mCd 86 (114, [some (.ref 5), none, none, none, none, some (.ref r5), none], [], h, 9, 158) Q) (k2 : ¬ (u0 < u1) → mWp mCd 86 (81, [some (.ref 5), none, some (.int x2), some (.int x3), some (.ref r4), some (.ref r5), some (.int x6)], [], h, 9, 158) Q) : mWp mCd 86 (78, [some (.ref 5), none, some (.int x2), some (.int x3), some (.ref r4), some (.ref r5), some (.int x6)], [.int u0, .int u1], h, 9, 158) Q := by
  exact mWp_ic (P := fun x y => y < x) (a := u1) (b := u0) rfl (fun q => mWp_weak (mLe_s (mLe_n (mLe_n (mLe_n (mLe_n (mLe_s (mLe_n mLe_0))))))) (k1 q)) k2
theorem b86_114 {h : mH} {Q : Option Value → mH → Prop} {r5 : Nat} {vc : Int32} (e1 : h[5]? = some (oJ vc)) (k : mCt mCd 116 [.ref 5, .ref r5] h (fun rv hv => mWp mCd 86 (120, [none, none, none, none, none, none, none], rv.toList ++ [], hv, 9, 158) Q)) : mWp mCd 86 (114, [some (.ref 5), none, none, none, none, some (.ref r5), none], [], h, 9, 158) Q := by
  refine mWp_run 2 (t' := (117, [some (.ref 5), none, none, none, none, some (.ref r5), none], [.ref r5, .ref 5], h, 9, 158)) rfl ?_
  exact mWp_iv rfl rfl e1 rfl rfl rfl rfl (mCt_mono k (fun rv hv y => mWp_weak (mLe_n (mLe_n (mLe_n (mLe_n (mLe_n (mLe_n (mLe_n mLe_0))))))) y))
theorem b86_81 {h : mH} {Q : Option Value → mH → Prop} {x2 : Int32} {x3 : Int32} {r4 : Nat} {r5 : Nat} {x6 : Int32}  (k : mCt mCd 127 [.int x6, .int x3] h (fun rv hv => mWp mCd 86 (93, [some (.ref 5), none, some (.int x2), some (.int x3), some (.ref r4), some (.ref r5), some (.int x6)], rv.toList ++ [.ref r4, .int x6, .ref r5], hv, 9, 158) Q)) : mWp mCd 86 (81, [some (.ref 5), none, some (.int x2), some (.int x3), some (.ref r4), some (.ref r5), some (.int x6)], [], h, 9, 158) Q := by
  refine mWp_run 5 (t' := (90, [some (.ref 5), none, some (.int x2), some (.int x3), some (.ref r4), some (.ref r5), some (.int x6)], [.int x3, .int x6, .ref r4, .int x6, .ref r5], h, 9, 158)) rfl ?_
  exact mWp_is rfl rfl rfl rfl rfl k
theorem b86_120 {h : mH} {Q : Option Value → mH → Prop} {u0 : Int32}  (k : Q (some (.int u0)) h) : mWp mCd 86 (120, [none, none, none, none, none, none, none], [.int u0], h, 9, 158) Q := by
  exact mWp_r (v := (some (.int u0))) rfl k
theorem b86_93 {h : mH} {Q : Option Value → mH → Prop} {x2 : Int32} {x3 : Int32} {r4 : Nat} {r5 : Nat} {x6 : Int32} {u0 : Int32} {q1 : Nat} {u2 : Int32} {q3 : Nat}  (k : mCt mCd 126 [.int x6, .int x2] h (fun rv hv => mWp mCd 86 (99, [some (.ref 5), none, some (.int x2), some (.int x3), some (.ref r4), some (.ref r5), some (.int x6)], rv.toList ++ [.int u0, .ref q1, .int u2, .ref q3], hv, 9, 158) Q)) : mWp mCd 86 (93, [some (.ref 5), none, some (.int x2), some (.int x3), some (.ref r4), some (.ref r5), some (.int x6)], [.int u0, .ref q1, .int u2, .ref q3], h, 9, 158) Q := by
  refine mWp_run 2 (t' := (96, [some (.ref 5), none, some (.int x2), some (.int x3), some (.ref r4), some (.ref r5), some (.int x6)], [.int x2, .int x6, .int u0, .ref q1, .int u2, .ref q3], h, 9, 158)) rfl ?_
  exact mWp_is rfl rfl rfl rfl rfl k
theorem b86_99 {h : mH} {Q : Option Value → mH → Prop} {x2 : Int32} {x3 : Int32} {r4 : Nat} {r5 : Nat} {x6 : Int32} {u0 : Int32} {u1 : Int32} {q2 : Nat} {u3 : Int32} {q4 : Nat} {ci101 : Nat} {fs102 : List Value} (e1 : h[q2]? = some (.inr (ci101, fs102))) (e2 : [1, 2, 4, 6, 8].contains ci101 = true) (k : mCt mCd 46 [.ref q2, .int (u1 ||| (u0 <<< (x3 &&& 31)))] h (fun rv hv => mWp mCd 86 (105, [some (.ref 5), none, some (.int x2), some (.int x3), some (.ref r4), some (.ref r5), some (.int x6)], rv.toList ++ [.int u3, .ref q4], hv, 9, 158) Q)) : mWp mCd 86 (99, [some (.ref 5), none, some (.int x2), some (.int x3), some (.ref r4), some (.ref r5), some (.int x6)], [.int u0, .int u1, .ref q2, .int u3, .ref q4], h, 9, 158) Q := by
  refine mWp_run 3 (t' := (102, [some (.ref 5), none, some (.int x2), some (.int x3), some (.ref r4), some (.ref r5), some (.int x6)], [.int (u1 ||| (u0 <<< (x3 &&& 31))), .ref q2, .int u3, .ref q4], h, 9, 158)) rfl ?_
  exact mWp_iv rfl rfl e1 (mS5 e2) rfl rfl rfl k
theorem b86_105 {h : mH} {Q : Option Value → mH → Prop} {x2 : Int32} {x3 : Int32} {r4 : Nat} {r5 : Nat} {x6 : Int32} {u0 : Int32} {u1 : Int32} {q2 : Nat} {ci101 : Nat} {fs102 : List Value} (e1 : h[q2]? = some (.inr (ci101, fs102))) (e2 : ci101 = 2) (k : mCt mCd 48 [.ref q2, .int u1, .int u0] h (fun rv hv => mWp mCd 86 (108, [some (.ref 5), none, some (.int x2), some (.int x3), some (.ref r4), some (.ref r5), some (.int x6)], rv.toList ++ [], hv, 9, 158) Q)) : mWp mCd 86 (105, [some (.ref 5), none, some (.int x2), some (.int x3), some (.ref r4), some (.ref r5), some (.int x6)], [.int u0, .int u1, .ref q2], h, 9, 158) Q := by
  exact mWp_iv rfl rfl e1 (by rw [e2]; rfl) rfl rfl rfl k
theorem b86_108 {h : mH} {Q : Option Value → mH → Prop} {x2 : Int32} {x3 : Int32} {r4 : Nat} {r5 : Nat} {x6 : Int32}  (k : mWp mCd 86 (71, [some (.ref 5), none, some (.int x2), some (.int x3), some (.ref r4), some (.ref r5), some (.int (x6 + iZ 1))], [], h, 9, 158) Q) : mWp mCd 86 (108, [some (.ref 5), none, some (.int x2), some (.int x3), some (.ref r4), some (.ref r5), some (.int x6)], [], h, 9, 158) Q := by
  refine mWp_run 2 (t' := (71, [some (.ref 5), none, some (.int x2), some (.int x3), some (.ref r4), some (.ref r5), some (.int (x6 + iZ 1))], [], h, 9, 158)) rfl ?_
  exact k
theorem b87_0 {h : mH} {Q : Option Value → mH → Prop} {x1 : Int32} {vc : Int32} (e1 : h[5]? = some (oJ vc)) (k : mCt mCd 114 [.ref 5, .int x1] h (fun rv hv => mWp mCd 87 (5, [some (.ref 5), none, none, none, none], rv.toList ++ [], hv, 0, 0) Q)) : mWp mCd 87 (0, [some (.ref 5), some (.int x1), none, none, none], [], h, 0, 0) Q := by
  refine mWp_run 2 (t' := (2, [some (.ref 5), some (.int x1), none, none, none], [.int x1, .ref 5], h, 0, 0)) rfl ?_
  exact mWp_iv rfl rfl e1 rfl rfl rfl rfl (mCt_mono k (fun rv hv y => mWp_weak (mLe_s (mLe_n (mLe_n (mLe_n (mLe_n mLe_0))))) y))
theorem b87_5 {h : mH} {Q : Option Value → mH → Prop}   (k : Q (some (.int (iZ (-2)))) h) : mWp mCd 87 (5, [some (.ref 5), none, none, none, none], [.null], h, 0, 0) Q := by
  refine mWp_run 4 (t' := (12, [some (.ref 5), none, some (.null), none, none], [.int (iZ (-2))], h, 0, 0)) rfl ?_
  exact mWp_r (v := (some (.int (iZ (-2))))) rfl k
theorem b87_5_1 {h : mH} {Q : Option Value → mH → Prop} {q0 : Nat} {vc : Int32} (e1 : h[5]? = some (oJ vc)) (k : mCt mCd 115 [.ref 5] h (fun rv hv => mWp mCd 87 (17, [some (.ref 5), none, some (.ref q0), none, none], rv.toList ++ [], hv, 0, 0) Q)) : mWp mCd 87 (5, [some (.ref 5), none, none, none, none], [.ref q0], h, 0, 0) Q := by
  refine mWp_run 4 (t' := (14, [some (.ref 5), none, some (.ref q0), none, none], [.ref 5], h, 0, 0)) rfl ?_
  exact mWp_iv rfl rfl e1 rfl rfl rfl rfl k
theorem b87_17 {h : mH} {Q : Option Value → mH → Prop} {r2 : Nat} {u0 : Int32}  (k1 : u0 = 0 → mWp mCd 87 (23, [some (.ref 5), none, some (.ref r2), none, none], [], h, 0, 0) Q) (k2 : ¬ (u0 = 0) → mWp mCd 87 (20, [none, none, none, none, none], [], h, 0, 0) Q) : mWp mCd 87 (17, [some (.ref 5), none, some (.ref r2), none, none], [.int u0], h, 0, 0) Q := by
  exact mWp_if (P := fun x => x = 0) (a := u0) rfl k1 (fun q => mWp_weak (mLe_n (mLe_n (mLe_n (mLe_n (mLe_n mLe_0))))) (k2 q))
theorem b87_23 {h : mH} {Q : Option Value → mH → Prop} {r2 : Nat}  (k : mWp mCd 87 (26, [some (.ref 5), none, some (.ref r2), none, none], [.ref ((h).length)], (h ++ [.inr (2, [.int 0, .int 0, .null, .null, .null, .int 0])]), 1, 6) Q) : mWp mCd 87 (23, [some (.ref 5), none, some (.ref r2), none, none], [], h, 0, 0) Q := by
  refine mWp_run 1 (t' := (26, [some (.ref 5), none, some (.ref r2), none, none], [.ref ((h).length)], (h ++ [.inr (2, [.int 0, .int 0, .null, .null, .null, .int 0])]), 1, 6)) rfl ?_
  exact k
theorem b87_20 {h : mH} {Q : Option Value → mH → Prop}   (k : Q (some (.int (iZ (-4)))) h) : mWp mCd 87 (20, [none, none, none, none, none], [], h, 0, 0) Q := by
  refine mWp_run 1 (t' := (22, [none, none, none, none, none], [.int (iZ (-4))], h, 0, 0)) rfl ?_
  exact mWp_r (v := (some (.int (iZ (-4))))) rfl k
theorem b87_26 {h : mH} {Q : Option Value → mH → Prop} {r2 : Nat} {q0 : Nat} {vc : Int32} {ci101 : Nat} {fs102 : List Value} {z103 : Int32} (e1 : h[5]? = some (oJ vc)) (e2 : h[r2]? = some (.inr (ci101, fs102))) (e3 : fs102[1]? = some (.int z103)) (e4 : ([1, 2, 4, 6, 8] : List Nat).contains ci101 = true) (k : mCt mCd 17 [.ref q0, .int vc, .int z103] h (fun rv hv => mWp mCd 87 (38, [some (.ref 5), none, some (.ref r2), none, none], rv.toList ++ [.ref q0], hv, 9, 158) Q)) : mWp mCd 87 (26, [some (.ref 5), none, some (.ref r2), none, none], [.ref q0], h, 1, 6) Q := by
  refine mWp_run 2 (t' := (28, [some (.ref 5), none, some (.ref r2), none, none], [.ref 5, .ref q0, .ref q0], h, 1, 6)) rfl ?_
  refine mWp_gf rfl e1 rfl rfl ?_
  refine mWp_run 1 (t' := (32, [some (.ref 5), none, some (.ref r2), none, none], [.ref r2, .int vc, .ref q0, .ref q0], h, 1, 6)) rfl ?_
  refine mWp_gf rfl e2 e4 e3 ?_
  exact mWp_ii rfl rfl rfl rfl rfl k
theorem b87_38 {h : mH} {Q : Option Value → mH → Prop} {r2 : Nat} {q0 : Nat}  (k : mWp mCd 87 (42, [some (.ref 5), none, some (.ref r2), some (.ref q0), some (.int (iZ 1))], [], h, 9, 158) Q) : mWp mCd 87 (38, [some (.ref 5), none, some (.ref r2), none, none], [.ref q0], h, 9, 158) Q := by
  refine mWp_run 3 (t' := (42, [some (.ref 5), none, some (.ref r2), some (.ref q0), some (.int (iZ 1))], [], h, 9, 158)) rfl ?_
  exact k
theorem b87_42 {h : mH} {Q : Option Value → mH → Prop} {r2 : Nat} {r3 : Nat} {x4 : Int32} {ci101 : Nat} {fs102 : List Value} (e1 : h[r3]? = some (.inr (ci101, fs102))) (e2 : ci101 = 2) (k : mCt mCd 42 [.ref r3] h (fun rv hv => mWp mCd 87 (48, [some (.ref 5), none, some (.ref r2), some (.ref r3), some (.int x4)], rv.toList ++ [.int x4], hv, 9, 158) Q)) : mWp mCd 87 (42, [some (.ref 5), none, some (.ref r2), some (.ref r3), some (.int x4)], [], h, 9, 158) Q := by
  refine mWp_run 2 (t' := (45, [some (.ref 5), none, some (.ref r2), some (.ref r3), some (.int x4)], [.ref r3, .int x4], h, 9, 158)) rfl ?_
  exact mWp_iv rfl rfl e1 (by rw [e2]; rfl) rfl rfl rfl k
theorem b87_48 {h : mH} {Q : Option Value → mH → Prop} {r2 : Nat} {r3 : Nat} {x4 : Int32} {u0 : Int32} {u1 : Int32}  (k1 : u0 < u1 → mWp mCd 87 (81, [some (.ref 5), none, none, some (.ref r3), none], [], h, 9, 158) Q) (k2 : ¬ (u0 < u1) → mWp mCd 87 (51, [some (.ref 5), none, some (.ref r2), some (.ref r3), some (.int x4)], [], h, 9, 158) Q) : mWp mCd 87 (48, [some (.ref 5), none, some (.ref r2), some (.ref r3), some (.int x4)], [.int u0, .int u1], h, 9, 158) Q := by
  exact mWp_ic (P := fun x y => y < x) (a := u1) (b := u0) rfl (fun q => mWp_weak (mLe_s (mLe_n (mLe_n (mLe_s (mLe_n mLe_0))))) (k1 q)) k2
theorem b87_81 {h : mH} {Q : Option Value → mH → Prop} {r3 : Nat} {vc : Int32} (e1 : h[5]? = some (oJ vc)) (k : mCt mCd 116 [.ref 5, .ref r3] h (fun rv hv => mWp mCd 87 (86, [none, none, none, none, none], rv.toList ++ [], hv, 9, 158) Q)) : mWp mCd 87 (81, [some (.ref 5), none, none, some (.ref r3), none], [], h, 9, 158) Q := by
  refine mWp_run 2 (t' := (83, [some (.ref 5), none, none, some (.ref r3), none], [.ref r3, .ref 5], h, 9, 158)) rfl ?_
  exact mWp_iv rfl rfl e1 rfl rfl rfl rfl (mCt_mono k (fun rv hv y => mWp_weak (mLe_n (mLe_n (mLe_n (mLe_n (mLe_n mLe_0))))) y))
theorem b87_51 {h : mH} {Q : Option Value → mH → Prop} {r2 : Nat} {r3 : Nat} {x4 : Int32} {ci101 : Nat} {fs102 : List Value} (e1 : h[r2]? = some (.inr (ci101, fs102))) (e2 : [1, 2, 4, 6, 8].contains ci101 = true) (k : mCt mCd 47 [.ref r2] h (fun rv hv => mWp mCd 87 (58, [some (.ref 5), none, some (.ref r2), some (.ref r3), some (.int x4)], rv.toList ++ [.int x4, .ref r3], hv, 9, 158) Q)) : mWp mCd 87 (51, [some (.ref 5), none, some (.ref r2), some (.ref r3), some (.int x4)], [], h, 9, 158) Q := by
  refine mWp_run 3 (t' := (55, [some (.ref 5), none, some (.ref r2), some (.ref r3), some (.int x4)], [.ref r2, .int x4, .ref r3], h, 9, 158)) rfl ?_
  exact mWp_iv rfl rfl e1 (mS5 e2) rfl rfl rfl k
theorem b87_86 {h : mH} {Q : Option Value → mH → Prop} {u0 : Int32}  (k : Q (some (.int u0)) h) : mWp mCd 87 (86, [none, none, none, none, none], [.int u0], h, 9, 158) Q := by
  exact mWp_r (v := (some (.int u0))) rfl k
theorem b87_58 {h : mH} {Q : Option Value → mH → Prop} {r2 : Nat} {r3 : Nat} {x4 : Int32} {u0 : Int32} {u1 : Int32} {q2 : Nat} {ci101 : Nat} {fs102 : List Value} (e1 : h[r2]? = some (.inr (ci101, fs102))) (e2 : [1, 2, 4, 6, 8].contains ci101 = true) (k : mCt mCd 42 [.ref r2] h (fun rv hv => mWp mCd 87 (63, [some (.ref 5), none, some (.ref r2), some (.ref r3), some (.int x4)], rv.toList ++ [.ref r2, .int u0, .int u1, .ref q2], hv, 9, 158) Q)) : mWp mCd 87 (58, [some (.ref 5), none, some (.ref r2), some (.ref r3), some (.int x4)], [.int u0, .int u1, .ref q2], h, 9, 158) Q := by
  refine mWp_run 2 (t' := (60, [some (.ref 5), none, some (.ref r2), some (.ref r3), some (.int x4)], [.ref r2, .ref r2, .int u0, .int u1, .ref q2], h, 9, 158)) rfl ?_
  exact mWp_iv rfl rfl e1 (mS5 e2) rfl rfl rfl k
theorem b87_63 {h : mH} {Q : Option Value → mH → Prop} {r2 : Nat} {r3 : Nat} {x4 : Int32} {u0 : Int32} {q1 : Nat} {u2 : Int32} {u3 : Int32} {q4 : Nat} {ci101 : Nat} {fs102 : List Value} (e1 : h[q1]? = some (.inr (ci101, fs102))) (e2 : [1, 2, 4, 6, 8].contains ci101 = true) (k : mCt mCd 46 [.ref q1, .int (u0 &&& (x4 ^^^ (iZ (-1))))] h (fun rv hv => mWp mCd 87 (71, [some (.ref 5), none, some (.ref r2), some (.ref r3), some (.int x4)], rv.toList ++ [.int u2, .int u3, .ref q4], hv, 9, 158) Q)) : mWp mCd 87 (63, [some (.ref 5), none, some (.ref r2), some (.ref r3), some (.int x4)], [.int u0, .ref q1, .int u2, .int u3, .ref q4], h, 9, 158) Q := by
  refine mWp_run 4 (t' := (68, [some (.ref 5), none, some (.ref r2), some (.ref r3), some (.int x4)], [.int (u0 &&& (x4 ^^^ (iZ (-1)))), .ref q1, .int u2, .int u3, .ref q4], h, 9, 158)) rfl ?_
  exact mWp_iv rfl rfl e1 (mS5 e2) rfl rfl rfl k
theorem b87_71 {h : mH} {Q : Option Value → mH → Prop} {r2 : Nat} {r3 : Nat} {x4 : Int32} {u0 : Int32} {u1 : Int32} {u2 : Int32} {q3 : Nat} {ci101 : Nat} {fs102 : List Value} (e1 : h[q3]? = some (.inr (ci101, fs102))) (e2 : ci101 = 2) (k : mCt mCd 48 [.ref q3, .int u2, .int (u1 - u0)] h (fun rv hv => mWp mCd 87 (75, [some (.ref 5), none, some (.ref r2), some (.ref r3), some (.int x4)], rv.toList ++ [], hv, 9, 158) Q)) : mWp mCd 87 (71, [some (.ref 5), none, some (.ref r2), some (.ref r3), some (.int x4)], [.int u0, .int u1, .int u2, .ref q3], h, 9, 158) Q := by
  refine mWp_run 1 (t' := (72, [some (.ref 5), none, some (.ref r2), some (.ref r3), some (.int x4)], [.int (u1 - u0), .int u2, .ref q3], h, 9, 158)) rfl ?_
  exact mWp_iv rfl rfl e1 (by rw [e2]; rfl) rfl rfl rfl k
theorem b87_75 {h : mH} {Q : Option Value → mH → Prop} {r2 : Nat} {r3 : Nat} {x4 : Int32}  (k : mWp mCd 87 (42, [some (.ref 5), none, some (.ref r2), some (.ref r3), some (.int (x4 + iZ 1))], [], h, 9, 158) Q) : mWp mCd 87 (75, [some (.ref 5), none, some (.ref r2), some (.ref r3), some (.int x4)], [], h, 9, 158) Q := by
  refine mWp_run 2 (t' := (42, [some (.ref 5), none, some (.ref r2), some (.ref r3), some (.int (x4 + iZ 1))], [], h, 9, 158)) rfl ?_
  exact k
theorem b88_0 {h : mH} {Q : Option Value → mH → Prop} {vc : Int32} (e1 : h[5]? = some (oJ vc)) (k1 : vc < (iZ 1) → mWp mCd 88 (20, [none], [], h, 0, 0) Q) (k2 : ¬ (vc < (iZ 1)) → mWp mCd 88 (8, [some (.ref 5)], [], h, 0, 0) Q) : mWp mCd 88 (0, [some (.ref 5)], [], h, 0, 0) Q := by
  refine mWp_run 1 (t' := (1, [some (.ref 5)], [.ref 5], h, 0, 0)) rfl ?_
  refine mWp_gf rfl e1 rfl rfl ?_
  refine mWp_run 1 (t' := (5, [some (.ref 5)], [.int (iZ 1), .int vc], h, 0, 0)) rfl ?_
  exact mWp_ic (P := fun x y => x < y) (a := vc) (b := iZ 1) rfl (fun q => mWp_weak (mLe_n mLe_0) (k1 q)) k2
theorem b88_20 {h : mH} {Q : Option Value → mH → Prop}   (k : Q (some (.int (iZ (-3)))) h) : mWp mCd 88 (20, [none], [], h, 0, 0) Q := by
  refine mWp_run 1 (t' := (22, [none], [.int (iZ (-3))], h, 0, 0)) rfl ?_
  exact mWp_r (v := (some (.int (iZ (-3))))) rfl k
theorem b88_8 {h : mH} {Q : Option Value → mH → Prop} {vc : Int32} {g101 : Nat → Option Nat} (e1 : h[5]? = some (oJ vc)) (e2 : h[6]? = some (aR 2 10 g101)) (k1 : vc ≤ (Int32.ofNat 10) → mWp mCd 88 (23, [some (.ref 5)], [], h, 0, 0) Q) (k2 : ¬ (vc ≤ (Int32.ofNat 10)) → mWp mCd 88 (20, [none], [], h, 0, 0) Q) : mWp mCd 88 (8, [some (.ref 5)], [], h, 0, 0) Q := by
  refine mWp_run 1 (t' := (9, [some (.ref 5)], [.ref 5], h, 0, 0)) rfl ?_
  refine mWp_gf rfl e1 rfl rfl ?_
  refine mWp_run 1 (t' := (13, [some (.ref 5)], [.ref 5, .int vc], h, 0, 0)) rfl ?_
  refine mWp_gf rfl e1 rfl rfl ?_
  refine mWp_aln rfl e2 (by decide) ?_
  exact mWp_ic (P := fun x y => x ≤ y) (a := vc) (b := Int32.ofNat 10) rfl k1 (fun q => mWp_weak (mLe_n mLe_0) (k2 q))
theorem b88_23 {h : mH} {Q : Option Value → mH → Prop} {vc : Int32} {g101 : Nat → Option Nat} (e1 : h[5]? = some (oJ vc)) (e2 : h[6]? = some (aR 2 10 g101)) (e3 : ¬ ((vc - (iZ 1)) < 0 ∨ 10 ≤ (vc - (iZ 1)).toNatClampNeg)) (k : Q (some (.int (vc - (iZ 1)))) ((h.set 5 (oJ (vc - (iZ 1)))).set 6 (aR 2 10 (va_up g101 ((vc - (iZ 1)).toNatClampNeg) none)))) : mWp mCd 88 (23, [some (.ref 5)], [], h, 0, 0) Q := by
  refine mWp_run 2 (t' := (25, [some (.ref 5)], [.ref 5, .ref 5], h, 0, 0)) rfl ?_
  refine mWp_gf rfl e1 rfl rfl ?_
  refine mWp_run 2 (t' := (30, [some (.ref 5)], [.int (vc - (iZ 1)), .ref 5], h, 0, 0)) rfl ?_
  refine mWp_pf rfl e1 rfl rfl rfl ?_
  show mWp mCd 88 (33, [some (.ref 5)], [], (h.set 5 (oJ (vc - (iZ 1)))), 0, 0) Q
  refine mWp_run 1 (t' := (34, [some (.ref 5)], [.ref 5], (h.set 5 (oJ (vc - (iZ 1)))), 0, 0)) rfl ?_
  refine mWp_gf rfl (mGs e1) rfl rfl ?_
  refine mWp_run 1 (t' := (38, [some (.ref 5)], [.ref 5, .ref 6], (h.set 5 (oJ (vc - (iZ 1)))), 0, 0)) rfl ?_
  refine mWp_gf rfl (mGs e1) rfl rfl ?_
  refine mWp_run 1 (t' := (42, [some (.ref 5)], [.null, .int (vc - (iZ 1)), .ref 6], (h.set 5 (oJ (vc - (iZ 1)))), 0, 0)) rfl ?_
  refine mWp_aan rfl (by decide) (mGn (by decide) e2) (by decide) e3 ?_
  show mWp mCd 88 (43, [some (.ref 5)], [], ((h.set 5 (oJ (vc - (iZ 1)))).set 6 (aR 2 10 (va_up g101 ((vc - (iZ 1)).toNatClampNeg) none))), 0, 0) Q
  refine mWp_run 1 (t' := (44, [some (.ref 5)], [.ref 5], ((h.set 5 (oJ (vc - (iZ 1)))).set 6 (aR 2 10 (va_up g101 ((vc - (iZ 1)).toNatClampNeg) none))), 0, 0)) rfl ?_
  refine mWp_gf rfl (mGn (by decide) (mGs e1)) rfl rfl ?_
  exact mWp_r (v := (some (.int (vc - (iZ 1))))) rfl k
theorem b89_0 {h : mH} {Q : Option Value → mH → Prop} {x1 : Int32} {x2 : Int32} {vc : Int32} (e1 : h[5]? = some (oJ vc)) (k : mCt mCd 114 [.ref 5, .int x1] h (fun rv hv => mWp mCd 89 (5, [none, none, some (.int x2), none], rv.toList ++ [], hv, 0, 0) Q)) : mWp mCd 89 (0, [some (.ref 5), some (.int x1), some (.int x2), none], [], h, 0, 0) Q := by
  refine mWp_run 2 (t' := (2, [some (.ref 5), some (.int x1), some (.int x2), none], [.int x1, .ref 5], h, 0, 0)) rfl ?_
  exact mWp_iv rfl rfl e1 rfl rfl rfl rfl (mCt_mono k (fun rv hv y => mWp_weak (mLe_n (mLe_n (mLe_s (mLe_n mLe_0)))) y))
theorem b89_5 {h : mH} {Q : Option Value → mH → Prop} {x2 : Int32}  (k : Q (some (.int (iZ (-2)))) h) : mWp mCd 89 (5, [none, none, some (.int x2), none], [.null], h, 0, 0) Q := by
  refine mWp_run 4 (t' := (12, [none, none, some (.int x2), some (.null)], [.int (iZ (-2))], h, 0, 0)) rfl ?_
  exact mWp_r (v := (some (.int (iZ (-2))))) rfl k
theorem b89_5_1 {h : mH} {Q : Option Value → mH → Prop} {x2 : Int32} {q0 : Nat}  (k1 : (x2.toInt < 0 ∨ 6 < x2.toInt) → mWp mCd 89 (114, [none, none, none, some (.ref q0)], [], h, 0, 0) Q) (k2 : ¬ (x2.toInt < 0 ∨ 6 < x2.toInt) → ∃ t, ([56, 61, 66, 82, 90, 104, 109] : List Nat)[(x2.toInt - 0).toNat]? = some t ∧ mWp mCd 89 (t, [none, none, none, some (.ref q0)], [], h, 0, 0) Q) : mWp mCd 89 (5, [none, none, some (.int x2), none], [.ref q0], h, 0, 0) Q := by
  refine mWp_run 4 (t' := (14, [none, none, some (.int x2), some (.ref q0)], [.int x2], h, 0, 0)) rfl ?_
  refine mWp_weak (L := [none, none, none, some (.ref q0)]) (mLe_n (mLe_n (mLe_n (mLe_s mLe_0)))) ?_
  exact mWp_ts rfl k1 k2
theorem b89_114 {h : mH} {Q : Option Value → mH → Prop} {r3 : Nat}  (k : Q (some (.int (iZ (-2)))) h) : mWp mCd 89 (114, [none, none, none, some (.ref r3)], [], h, 0, 0) Q := by
  refine mWp_run 1 (t' := (116, [none, none, none, some (.ref r3)], [.int (iZ (-2))], h, 0, 0)) rfl ?_
  exact mWp_r (v := (some (.int (iZ (-2))))) rfl k
theorem b89_56 {h : mH} {Q : Option Value → mH → Prop} {r3 : Nat} {ci : Nat} {num : Int32} {n : Int32} {fd : Int32} {k101 : Nat} (hc : [1, 2, 4, 6, 8].contains ci = true) (e2 : h[r3]? = some (oV ci r3 num n fd)) (e3 : mSel [(1, 15, 0, 0), (2, 18, 0, 0), (4, 31, 0, 0), (6, 38, 0, 0), (8, 75, 0, 0)] ci = some (k101, 0, 0)) (k : mCt mCd k101 [.ref r3] h (fun rv hv => mWp mCd 89 (60, [none, none, none, none], rv.toList ++ [], hv, 0, 0) Q)) : mWp mCd 89 (56, [none, none, none, some (.ref r3)], [], h, 0, 0) Q := by
  refine mWp_run 1 (t' := (57, [none, none, none, some (.ref r3)], [.ref r3], h, 0, 0)) rfl ?_
  exact mWp_iv rfl rfl e2 e3 rfl rfl rfl (mCt_mono k (fun rv hv y => mWp_weak (mLe_n (mLe_n (mLe_n (mLe_n mLe_0)))) y))
theorem b89_61 {h : mH} {Q : Option Value → mH → Prop} {r3 : Nat} {ci : Nat} {num : Int32} {n : Int32} {fd : Int32} (hc : [1, 2, 4, 6, 8].contains ci = true) (e2 : h[r3]? = some (oV ci r3 num n fd)) (k : Q (some (.int n)) h) : mWp mCd 89 (61, [none, none, none, some (.ref r3)], [], h, 0, 0) Q := by
  refine mWp_run 1 (t' := (62, [none, none, none, some (.ref r3)], [.ref r3], h, 0, 0)) rfl ?_
  refine mWp_gf rfl e2 hc rfl ?_
  exact mWp_r (v := (some (.int n))) rfl k
theorem b89_66 {h : mH} {Q : Option Value → mH → Prop} {r3 : Nat} {ci : Nat} {num : Int32} {n : Int32} {fd : Int32} (hc : [1, 2, 4, 6, 8].contains ci = true) (e2 : h[r3]? = some (oV ci r3 num n fd)) (k : mCt mCd 49 [.ref r3] h (fun rv hv => mWp mCd 89 (70, [none, none, none, none], rv.toList ++ [], hv, 0, 0) Q)) : mWp mCd 89 (66, [none, none, none, some (.ref r3)], [], h, 0, 0) Q := by
  refine mWp_run 1 (t' := (67, [none, none, none, some (.ref r3)], [.ref r3], h, 0, 0)) rfl ?_
  exact mWp_iv rfl rfl e2 (mS5 hc) rfl rfl rfl (mCt_mono k (fun rv hv y => mWp_weak (mLe_n (mLe_n (mLe_n (mLe_n mLe_0)))) y))
theorem b89_82 {h : mH} {Q : Option Value → mH → Prop} {r3 : Nat} {ci : Nat} {num : Int32} {n : Int32} {fd : Int32} (hc : [1, 2, 4, 6, 8].contains ci = true) (e2 : h[r3]? = some (oV ci r3 num n fd)) (k : mCt mCd 49 [.ref r3] h (fun rv hv => mWp mCd 89 (86, [none, none, none, none], rv.toList ++ [], hv, 0, 0) Q)) : mWp mCd 89 (82, [none, none, none, some (.ref r3)], [], h, 0, 0) Q := by
  refine mWp_run 1 (t' := (83, [none, none, none, some (.ref r3)], [.ref r3], h, 0, 0)) rfl ?_
  exact mWp_iv rfl rfl e2 (mS5 hc) rfl rfl rfl (mCt_mono k (fun rv hv y => mWp_weak (mLe_n (mLe_n (mLe_n (mLe_n mLe_0)))) y))
theorem b89_90 {h : mH} {Q : Option Value → mH → Prop} {r3 : Nat} {ci : Nat} {num : Int32} {n : Int32} {fd : Int32} (hc : [1, 2, 4, 6, 8].contains ci = true) (e2 : h[r3]? = some (oV ci r3 num n fd)) (k : mCt mCd 55 [.ref r3] h (fun rv hv => mWp mCd 89 (94, [none, none, none, none], rv.toList ++ [], hv, 0, 0) Q)) : mWp mCd 89 (90, [none, none, none, some (.ref r3)], [], h, 0, 0) Q := by
  refine mWp_run 1 (t' := (91, [none, none, none, some (.ref r3)], [.ref r3], h, 0, 0)) rfl ?_
  exact mWp_iv rfl rfl e2 (mS5 hc) rfl rfl rfl (mCt_mono k (fun rv hv y => mWp_weak (mLe_n (mLe_n (mLe_n (mLe_n mLe_0)))) y))
theorem b89_104 {h : mH} {Q : Option Value → mH → Prop} {r3 : Nat} {ci : Nat} {num : Int32} {n : Int32} {fd : Int32} (hc : [1, 2, 4, 6, 8].contains ci = true) (e2 : h[r3]? = some (oV ci r3 num n fd)) (k : mCt mCd 51 [.ref r3] h (fun rv hv => mWp mCd 89 (108, [none, none, none, none], rv.toList ++ [], hv, 0, 0) Q)) : mWp mCd 89 (104, [none, none, none, some (.ref r3)], [], h, 0, 0) Q := by
  refine mWp_run 1 (t' := (105, [none, none, none, some (.ref r3)], [.ref r3], h, 0, 0)) rfl ?_
  exact mWp_iv rfl rfl e2 (mS5 hc) rfl rfl rfl (mCt_mono k (fun rv hv y => mWp_weak (mLe_n (mLe_n (mLe_n (mLe_n mLe_0)))) y))
theorem b89_109 {h : mH} {Q : Option Value → mH → Prop} {r3 : Nat} {ci : Nat} {num : Int32} {n : Int32} {fd : Int32} (hc : [1, 2, 4, 6, 8].contains ci = true) (e2 : h[r3]? = some (oV ci r3 num n fd)) (k : mCt mCd 54 [.ref r3] h (fun rv hv => mWp mCd 89 (113, [none, none, none, none], rv.toList ++ [], hv, 0, 0) Q)) : mWp mCd 89 (109, [none, none, none, some (.ref r3)], [], h, 0, 0) Q := by
  refine mWp_run 1 (t' := (110, [none, none, none, some (.ref r3)], [.ref r3], h, 0, 0)) rfl ?_
  exact mWp_iv rfl rfl e2 (mS5 hc) rfl rfl rfl (mCt_mono k (fun rv hv y => mWp_weak (mLe_n (mLe_n (mLe_n (mLe_n mLe_0)))) y))
theorem b89_60 {h : mH} {Q : Option Value → mH → Prop} {u0 : Int32}  (k : Q (some (.int u0)) h) : mWp mCd 89 (60, [none, none, none, none], [.int u0], h, 0, 0) Q := by
  exact mWp_r (v := (some (.int u0))) rfl k
theorem b89_70 {h : mH} {Q : Option Value → mH → Prop} {q0 : Nat} {cc : Int32} {tw : Int32} (e1 : h[q0]? = some (oK q0 cc tw)) (k1 : cc ≤ 0 → mWp mCd 89 (80, [none, none, none, none], [], h, 0, 0) Q) (k2 : ¬ (cc ≤ 0) → mWp mCd 89 (76, [none, none, none, none], [], h, 0, 0) Q) : mWp mCd 89 (70, [none, none, none, none], [.ref q0], h, 0, 0) Q := by
  refine mWp_gf rfl e1 rfl rfl ?_
  exact mWp_if (P := fun x => x ≤ 0) (a := cc) rfl k1 k2
theorem b89_86 {h : mH} {Q : Option Value → mH → Prop} {q0 : Nat} {cc : Int32} {tw : Int32} (e1 : h[q0]? = some (oK q0 cc tw)) (k : Q (some (.int cc)) h) : mWp mCd 89 (86, [none, none, none, none], [.ref q0], h, 0, 0) Q := by
  refine mWp_gf rfl e1 rfl rfl ?_
  exact mWp_r (v := (some (.int cc))) rfl k
theorem b89_94 {h : mH} {Q : Option Value → mH → Prop} {u0 : Int32}  (k1 : ¬ u0 = (iZ (-1)) → mWp mCd 89 (102, [none, none, none, none], [], h, 0, 0) Q) (k2 : ¬ (¬ u0 = (iZ (-1))) → mWp mCd 89 (98, [none, none, none, none], [], h, 0, 0) Q) : mWp mCd 89 (94, [none, none, none, none], [.int u0], h, 0, 0) Q := by
  refine mWp_run 1 (t' := (95, [none, none, none, none], [.int (iZ (-1)), .int u0], h, 0, 0)) rfl ?_
  exact mWp_ic (P := fun x y => ¬ x = y) (a := u0) (b := iZ (-1)) rfl k1 k2
theorem b89_108 {h : mH} {Q : Option Value → mH → Prop} {u0 : Int32}  (k : Q (some (.int u0)) h) : mWp mCd 89 (108, [none, none, none, none], [.int u0], h, 0, 0) Q := by
  exact mWp_r (v := (some (.int u0))) rfl k
theorem b89_113 {h : mH} {Q : Option Value → mH → Prop} {u0 : Int32}  (k : Q (some (.int u0)) h) : mWp mCd 89 (113, [none, none, none, none], [.int u0], h, 0, 0) Q := by
  exact mWp_r (v := (some (.int u0))) rfl k
theorem b89_80 {h : mH} {Q : Option Value → mH → Prop}   (k : Q (some (.int (iZ 0))) h) : mWp mCd 89 (80, [none, none, none, none], [], h, 0, 0) Q := by
  refine mWp_run 1 (t' := (81, [none, none, none, none], [.int (iZ 0)], h, 0, 0)) rfl ?_
  exact mWp_r (v := (some (.int (iZ 0)))) rfl k
theorem b89_76 {h : mH} {Q : Option Value → mH → Prop}   (k : Q (some (.int (iZ 1))) h) : mWp mCd 89 (76, [none, none, none, none], [], h, 0, 0) Q := by
  refine mWp_run 2 (t' := (81, [none, none, none, none], [.int (iZ 1)], h, 0, 0)) rfl ?_
  exact mWp_r (v := (some (.int (iZ 1)))) rfl k
theorem b89_102 {h : mH} {Q : Option Value → mH → Prop}   (k : Q (some (.int (iZ 0))) h) : mWp mCd 89 (102, [none, none, none, none], [], h, 0, 0) Q := by
  refine mWp_run 1 (t' := (103, [none, none, none, none], [.int (iZ 0)], h, 0, 0)) rfl ?_
  exact mWp_r (v := (some (.int (iZ 0)))) rfl k
theorem b89_98 {h : mH} {Q : Option Value → mH → Prop}   (k : Q (some (.int (iZ 1))) h) : mWp mCd 89 (98, [none, none, none, none], [], h, 0, 0) Q := by
  refine mWp_run 2 (t' := (103, [none, none, none, none], [.int (iZ 1)], h, 0, 0)) rfl ?_
  exact mWp_r (v := (some (.int (iZ 1)))) rfl k
theorem b90_0 {h : mH} {Q : Option Value → mH → Prop} {x1 : Int32} {x2 : Int32} {vc : Int32} (e1 : h[5]? = some (oJ vc)) (k : mCt mCd 114 [.ref 5, .int x1] h (fun rv hv => mWp mCd 90 (5, [none, none, some (.int x2), none], rv.toList ++ [], hv, 0, 0) Q)) : mWp mCd 90 (0, [some (.ref 5), some (.int x1), some (.int x2), none], [], h, 0, 0) Q := by
  refine mWp_run 2 (t' := (2, [some (.ref 5), some (.int x1), some (.int x2), none], [.int x1, .ref 5], h, 0, 0)) rfl ?_
  exact mWp_iv rfl rfl e1 rfl rfl rfl rfl (mCt_mono k (fun rv hv y => mWp_weak (mLe_n (mLe_n (mLe_s (mLe_n mLe_0)))) y))
theorem b90_5 {h : mH} {Q : Option Value → mH → Prop} {x2 : Int32}  (k : Q (some (.long (lZ (-4611686018427387904)))) h) : mWp mCd 90 (5, [none, none, some (.int x2), none], [.null], h, 0, 0) Q := by
  refine mWp_run 5 (t' := (34, [none, none, some (.int x2), some (.null)], [.long (lZ (-4611686018427387904))], h, 0, 0)) rfl ?_
  exact mWp_r (v := (some (.long (lZ (-4611686018427387904))))) rfl k
theorem b90_5_1 {h : mH} {Q : Option Value → mH → Prop} {x2 : Int32} {q0 : Nat}  (k1 : x2 < 0 → mWp mCd 90 (22, [none, none, none, none], [], h, 0, 0) Q) (k2 : ¬ (x2 < 0) → mWp mCd 90 (14, [none, none, some (.int x2), some (.ref q0)], [], h, 0, 0) Q) : mWp mCd 90 (5, [none, none, some (.int x2), none], [.ref q0], h, 0, 0) Q := by
  refine mWp_run 4 (t' := (11, [none, none, some (.int x2), some (.ref q0)], [.int x2], h, 0, 0)) rfl ?_
  exact mWp_if (P := fun x => x < 0) (a := x2) rfl (fun q => mWp_weak (mLe_n (mLe_n (mLe_n (mLe_n mLe_0)))) (k1 q)) k2
theorem b90_22 {h : mH} {Q : Option Value → mH → Prop}   (k : Q (some (.long (lZ (-4611686018427387904)))) h) : mWp mCd 90 (22, [none, none, none, none], [], h, 0, 0) Q := by
  refine mWp_run 2 (t' := (34, [none, none, none, none], [.long (lZ (-4611686018427387904))], h, 0, 0)) rfl ?_
  exact mWp_r (v := (some (.long (lZ (-4611686018427387904))))) rfl k
theorem b90_14 {h : mH} {Q : Option Value → mH → Prop} {x2 : Int32} {r3 : Nat} {ci : Nat} {num : Int32} {n : Int32} {fd : Int32} (hc : [1, 2, 4, 6, 8].contains ci = true) (e2 : h[r3]? = some (oV ci r3 num n fd)) (k : mCt mCd 42 [.ref r3] h (fun rv hv => mWp mCd 90 (19, [none, none, some (.int x2), some (.ref r3)], rv.toList ++ [.int x2], hv, 0, 0) Q)) : mWp mCd 90 (14, [none, none, some (.int x2), some (.ref r3)], [], h, 0, 0) Q := by
  refine mWp_run 2 (t' := (16, [none, none, some (.int x2), some (.ref r3)], [.ref r3, .int x2], h, 0, 0)) rfl ?_
  exact mWp_iv rfl rfl e2 (mS5 hc) rfl rfl rfl k
theorem b90_19 {h : mH} {Q : Option Value → mH → Prop} {x2 : Int32} {r3 : Nat} {u0 : Int32} {u1 : Int32}  (k1 : u1 ≤ u0 → mWp mCd 90 (28, [none, none, some (.int x2), some (.ref r3)], [], h, 0, 0) Q) (k2 : ¬ (u1 ≤ u0) → mWp mCd 90 (22, [none, none, none, none], [], h, 0, 0) Q) : mWp mCd 90 (19, [none, none, some (.int x2), some (.ref r3)], [.int u0, .int u1], h, 0, 0) Q := by
  exact mWp_ic (P := fun x y => x ≤ y) (a := u1) (b := u0) rfl k1 (fun q => mWp_weak (mLe_n (mLe_n (mLe_n (mLe_n mLe_0)))) (k2 q))
theorem b90_28 {h : mH} {Q : Option Value → mH → Prop} {x2 : Int32} {r3 : Nat} {ci : Nat} {num : Int32} {n : Int32} {fd : Int32} (hc : [1, 2, 4, 6, 8].contains ci = true) (e2 : h[r3]? = some (oV ci r3 num n fd)) (k : mCt mCd 46 [.ref r3, .int x2] h (fun rv hv => mWp mCd 90 (33, [none, none, none, none], rv.toList ++ [], hv, 0, 0) Q)) : mWp mCd 90 (28, [none, none, some (.int x2), some (.ref r3)], [], h, 0, 0) Q := by
  refine mWp_run 2 (t' := (30, [none, none, some (.int x2), some (.ref r3)], [.int x2, .ref r3], h, 0, 0)) rfl ?_
  exact mWp_iv rfl rfl e2 (mS5 hc) rfl rfl rfl (mCt_mono k (fun rv hv y => mWp_weak (mLe_n (mLe_n (mLe_n (mLe_n mLe_0)))) y))
theorem b90_33 {h : mH} {Q : Option Value → mH → Prop} {u0 : Int32}  (k : Q (some (.long (Int32.toInt64 u0))) h) : mWp mCd 90 (33, [none, none, none, none], [.int u0], h, 0, 0) Q := by
  refine mWp_run 1 (t' := (34, [none, none, none, none], [.long (Int32.toInt64 u0)], h, 0, 0)) rfl ?_
  exact mWp_r (v := (some (.long (Int32.toInt64 u0)))) rfl k
theorem b91_0 {h : mH} {Q : Option Value → mH → Prop} {x1 : Int32} {x2 : Int32} {x3 : Int32} {vc : Int32} (e1 : h[5]? = some (oJ vc)) (k : mCt mCd 114 [.ref 5, .int x1] h (fun rv hv => mWp mCd 91 (5, [none, none, some (.int x2), some (.int x3), none], rv.toList ++ [], hv, 0, 0) Q)) : mWp mCd 91 (0, [some (.ref 5), some (.int x1), some (.int x2), some (.int x3), none], [], h, 0, 0) Q := by
  refine mWp_run 2 (t' := (2, [some (.ref 5), some (.int x1), some (.int x2), some (.int x3), none], [.int x1, .ref 5], h, 0, 0)) rfl ?_
  exact mWp_iv rfl rfl e1 rfl rfl rfl rfl (mCt_mono k (fun rv hv y => mWp_weak (mLe_n (mLe_n (mLe_s (mLe_s (mLe_n mLe_0))))) y))
theorem b91_5 {h : mH} {Q : Option Value → mH → Prop} {x2 : Int32} {x3 : Int32}  (k : Q (some (.long (lZ (-4611686018427387904)))) h) : mWp mCd 91 (5, [none, none, some (.int x2), some (.int x3), none], [.null], h, 0, 0) Q := by
  refine mWp_run 4 (t' := (46, [none, none, some (.int x2), some (.int x3), some (.null)], [.long (lZ (-4611686018427387904))], h, 0, 0)) rfl ?_
  exact mWp_r (v := (some (.long (lZ (-4611686018427387904))))) rfl k
theorem b91_5_1 {h : mH} {Q : Option Value → mH → Prop} {x2 : Int32} {x3 : Int32} {q0 : Nat} {ci : Nat} {num : Int32} {n : Int32} {fd : Int32} (hc : [1, 2, 4, 6, 8].contains ci = true) (e2 : h[q0]? = some (oV ci q0 num n fd)) (k : mCt mCd 43 [.ref q0, .int x2] h (fun rv hv => mWp mCd 91 (18, [none, none, some (.int x2), some (.int x3), some (.ref q0)], rv.toList ++ [], hv, 0, 0) Q)) : mWp mCd 91 (5, [none, none, some (.int x2), some (.int x3), none], [.ref q0], h, 0, 0) Q := by
  refine mWp_run 5 (t' := (15, [none, none, some (.int x2), some (.int x3), some (.ref q0)], [.int x2, .ref q0], h, 0, 0)) rfl ?_
  exact mWp_iv rfl rfl e2 (mS5 hc) rfl rfl rfl k
theorem b91_18 {h : mH} {Q : Option Value → mH → Prop} {x2 : Int32} {x3 : Int32} {r4 : Nat} {u0 : Int32}  (k1 : u0 = 0 → mWp mCd 91 (43, [none, none, none, none, none], [], h, 0, 0) Q) (k2 : ¬ (u0 = 0) → mWp mCd 91 (21, [none, none, some (.int x2), some (.int x3), some (.ref r4)], [], h, 0, 0) Q) : mWp mCd 91 (18, [none, none, some (.int x2), some (.int x3), some (.ref r4)], [.int u0], h, 0, 0) Q := by
  exact mWp_if (P := fun x => x = 0) (a := u0) rfl (fun q => mWp_weak (mLe_n (mLe_n (mLe_n (mLe_n (mLe_n mLe_0))))) (k1 q)) k2
theorem b91_43 {h : mH} {Q : Option Value → mH → Prop}   (k : Q (some (.long (lZ (-4611686018427387904)))) h) : mWp mCd 91 (43, [none, none, none, none, none], [], h, 0, 0) Q := by
  refine mWp_run 1 (t' := (46, [none, none, none, none, none], [.long (lZ (-4611686018427387904))], h, 0, 0)) rfl ?_
  exact mWp_r (v := (some (.long (lZ (-4611686018427387904))))) rfl k
theorem b91_21 {h : mH} {Q : Option Value → mH → Prop} {x2 : Int32} {x3 : Int32} {r4 : Nat}  (k1 : x3 < 0 → mWp mCd 91 (43, [none, none, none, none, none], [], h, 0, 0) Q) (k2 : ¬ (x3 < 0) → mWp mCd 91 (25, [none, none, some (.int x2), some (.int x3), some (.ref r4)], [], h, 0, 0) Q) : mWp mCd 91 (21, [none, none, some (.int x2), some (.int x3), some (.ref r4)], [], h, 0, 0) Q := by
  refine mWp_run 1 (t' := (22, [none, none, some (.int x2), some (.int x3), some (.ref r4)], [.int x3], h, 0, 0)) rfl ?_
  exact mWp_if (P := fun x => x < 0) (a := x3) rfl (fun q => mWp_weak (mLe_n (mLe_n (mLe_n (mLe_n (mLe_n mLe_0))))) (k1 q)) k2
theorem b91_25 {h : mH} {Q : Option Value → mH → Prop} {x2 : Int32} {x3 : Int32} {r4 : Nat} {ci : Nat} {num : Int32} {n : Int32} {fd : Int32} (hc : [1, 2, 4, 6, 8].contains ci = true) (e2 : h[r4]? = some (oV ci r4 num n fd)) (k : mCt mCd 42 [.ref r4] h (fun rv hv => mWp mCd 91 (31, [none, none, some (.int x2), some (.int x3), some (.ref r4)], rv.toList ++ [.int x3], hv, 0, 0) Q)) : mWp mCd 91 (25, [none, none, some (.int x2), some (.int x3), some (.ref r4)], [], h, 0, 0) Q := by
  refine mWp_run 2 (t' := (28, [none, none, some (.int x2), some (.int x3), some (.ref r4)], [.ref r4, .int x3], h, 0, 0)) rfl ?_
  exact mWp_iv rfl rfl e2 (mS5 hc) rfl rfl rfl k
theorem b91_31 {h : mH} {Q : Option Value → mH → Prop} {x2 : Int32} {x3 : Int32} {r4 : Nat} {u0 : Int32} {u1 : Int32}  (k1 : u0 < u1 → mWp mCd 91 (43, [none, none, none, none, none], [], h, 0, 0) Q) (k2 : ¬ (u0 < u1) → mWp mCd 91 (34, [none, none, some (.int x2), some (.int x3), some (.ref r4)], [], h, 0, 0) Q) : mWp mCd 91 (31, [none, none, some (.int x2), some (.int x3), some (.ref r4)], [.int u0, .int u1], h, 0, 0) Q := by
  exact mWp_ic (P := fun x y => y < x) (a := u1) (b := u0) rfl (fun q => mWp_weak (mLe_n (mLe_n (mLe_n (mLe_n (mLe_n mLe_0))))) (k1 q)) k2
theorem b91_34 {h : mH} {Q : Option Value → mH → Prop} {x2 : Int32} {x3 : Int32} {r4 : Nat}  (k : mCt mCd 126 [.int x3, .int x2] h (fun rv hv => mWp mCd 91 (39, [none, none, some (.int x2), some (.int x3), some (.ref r4)], rv.toList ++ [], hv, 0, 0) Q)) : mWp mCd 91 (34, [none, none, some (.int x2), some (.int x3), some (.ref r4)], [], h, 0, 0) Q := by
  refine mWp_run 2 (t' := (36, [none, none, some (.int x2), some (.int x3), some (.ref r4)], [.int x2, .int x3], h, 0, 0)) rfl ?_
  exact mWp_is rfl rfl rfl rfl rfl k
theorem b91_39 {h : mH} {Q : Option Value → mH → Prop} {x2 : Int32} {x3 : Int32} {r4 : Nat} {u0 : Int32}  (k1 : ¬ u0 = (iZ 1) → mWp mCd 91 (47, [none, none, some (.int x2), some (.int x3), some (.ref r4)], [], h, 0, 0) Q) (k2 : ¬ (¬ u0 = (iZ 1)) → mWp mCd 91 (43, [none, none, none, none, none], [], h, 0, 0) Q) : mWp mCd 91 (39, [none, none, some (.int x2), some (.int x3), some (.ref r4)], [.int u0], h, 0, 0) Q := by
  refine mWp_run 1 (t' := (40, [none, none, some (.int x2), some (.int x3), some (.ref r4)], [.int (iZ 1), .int u0], h, 0, 0)) rfl ?_
  exact mWp_ic (P := fun x y => ¬ x = y) (a := u0) (b := iZ 1) rfl k1 (fun q => mWp_weak (mLe_n (mLe_n (mLe_n (mLe_n (mLe_n mLe_0))))) (k2 q))
theorem b91_47 {h : mH} {Q : Option Value → mH → Prop} {x2 : Int32} {x3 : Int32} {r4 : Nat} {ci : Nat} {num : Int32} {n : Int32} {fd : Int32} (hc : [1, 2, 4, 6, 8].contains ci = true) (e2 : h[r4]? = some (oV ci r4 num n fd)) (k : mCt mCd 50 [.ref r4, .int x2, .int x3] h (fun rv hv => mWp mCd 91 (54, [none, none, none, none, none], rv.toList ++ [], hv, 0, 0) Q)) : mWp mCd 91 (47, [none, none, some (.int x2), some (.int x3), some (.ref r4)], [], h, 0, 0) Q := by
  refine mWp_run 3 (t' := (51, [none, none, some (.int x2), some (.int x3), some (.ref r4)], [.int x3, .int x2, .ref r4], h, 0, 0)) rfl ?_
  exact mWp_iv rfl rfl e2 (mS5 hc) rfl rfl rfl (mCt_mono k (fun rv hv y => mWp_weak (mLe_n (mLe_n (mLe_n (mLe_n (mLe_n mLe_0))))) y))
theorem b91_54 {h : mH} {Q : Option Value → mH → Prop} {u0 : Int32}  (k : Q (some (.long (Int32.toInt64 u0))) h) : mWp mCd 91 (54, [none, none, none, none, none], [.int u0], h, 0, 0) Q := by
  refine mWp_run 1 (t' := (55, [none, none, none, none, none], [.long (Int32.toInt64 u0)], h, 0, 0)) rfl ?_
  exact mWp_r (v := (some (.long (Int32.toInt64 u0)))) rfl k
theorem b92_0 {h : mH} {Q : Option Value → mH → Prop} {x1 : Int32} {x2 : Int32} {x3 : Int32} {x4 : Int32} {vc : Int32} (e1 : h[5]? = some (oJ vc)) (k : mCt mCd 114 [.ref 5, .int x1] h (fun rv hv => mWp mCd 92 (5, [none, none, some (.int x2), some (.int x3), some (.int x4), none], rv.toList ++ [], hv, 0, 0) Q)) : mWp mCd 92 (0, [some (.ref 5), some (.int x1), some (.int x2), some (.int x3), some (.int x4), none], [], h, 0, 0) Q := by
  refine mWp_run 2 (t' := (2, [some (.ref 5), some (.int x1), some (.int x2), some (.int x3), some (.int x4), none], [.int x1, .ref 5], h, 0, 0)) rfl ?_
  exact mWp_iv rfl rfl e1 rfl rfl rfl rfl (mCt_mono k (fun rv hv y => mWp_weak (mLe_n (mLe_n (mLe_s (mLe_s (mLe_s (mLe_n mLe_0)))))) y))
theorem b92_5 {h : mH} {Q : Option Value → mH → Prop} {x2 : Int32} {x3 : Int32} {x4 : Int32}  (k : Q (some (.long (lZ (-4611686018427387904)))) h) : mWp mCd 92 (5, [none, none, some (.int x2), some (.int x3), some (.int x4), none], [.null], h, 0, 0) Q := by
  refine mWp_run 4 (t' := (31, [none, none, some (.int x2), some (.int x3), some (.int x4), some (.null)], [.long (lZ (-4611686018427387904))], h, 0, 0)) rfl ?_
  exact mWp_r (v := (some (.long (lZ (-4611686018427387904))))) rfl k
theorem b92_5_1 {h : mH} {Q : Option Value → mH → Prop} {x2 : Int32} {x3 : Int32} {x4 : Int32} {q0 : Nat}  (k : mCt mCd 122 [.int x2] h (fun rv hv => mWp mCd 92 (16, [none, none, some (.int x2), some (.int x3), some (.int x4), some (.ref q0)], rv.toList ++ [], hv, 0, 0) Q)) : mWp mCd 92 (5, [none, none, some (.int x2), some (.int x3), some (.int x4), none], [.ref q0], h, 0, 0) Q := by
  refine mWp_run 4 (t' := (13, [none, none, some (.int x2), some (.int x3), some (.int x4), some (.ref q0)], [.int x2], h, 0, 0)) rfl ?_
  exact mWp_is rfl rfl rfl rfl rfl k
theorem b92_16 {h : mH} {Q : Option Value → mH → Prop} {x2 : Int32} {x3 : Int32} {x4 : Int32} {r5 : Nat} {u0 : Int32}  (k1 : u0 = 0 → mWp mCd 92 (28, [none, none, none, none, none, none], [], h, 0, 0) Q) (k2 : ¬ (u0 = 0) → mWp mCd 92 (19, [none, none, some (.int x2), some (.int x3), some (.int x4), some (.ref r5)], [], h, 0, 0) Q) : mWp mCd 92 (16, [none, none, some (.int x2), some (.int x3), some (.int x4), some (.ref r5)], [.int u0], h, 0, 0) Q := by
  exact mWp_if (P := fun x => x = 0) (a := u0) rfl (fun q => mWp_weak (mLe_n (mLe_n (mLe_n (mLe_n (mLe_n (mLe_n mLe_0)))))) (k1 q)) k2
theorem b92_28 {h : mH} {Q : Option Value → mH → Prop}   (k : Q (some (.long (lZ (-4611686018427387904)))) h) : mWp mCd 92 (28, [none, none, none, none, none, none], [], h, 0, 0) Q := by
  refine mWp_run 1 (t' := (31, [none, none, none, none, none, none], [.long (lZ (-4611686018427387904))], h, 0, 0)) rfl ?_
  exact mWp_r (v := (some (.long (lZ (-4611686018427387904))))) rfl k
theorem b92_19 {h : mH} {Q : Option Value → mH → Prop} {x2 : Int32} {x3 : Int32} {x4 : Int32} {r5 : Nat} {ci : Nat} {num : Int32} {n : Int32} {fd : Int32} (hc : [1, 2, 4, 6, 8].contains ci = true) (e2 : h[r5]? = some (oV ci r5 num n fd)) (k : mCt mCd 43 [.ref r5, .int x3] h (fun rv hv => mWp mCd 92 (25, [none, none, some (.int x2), some (.int x3), some (.int x4), some (.ref r5)], rv.toList ++ [], hv, 0, 0) Q)) : mWp mCd 92 (19, [none, none, some (.int x2), some (.int x3), some (.int x4), some (.ref r5)], [], h, 0, 0) Q := by
  refine mWp_run 2 (t' := (22, [none, none, some (.int x2), some (.int x3), some (.int x4), some (.ref r5)], [.int x3, .ref r5], h, 0, 0)) rfl ?_
  exact mWp_iv rfl rfl e2 (mS5 hc) rfl rfl rfl k
theorem b92_25 {h : mH} {Q : Option Value → mH → Prop} {x2 : Int32} {x3 : Int32} {x4 : Int32} {r5 : Nat} {u0 : Int32}  (k1 : ¬ u0 = 0 → mWp mCd 92 (32, [none, none, some (.int x2), some (.int x3), some (.int x4), some (.ref r5)], [], h, 0, 0) Q) (k2 : ¬ (¬ u0 = 0) → mWp mCd 92 (28, [none, none, none, none, none, none], [], h, 0, 0) Q) : mWp mCd 92 (25, [none, none, some (.int x2), some (.int x3), some (.int x4), some (.ref r5)], [.int u0], h, 0, 0) Q := by
  exact mWp_if (P := fun x => ¬ x = 0) (a := u0) rfl k1 (fun q => mWp_weak (mLe_n (mLe_n (mLe_n (mLe_n (mLe_n (mLe_n mLe_0)))))) (k2 q))
theorem b92_32 {h : mH} {Q : Option Value → mH → Prop} {x2 : Int32} {x3 : Int32} {x4 : Int32} {r5 : Nat} {ci : Nat} {num : Int32} {n : Int32} {fd : Int32} (hc : [1, 2, 4, 6, 8].contains ci = true) (e2 : h[r5]? = some (oV ci r5 num n fd)) (k : mCt mCd 60 [.ref r5, .int x2, .int x3] h (fun rv hv => mWp mCd 92 (39, [none, none, some (.int x2), none, some (.int x4), some (.ref r5)], rv.toList ++ [], hv, 0, 0) Q)) : mWp mCd 92 (32, [none, none, some (.int x2), some (.int x3), some (.int x4), some (.ref r5)], [], h, 0, 0) Q := by
  refine mWp_run 3 (t' := (36, [none, none, some (.int x2), some (.int x3), some (.int x4), some (.ref r5)], [.int x3, .int x2, .ref r5], h, 0, 0)) rfl ?_
  exact mWp_iv rfl rfl e2 (mS5 hc) rfl rfl rfl (mCt_mono k (fun rv hv y => mWp_weak (mLe_n (mLe_n (mLe_s (mLe_n (mLe_s (mLe_s mLe_0)))))) y))
theorem b92_39 {h : mH} {Q : Option Value → mH → Prop} {x2 : Int32} {x4 : Int32} {r5 : Nat} {u0 : Int32} {ci : Nat} {num : Int32} {n : Int32} {fd : Int32} (hc : [1, 2, 4, 6, 8].contains ci = true) (e2 : h[r5]? = some (oV ci r5 num n fd)) (k : mCt mCd 59 [.ref r5, .int x2] h (fun rv hv => mWp mCd 92 (46, [none, none, none, none, some (.int x4), none], rv.toList ++ [.long (Int32.toInt64 u0)], hv, 0, 0) Q)) : mWp mCd 92 (39, [none, none, some (.int x2), none, some (.int x4), some (.ref r5)], [.int u0], h, 0, 0) Q := by
  refine mWp_run 3 (t' := (43, [none, none, some (.int x2), none, some (.int x4), some (.ref r5)], [.int x2, .ref r5, .long (Int32.toInt64 u0)], h, 0, 0)) rfl ?_
  exact mWp_iv rfl rfl e2 (mS5 hc) rfl rfl rfl (mCt_mono k (fun rv hv y => mWp_weak (mLe_n (mLe_n (mLe_n (mLe_n (mLe_s (mLe_n mLe_0)))))) y))
theorem b92_46 {h : mH} {Q : Option Value → mH → Prop} {x4 : Int32} {u0 : Int32} {w1 : Int64}  (k : mCt mCd 134 [.long w1, .long (Int32.toInt64 u0), .int x4] h (fun rv hv => mWp mCd 92 (52, [none, none, none, none, none, none], rv.toList ++ [], hv, 0, 0) Q)) : mWp mCd 92 (46, [none, none, none, none, some (.int x4), none], [.int u0, .long w1], h, 0, 0) Q := by
  refine mWp_run 2 (t' := (49, [none, none, none, none, some (.int x4), none], [.int x4, .long (Int32.toInt64 u0), .long w1], h, 0, 0)) rfl ?_
  exact mWp_is rfl rfl rfl rfl rfl (mCt_mono k (fun rv hv y => mWp_weak (mLe_n (mLe_n (mLe_n (mLe_n (mLe_n (mLe_n mLe_0)))))) y))
theorem b92_52 {h : mH} {Q : Option Value → mH → Prop} {w0 : Int64}  (k : Q (some (.long w0)) h) : mWp mCd 92 (52, [none, none, none, none, none, none], [.long w0], h, 0, 0) Q := by
  exact mWp_r (v := (some (.long w0))) rfl k
theorem b93_0 {h : mH} {Q : Option Value → mH → Prop} {x1 : Int32} {x2 : Int32} {x3 : Int32} {x4 : Int32} {vc : Int32} (e1 : h[5]? = some (oJ vc)) (k : mCt mCd 114 [.ref 5, .int x1] h (fun rv hv => mWp mCd 93 (5, [none, none, some (.int x2), some (.int x3), some (.int x4), none], rv.toList ++ [], hv, 0, 0) Q)) : mWp mCd 93 (0, [some (.ref 5), some (.int x1), some (.int x2), some (.int x3), some (.int x4), none], [], h, 0, 0) Q := by
  refine mWp_run 2 (t' := (2, [some (.ref 5), some (.int x1), some (.int x2), some (.int x3), some (.int x4), none], [.int x1, .ref 5], h, 0, 0)) rfl ?_
  exact mWp_iv rfl rfl e1 rfl rfl rfl rfl (mCt_mono k (fun rv hv y => mWp_weak (mLe_n (mLe_n (mLe_s (mLe_s (mLe_s (mLe_n mLe_0)))))) y))
theorem b93_5 {h : mH} {Q : Option Value → mH → Prop} {x2 : Int32} {x3 : Int32} {x4 : Int32}  (k : Q (some (.long (lZ (-4611686018427387904)))) h) : mWp mCd 93 (5, [none, none, some (.int x2), some (.int x3), some (.int x4), none], [.null], h, 0, 0) Q := by
  refine mWp_run 4 (t' := (31, [none, none, some (.int x2), some (.int x3), some (.int x4), some (.null)], [.long (lZ (-4611686018427387904))], h, 0, 0)) rfl ?_
  exact mWp_r (v := (some (.long (lZ (-4611686018427387904))))) rfl k
theorem b93_5_1 {h : mH} {Q : Option Value → mH → Prop} {x2 : Int32} {x3 : Int32} {x4 : Int32} {q0 : Nat}  (k : mCt mCd 122 [.int x2] h (fun rv hv => mWp mCd 93 (16, [none, none, some (.int x2), some (.int x3), some (.int x4), some (.ref q0)], rv.toList ++ [], hv, 0, 0) Q)) : mWp mCd 93 (5, [none, none, some (.int x2), some (.int x3), some (.int x4), none], [.ref q0], h, 0, 0) Q := by
  refine mWp_run 4 (t' := (13, [none, none, some (.int x2), some (.int x3), some (.int x4), some (.ref q0)], [.int x2], h, 0, 0)) rfl ?_
  exact mWp_is rfl rfl rfl rfl rfl k
theorem b93_16 {h : mH} {Q : Option Value → mH → Prop} {x2 : Int32} {x3 : Int32} {x4 : Int32} {r5 : Nat} {u0 : Int32}  (k1 : u0 = 0 → mWp mCd 93 (28, [none, none, none, none, none, none], [], h, 0, 0) Q) (k2 : ¬ (u0 = 0) → mWp mCd 93 (19, [none, none, some (.int x2), some (.int x3), some (.int x4), some (.ref r5)], [], h, 0, 0) Q) : mWp mCd 93 (16, [none, none, some (.int x2), some (.int x3), some (.int x4), some (.ref r5)], [.int u0], h, 0, 0) Q := by
  exact mWp_if (P := fun x => x = 0) (a := u0) rfl (fun q => mWp_weak (mLe_n (mLe_n (mLe_n (mLe_n (mLe_n (mLe_n mLe_0)))))) (k1 q)) k2
theorem b93_28 {h : mH} {Q : Option Value → mH → Prop}   (k : Q (some (.long (lZ (-4611686018427387904)))) h) : mWp mCd 93 (28, [none, none, none, none, none, none], [], h, 0, 0) Q := by
  refine mWp_run 1 (t' := (31, [none, none, none, none, none, none], [.long (lZ (-4611686018427387904))], h, 0, 0)) rfl ?_
  exact mWp_r (v := (some (.long (lZ (-4611686018427387904))))) rfl k
theorem b93_19 {h : mH} {Q : Option Value → mH → Prop} {x2 : Int32} {x3 : Int32} {x4 : Int32} {r5 : Nat} {ci : Nat} {num : Int32} {n : Int32} {fd : Int32} (hc : [1, 2, 4, 6, 8].contains ci = true) (e2 : h[r5]? = some (oV ci r5 num n fd)) (k : mCt mCd 45 [.ref r5, .int x3] h (fun rv hv => mWp mCd 93 (25, [none, none, some (.int x2), some (.int x3), some (.int x4), some (.ref r5)], rv.toList ++ [], hv, 0, 0) Q)) : mWp mCd 93 (19, [none, none, some (.int x2), some (.int x3), some (.int x4), some (.ref r5)], [], h, 0, 0) Q := by
  refine mWp_run 2 (t' := (22, [none, none, some (.int x2), some (.int x3), some (.int x4), some (.ref r5)], [.int x3, .ref r5], h, 0, 0)) rfl ?_
  exact mWp_iv rfl rfl e2 (mS5 hc) rfl rfl rfl k
theorem b93_25 {h : mH} {Q : Option Value → mH → Prop} {x2 : Int32} {x3 : Int32} {x4 : Int32} {r5 : Nat} {u0 : Int32}  (k1 : ¬ u0 = 0 → mWp mCd 93 (32, [none, none, some (.int x2), some (.int x3), some (.int x4), some (.ref r5)], [], h, 0, 0) Q) (k2 : ¬ (¬ u0 = 0) → mWp mCd 93 (28, [none, none, none, none, none, none], [], h, 0, 0) Q) : mWp mCd 93 (25, [none, none, some (.int x2), some (.int x3), some (.int x4), some (.ref r5)], [.int u0], h, 0, 0) Q := by
  exact mWp_if (P := fun x => ¬ x = 0) (a := u0) rfl k1 (fun q => mWp_weak (mLe_n (mLe_n (mLe_n (mLe_n (mLe_n (mLe_n mLe_0)))))) (k2 q))
theorem b93_32 {h : mH} {Q : Option Value → mH → Prop} {x2 : Int32} {x3 : Int32} {x4 : Int32} {r5 : Nat} {ci : Nat} {num : Int32} {n : Int32} {fd : Int32} (hc : [1, 2, 4, 6, 8].contains ci = true) (e2 : h[r5]? = some (oV ci r5 num n fd)) (k : mCt mCd 63 [.ref r5, .int x2, .int x3] h (fun rv hv => mWp mCd 93 (39, [none, none, some (.int x2), none, some (.int x4), some (.ref r5)], rv.toList ++ [], hv, 0, 0) Q)) : mWp mCd 93 (32, [none, none, some (.int x2), some (.int x3), some (.int x4), some (.ref r5)], [], h, 0, 0) Q := by
  refine mWp_run 3 (t' := (36, [none, none, some (.int x2), some (.int x3), some (.int x4), some (.ref r5)], [.int x3, .int x2, .ref r5], h, 0, 0)) rfl ?_
  exact mWp_iv rfl rfl e2 (mS5 hc) rfl rfl rfl (mCt_mono k (fun rv hv y => mWp_weak (mLe_n (mLe_n (mLe_s (mLe_n (mLe_s (mLe_s mLe_0)))))) y))
theorem b93_39 {h : mH} {Q : Option Value → mH → Prop} {x2 : Int32} {x4 : Int32} {r5 : Nat} {u0 : Int32} {ci : Nat} {num : Int32} {n : Int32} {fd : Int32} (hc : [1, 2, 4, 6, 8].contains ci = true) (e2 : h[r5]? = some (oV ci r5 num n fd)) (k : mCt mCd 59 [.ref r5, .int x2] h (fun rv hv => mWp mCd 93 (46, [none, none, none, none, some (.int x4), none], rv.toList ++ [.long (Int32.toInt64 u0)], hv, 0, 0) Q)) : mWp mCd 93 (39, [none, none, some (.int x2), none, some (.int x4), some (.ref r5)], [.int u0], h, 0, 0) Q := by
  refine mWp_run 3 (t' := (43, [none, none, some (.int x2), none, some (.int x4), some (.ref r5)], [.int x2, .ref r5, .long (Int32.toInt64 u0)], h, 0, 0)) rfl ?_
  exact mWp_iv rfl rfl e2 (mS5 hc) rfl rfl rfl (mCt_mono k (fun rv hv y => mWp_weak (mLe_n (mLe_n (mLe_n (mLe_n (mLe_s (mLe_n mLe_0)))))) y))
theorem b93_46 {h : mH} {Q : Option Value → mH → Prop} {x4 : Int32} {u0 : Int32} {w1 : Int64}  (k : mCt mCd 134 [.long w1, .long (Int32.toInt64 u0), .int x4] h (fun rv hv => mWp mCd 93 (52, [none, none, none, none, none, none], rv.toList ++ [], hv, 0, 0) Q)) : mWp mCd 93 (46, [none, none, none, none, some (.int x4), none], [.int u0, .long w1], h, 0, 0) Q := by
  refine mWp_run 2 (t' := (49, [none, none, none, none, some (.int x4), none], [.int x4, .long (Int32.toInt64 u0), .long w1], h, 0, 0)) rfl ?_
  exact mWp_is rfl rfl rfl rfl rfl (mCt_mono k (fun rv hv y => mWp_weak (mLe_n (mLe_n (mLe_n (mLe_n (mLe_n (mLe_n mLe_0)))))) y))
theorem b93_52 {h : mH} {Q : Option Value → mH → Prop} {w0 : Int64}  (k : Q (some (.long w0)) h) : mWp mCd 93 (52, [none, none, none, none, none, none], [.long w0], h, 0, 0) Q := by
  exact mWp_r (v := (some (.long w0))) rfl k
theorem b94_0 {h : mH} {Q : Option Value → mH → Prop} {x1 : Int32} {x2 : Int32} {vc : Int32} (e1 : h[5]? = some (oJ vc)) (k : mCt mCd 114 [.ref 5, .int x1] h (fun rv hv => mWp mCd 94 (5, [none, none, some (.int x2), none], rv.toList ++ [], hv, 0, 0) Q)) : mWp mCd 94 (0, [some (.ref 5), some (.int x1), some (.int x2), none], [], h, 0, 0) Q := by
  refine mWp_run 2 (t' := (2, [some (.ref 5), some (.int x1), some (.int x2), none], [.int x1, .ref 5], h, 0, 0)) rfl ?_
  exact mWp_iv rfl rfl e1 rfl rfl rfl rfl (mCt_mono k (fun rv hv y => mWp_weak (mLe_n (mLe_n (mLe_s (mLe_n mLe_0)))) y))
theorem b94_5 {h : mH} {Q : Option Value → mH → Prop} {x2 : Int32}  (k : Q (some (.int (iZ (-2)))) h) : mWp mCd 94 (5, [none, none, some (.int x2), none], [.null], h, 0, 0) Q := by
  refine mWp_run 5 (t' := (27, [none, none, some (.int x2), some (.null)], [.int (iZ (-2))], h, 0, 0)) rfl ?_
  exact mWp_r (v := (some (.int (iZ (-2))))) rfl k
theorem b94_5_1 {h : mH} {Q : Option Value → mH → Prop} {x2 : Int32} {q0 : Nat}  (k : mCt mCd 122 [.int x2] h (fun rv hv => mWp mCd 94 (14, [none, none, some (.int x2), some (.ref q0)], rv.toList ++ [], hv, 0, 0) Q)) : mWp mCd 94 (5, [none, none, some (.int x2), none], [.ref q0], h, 0, 0) Q := by
  refine mWp_run 4 (t' := (11, [none, none, some (.int x2), some (.ref q0)], [.int x2], h, 0, 0)) rfl ?_
  exact mWp_is rfl rfl rfl rfl rfl k
theorem b94_14 {h : mH} {Q : Option Value → mH → Prop} {x2 : Int32} {r3 : Nat} {u0 : Int32}  (k1 : ¬ u0 = 0 → mWp mCd 94 (22, [none, none, some (.int x2), some (.ref r3)], [], h, 0, 0) Q) (k2 : ¬ (¬ u0 = 0) → mWp mCd 94 (17, [none, none, none, none], [], h, 0, 0) Q) : mWp mCd 94 (14, [none, none, some (.int x2), some (.ref r3)], [.int u0], h, 0, 0) Q := by
  exact mWp_if (P := fun x => ¬ x = 0) (a := u0) rfl k1 (fun q => mWp_weak (mLe_n (mLe_n (mLe_n (mLe_n mLe_0)))) (k2 q))
theorem b94_22 {h : mH} {Q : Option Value → mH → Prop} {x2 : Int32} {r3 : Nat} {ci : Nat} {num : Int32} {n : Int32} {fd : Int32} (hc : [1, 2, 4, 6, 8].contains ci = true) (e2 : h[r3]? = some (oV ci r3 num n fd)) (k : mCt mCd 66 [.ref r3, .int x2] h (fun rv hv => mWp mCd 94 (27, [none, none, none, none], rv.toList ++ [], hv, 0, 0) Q)) : mWp mCd 94 (22, [none, none, some (.int x2), some (.ref r3)], [], h, 0, 0) Q := by
  refine mWp_run 2 (t' := (24, [none, none, some (.int x2), some (.ref r3)], [.int x2, .ref r3], h, 0, 0)) rfl ?_
  exact mWp_iv rfl rfl e2 (mS5 hc) rfl rfl rfl (mCt_mono k (fun rv hv y => mWp_weak (mLe_n (mLe_n (mLe_n (mLe_n mLe_0)))) y))
theorem b94_17 {h : mH} {Q : Option Value → mH → Prop}   (k : Q (some (.int (iZ (-2)))) h) : mWp mCd 94 (17, [none, none, none, none], [], h, 0, 0) Q := by
  refine mWp_run 2 (t' := (27, [none, none, none, none], [.int (iZ (-2))], h, 0, 0)) rfl ?_
  exact mWp_r (v := (some (.int (iZ (-2))))) rfl k
theorem b94_27 {h : mH} {Q : Option Value → mH → Prop} {u0 : Int32}  (k : Q (some (.int u0)) h) : mWp mCd 94 (27, [none, none, none, none], [.int u0], h, 0, 0) Q := by
  exact mWp_r (v := (some (.int u0))) rfl k
theorem b95_0 {h : mH} {Q : Option Value → mH → Prop} {x1 : Int32} {x2 : Int32} {x3 : Int32} {x4 : Int32} {vc : Int32} (e1 : h[5]? = some (oJ vc)) (k : mCt mCd 114 [.ref 5, .int x1] h (fun rv hv => mWp mCd 95 (5, [none, none, some (.int x2), some (.int x3), some (.int x4), none, none], rv.toList ++ [], hv, 0, 0) Q)) : mWp mCd 95 (0, [some (.ref 5), some (.int x1), some (.int x2), some (.int x3), some (.int x4), none, none], [], h, 0, 0) Q := by
  refine mWp_run 2 (t' := (2, [some (.ref 5), some (.int x1), some (.int x2), some (.int x3), some (.int x4), none, none], [.int x1, .ref 5], h, 0, 0)) rfl ?_
  exact mWp_iv rfl rfl e1 rfl rfl rfl rfl (mCt_mono k (fun rv hv y => mWp_weak (mLe_n (mLe_n (mLe_s (mLe_s (mLe_s (mLe_n (mLe_n mLe_0))))))) y))
theorem b95_5 {h : mH} {Q : Option Value → mH → Prop} {x2 : Int32} {x3 : Int32} {x4 : Int32}  (k : Q (some (.long (lZ (-4611686018427387904)))) h) : mWp mCd 95 (5, [none, none, some (.int x2), some (.int x3), some (.int x4), none, none], [.null], h, 0, 0) Q := by
  refine mWp_run 4 (t' := (24, [none, none, some (.int x2), some (.int x3), some (.int x4), some (.null), none], [.long (lZ (-4611686018427387904))], h, 0, 0)) rfl ?_
  exact mWp_r (v := (some (.long (lZ (-4611686018427387904))))) rfl k
theorem b95_5_1 {h : mH} {Q : Option Value → mH → Prop} {x2 : Int32} {x3 : Int32} {x4 : Int32} {q0 : Nat} {ci : Nat} {num : Int32} {n : Int32} {fd : Int32} (hc : [1, 2, 4, 6, 8].contains ci = true) (e2 : h[q0]? = some (oV ci q0 num n fd)) (k : mCt mCd 43 [.ref q0, .int x3] h (fun rv hv => mWp mCd 95 (18, [none, none, some (.int x2), some (.int x3), some (.int x4), some (.ref q0), none], rv.toList ++ [], hv, 0, 0) Q)) : mWp mCd 95 (5, [none, none, some (.int x2), some (.int x3), some (.int x4), none, none], [.ref q0], h, 0, 0) Q := by
  refine mWp_run 5 (t' := (15, [none, none, some (.int x2), some (.int x3), some (.int x4), some (.ref q0), none], [.int x3, .ref q0], h, 0, 0)) rfl ?_
  exact mWp_iv rfl rfl e2 (mS5 hc) rfl rfl rfl k
theorem b95_18 {h : mH} {Q : Option Value → mH → Prop} {x2 : Int32} {x3 : Int32} {x4 : Int32} {r5 : Nat} {u0 : Int32}  (k1 : ¬ u0 = 0 → mWp mCd 95 (25, [none, none, some (.int x2), some (.int x3), some (.int x4), some (.ref r5), none], [], h, 0, 0) Q) (k2 : ¬ (¬ u0 = 0) → mWp mCd 95 (21, [none, none, none, none, none, none, none], [], h, 0, 0) Q) : mWp mCd 95 (18, [none, none, some (.int x2), some (.int x3), some (.int x4), some (.ref r5), none], [.int u0], h, 0, 0) Q := by
  exact mWp_if (P := fun x => ¬ x = 0) (a := u0) rfl k1 (fun q => mWp_weak (mLe_n (mLe_n (mLe_n (mLe_n (mLe_n (mLe_n (mLe_n mLe_0))))))) (k2 q))
theorem b95_25 {h : mH} {Q : Option Value → mH → Prop} {x2 : Int32} {x3 : Int32} {x4 : Int32} {r5 : Nat} {ci : Nat} {num : Int32} {n : Int32} {fd : Int32} (hc : [1, 2, 4, 6, 8].contains ci = true) (e2 : h[r5]? = some (oV ci r5 num n fd)) (k : mCt mCd 49 [.ref r5] h (fun rv hv => mWp mCd 95 (30, [none, none, some (.int x2), some (.int x3), some (.int x4), none, none], rv.toList ++ [], hv, 0, 0) Q)) : mWp mCd 95 (25, [none, none, some (.int x2), some (.int x3), some (.int x4), some (.ref r5), none], [], h, 0, 0) Q := by
  refine mWp_run 1 (t' := (27, [none, none, some (.int x2), some (.int x3), some (.int x4), some (.ref r5), none], [.ref r5], h, 0, 0)) rfl ?_
  exact mWp_iv rfl rfl e2 (mS5 hc) rfl rfl rfl (mCt_mono k (fun rv hv y => mWp_weak (mLe_n (mLe_n (mLe_s (mLe_s (mLe_s (mLe_n (mLe_n mLe_0))))))) y))
theorem b95_21 {h : mH} {Q : Option Value → mH → Prop}   (k : Q (some (.long (lZ (-4611686018427387904)))) h) : mWp mCd 95 (21, [none, none, none, none, none, none, none], [], h, 0, 0) Q := by
  refine mWp_run 1 (t' := (24, [none, none, none, none, none, none, none], [.long (lZ (-4611686018427387904))], h, 0, 0)) rfl ?_
  exact mWp_r (v := (some (.long (lZ (-4611686018427387904))))) rfl k
theorem b95_30 {h : mH} {Q : Option Value → mH → Prop} {x2 : Int32} {x3 : Int32} {x4 : Int32} {q0 : Nat}  (k1 : x2 < 0 → mWp mCd 95 (45, [none, none, none, none, none, none, none], [], h, 0, 0) Q) (k2 : ¬ (x2 < 0) → mWp mCd 95 (36, [none, none, some (.int x2), some (.int x3), some (.int x4), none, some (.ref q0)], [], h, 0, 0) Q) : mWp mCd 95 (30, [none, none, some (.int x2), some (.int x3), some (.int x4), none, none], [.ref q0], h, 0, 0) Q := by
  refine mWp_run 2 (t' := (33, [none, none, some (.int x2), some (.int x3), some (.int x4), none, some (.ref q0)], [.int x2], h, 0, 0)) rfl ?_
  exact mWp_if (P := fun x => x < 0) (a := x2) rfl (fun q => mWp_weak (mLe_n (mLe_n (mLe_n (mLe_n (mLe_n (mLe_n (mLe_n mLe_0))))))) (k1 q)) k2
theorem b95_45 {h : mH} {Q : Option Value → mH → Prop}   (k : Q (some (.long (lZ (-4611686018427387904)))) h) : mWp mCd 95 (45, [none, none, none, none, none, none, none], [], h, 0, 0) Q := by
  refine mWp_run 1 (t' := (48, [none, none, none, none, none, none, none], [.long (lZ (-4611686018427387904))], h, 0, 0)) rfl ?_
  exact mWp_r (v := (some (.long (lZ (-4611686018427387904))))) rfl k
theorem b95_36 {h : mH} {Q : Option Value → mH → Prop} {x2 : Int32} {x3 : Int32} {x4 : Int32} {r6 : Nat} {cc : Int32} {tw : Int32} (e1 : h[r6]? = some (oK r6 cc tw)) (k1 : x2 < cc → mWp mCd 95 (49, [none, none, some (.int x2), some (.int x3), some (.int x4), none, some (.ref r6)], [], h, 0, 0) Q) (k2 : ¬ (x2 < cc) → mWp mCd 95 (45, [none, none, none, none, none, none, none], [], h, 0, 0) Q) : mWp mCd 95 (36, [none, none, some (.int x2), some (.int x3), some (.int x4), none, some (.ref r6)], [], h, 0, 0) Q := by
  refine mWp_run 2 (t' := (39, [none, none, some (.int x2), some (.int x3), some (.int x4), none, some (.ref r6)], [.ref r6, .int x2], h, 0, 0)) rfl ?_
  refine mWp_gf rfl e1 rfl rfl ?_
  exact mWp_ic (P := fun x y => x < y) (a := x2) (b := cc) rfl k1 (fun q => mWp_weak (mLe_n (mLe_n (mLe_n (mLe_n (mLe_n (mLe_n (mLe_n mLe_0))))))) (k2 q))
theorem b95_49 {h : mH} {Q : Option Value → mH → Prop} {x2 : Int32} {x3 : Int32} {x4 : Int32} {r6 : Nat} {cc : Int32} {tw : Int32} (e1 : h[r6]? = some (oK r6 cc tw)) (k : mCt mCd 1 [.ref r6, .int x2, .int x3] h (fun rv hv => mWp mCd 95 (56, [none, none, none, none, some (.int x4), none, none], rv.toList ++ [], hv, 0, 0) Q)) : mWp mCd 95 (49, [none, none, some (.int x2), some (.int x3), some (.int x4), none, some (.ref r6)], [], h, 0, 0) Q := by
  refine mWp_run 3 (t' := (53, [none, none, some (.int x2), some (.int x3), some (.int x4), none, some (.ref r6)], [.int x3, .int x2, .ref r6], h, 0, 0)) rfl ?_
  exact mWp_iv rfl rfl e1 rfl rfl rfl rfl (mCt_mono k (fun rv hv y => mWp_weak (mLe_n (mLe_n (mLe_n (mLe_n (mLe_s (mLe_n (mLe_n mLe_0))))))) y))
theorem b95_56 {h : mH} {Q : Option Value → mH → Prop} {x4 : Int32} {u0 : Int32}  (k : mCt mCd 134 [.long (Int32.toInt64 u0), .long (lZ 2), .int x4] h (fun rv hv => mWp mCd 95 (65, [none, none, none, none, none, none, none], rv.toList ++ [], hv, 0, 0) Q)) : mWp mCd 95 (56, [none, none, none, none, some (.int x4), none, none], [.int u0], h, 0, 0) Q := by
  refine mWp_run 3 (t' := (62, [none, none, none, none, some (.int x4), none, none], [.int x4, .long (lZ 2), .long (Int32.toInt64 u0)], h, 0, 0)) rfl ?_
  exact mWp_is rfl rfl rfl rfl rfl (mCt_mono k (fun rv hv y => mWp_weak (mLe_n (mLe_n (mLe_n (mLe_n (mLe_n (mLe_n (mLe_n mLe_0))))))) y))
theorem b95_65 {h : mH} {Q : Option Value → mH → Prop} {w0 : Int64}  (k : Q (some (.long w0)) h) : mWp mCd 95 (65, [none, none, none, none, none, none, none], [.long w0], h, 0, 0) Q := by
  exact mWp_r (v := (some (.long w0))) rfl k
theorem b96_0 {h : mH} {Q : Option Value → mH → Prop} {x1 : Int32} {x2 : Int32} {x3 : Int32} {x4 : Int32} {vc : Int32} (e1 : h[5]? = some (oJ vc)) (k : mCt mCd 114 [.ref 5, .int x1] h (fun rv hv => mWp mCd 96 (5, [none, none, some (.int x2), some (.int x3), some (.int x4), none, none], rv.toList ++ [], hv, 0, 0) Q)) : mWp mCd 96 (0, [some (.ref 5), some (.int x1), some (.int x2), some (.int x3), some (.int x4), none, none], [], h, 0, 0) Q := by
  refine mWp_run 2 (t' := (2, [some (.ref 5), some (.int x1), some (.int x2), some (.int x3), some (.int x4), none, none], [.int x1, .ref 5], h, 0, 0)) rfl ?_
  exact mWp_iv rfl rfl e1 rfl rfl rfl rfl (mCt_mono k (fun rv hv y => mWp_weak (mLe_n (mLe_n (mLe_s (mLe_s (mLe_s (mLe_n (mLe_n mLe_0))))))) y))
theorem b96_5 {h : mH} {Q : Option Value → mH → Prop} {x2 : Int32} {x3 : Int32} {x4 : Int32}  (k : Q (some (.long (lZ (-4611686018427387904)))) h) : mWp mCd 96 (5, [none, none, some (.int x2), some (.int x3), some (.int x4), none, none], [.null], h, 0, 0) Q := by
  refine mWp_run 4 (t' := (31, [none, none, some (.int x2), some (.int x3), some (.int x4), some (.null), none], [.long (lZ (-4611686018427387904))], h, 0, 0)) rfl ?_
  exact mWp_r (v := (some (.long (lZ (-4611686018427387904))))) rfl k
theorem b96_5_1 {h : mH} {Q : Option Value → mH → Prop} {x2 : Int32} {x3 : Int32} {x4 : Int32} {q0 : Nat} {ci : Nat} {num : Int32} {n : Int32} {fd : Int32} (hc : [1, 2, 4, 6, 8].contains ci = true) (e2 : h[q0]? = some (oV ci q0 num n fd)) (k : mCt mCd 43 [.ref q0, .int x2] h (fun rv hv => mWp mCd 96 (18, [none, none, some (.int x2), some (.int x3), some (.int x4), some (.ref q0), none], rv.toList ++ [], hv, 0, 0) Q)) : mWp mCd 96 (5, [none, none, some (.int x2), some (.int x3), some (.int x4), none, none], [.ref q0], h, 0, 0) Q := by
  refine mWp_run 5 (t' := (15, [none, none, some (.int x2), some (.int x3), some (.int x4), some (.ref q0), none], [.int x2, .ref q0], h, 0, 0)) rfl ?_
  exact mWp_iv rfl rfl e2 (mS5 hc) rfl rfl rfl k
theorem b96_18 {h : mH} {Q : Option Value → mH → Prop} {x2 : Int32} {x3 : Int32} {x4 : Int32} {r5 : Nat} {u0 : Int32}  (k1 : u0 = 0 → mWp mCd 96 (28, [none, none, none, none, none, none, none], [], h, 0, 0) Q) (k2 : ¬ (u0 = 0) → mWp mCd 96 (21, [none, none, some (.int x2), some (.int x3), some (.int x4), some (.ref r5), none], [], h, 0, 0) Q) : mWp mCd 96 (18, [none, none, some (.int x2), some (.int x3), some (.int x4), some (.ref r5), none], [.int u0], h, 0, 0) Q := by
  exact mWp_if (P := fun x => x = 0) (a := u0) rfl (fun q => mWp_weak (mLe_n (mLe_n (mLe_n (mLe_n (mLe_n (mLe_n (mLe_n mLe_0))))))) (k1 q)) k2
theorem b96_28 {h : mH} {Q : Option Value → mH → Prop}   (k : Q (some (.long (lZ (-4611686018427387904)))) h) : mWp mCd 96 (28, [none, none, none, none, none, none, none], [], h, 0, 0) Q := by
  refine mWp_run 1 (t' := (31, [none, none, none, none, none, none, none], [.long (lZ (-4611686018427387904))], h, 0, 0)) rfl ?_
  exact mWp_r (v := (some (.long (lZ (-4611686018427387904))))) rfl k
theorem b96_21 {h : mH} {Q : Option Value → mH → Prop} {x2 : Int32} {x3 : Int32} {x4 : Int32} {r5 : Nat}  (k : mCt mCd 122 [.int x3] h (fun rv hv => mWp mCd 96 (25, [none, none, some (.int x2), some (.int x3), some (.int x4), some (.ref r5), none], rv.toList ++ [], hv, 0, 0) Q)) : mWp mCd 96 (21, [none, none, some (.int x2), some (.int x3), some (.int x4), some (.ref r5), none], [], h, 0, 0) Q := by
  refine mWp_run 1 (t' := (22, [none, none, some (.int x2), some (.int x3), some (.int x4), some (.ref r5), none], [.int x3], h, 0, 0)) rfl ?_
  exact mWp_is rfl rfl rfl rfl rfl k
theorem b96_25 {h : mH} {Q : Option Value → mH → Prop} {x2 : Int32} {x3 : Int32} {x4 : Int32} {r5 : Nat} {u0 : Int32}  (k1 : ¬ u0 = 0 → mWp mCd 96 (32, [none, none, some (.int x2), some (.int x3), some (.int x4), some (.ref r5), none], [], h, 0, 0) Q) (k2 : ¬ (¬ u0 = 0) → mWp mCd 96 (28, [none, none, none, none, none, none, none], [], h, 0, 0) Q) : mWp mCd 96 (25, [none, none, some (.int x2), some (.int x3), some (.int x4), some (.ref r5), none], [.int u0], h, 0, 0) Q := by
  exact mWp_if (P := fun x => ¬ x = 0) (a := u0) rfl k1 (fun q => mWp_weak (mLe_n (mLe_n (mLe_n (mLe_n (mLe_n (mLe_n (mLe_n mLe_0))))))) (k2 q))
theorem b96_32 {h : mH} {Q : Option Value → mH → Prop} {x2 : Int32} {x3 : Int32} {x4 : Int32} {r5 : Nat} {ci : Nat} {num : Int32} {n : Int32} {fd : Int32} (hc : [1, 2, 4, 6, 8].contains ci = true) (e2 : h[r5]? = some (oV ci r5 num n fd)) (k : mCt mCd 49 [.ref r5] h (fun rv hv => mWp mCd 96 (37, [none, none, some (.int x2), some (.int x3), some (.int x4), none, none], rv.toList ++ [], hv, 0, 0) Q)) : mWp mCd 96 (32, [none, none, some (.int x2), some (.int x3), some (.int x4), some (.ref r5), none], [], h, 0, 0) Q := by
  refine mWp_run 1 (t' := (34, [none, none, some (.int x2), some (.int x3), some (.int x4), some (.ref r5), none], [.ref r5], h, 0, 0)) rfl ?_
  exact mWp_iv rfl rfl e2 (mS5 hc) rfl rfl rfl (mCt_mono k (fun rv hv y => mWp_weak (mLe_n (mLe_n (mLe_s (mLe_s (mLe_s (mLe_n (mLe_n mLe_0))))))) y))
theorem b96_37 {h : mH} {Q : Option Value → mH → Prop} {x2 : Int32} {x3 : Int32} {x4 : Int32} {q0 : Nat} {cc : Int32} {tw : Int32} (e1 : h[q0]? = some (oK q0 cc tw)) (k1 : ¬ cc = 0 → mWp mCd 96 (51, [none, none, some (.int x2), some (.int x3), some (.int x4), none, some (.ref q0)], [], h, 0, 0) Q) (k2 : ¬ (¬ cc = 0) → mWp mCd 96 (47, [none, none, none, none, none, none, none], [], h, 0, 0) Q) : mWp mCd 96 (37, [none, none, some (.int x2), some (.int x3), some (.int x4), none, none], [.ref q0], h, 0, 0) Q := by
  refine mWp_run 2 (t' := (41, [none, none, some (.int x2), some (.int x3), some (.int x4), none, some (.ref q0)], [.ref q0], h, 0, 0)) rfl ?_
  refine mWp_gf rfl e1 rfl rfl ?_
  exact mWp_if (P := fun x => ¬ x = 0) (a := cc) rfl k1 (fun q => mWp_weak (mLe_n (mLe_n (mLe_n (mLe_n (mLe_n (mLe_n (mLe_n mLe_0))))))) (k2 q))
theorem b96_51 {h : mH} {Q : Option Value → mH → Prop} {x2 : Int32} {x3 : Int32} {x4 : Int32} {r6 : Nat}  (k1 : ¬ x3 = (iZ 1) → mWp mCd 96 (63, [none, none, none, none, some (.int x4), none, none], [.int x2, .ref r6], h, 0, 0) Q) (k2 : ¬ (¬ x3 = (iZ 1)) → mWp mCd 96 (59, [none, none, none, none, some (.int x4), none, none], [.int x2, .ref r6], h, 0, 0) Q) : mWp mCd 96 (51, [none, none, some (.int x2), some (.int x3), some (.int x4), none, some (.ref r6)], [], h, 0, 0) Q := by
  refine mWp_run 4 (t' := (56, [none, none, some (.int x2), some (.int x3), some (.int x4), none, some (.ref r6)], [.int (iZ 1), .int x3, .int x2, .ref r6], h, 0, 0)) rfl ?_
  exact mWp_ic (P := fun x y => ¬ x = y) (a := x3) (b := iZ 1) rfl (fun q => mWp_weak (mLe_n (mLe_n (mLe_n (mLe_n (mLe_s (mLe_n (mLe_n mLe_0))))))) (k1 q)) (fun q => mWp_weak (mLe_n (mLe_n (mLe_n (mLe_n (mLe_s (mLe_n (mLe_n mLe_0))))))) (k2 q))
theorem b96_47 {h : mH} {Q : Option Value → mH → Prop}   (k : Q (some (.long (lZ (-4611686018427387904)))) h) : mWp mCd 96 (47, [none, none, none, none, none, none, none], [], h, 0, 0) Q := by
  refine mWp_run 1 (t' := (50, [none, none, none, none, none, none, none], [.long (lZ (-4611686018427387904))], h, 0, 0)) rfl ?_
  exact mWp_r (v := (some (.long (lZ (-4611686018427387904))))) rfl k
theorem b96_63 {h : mH} {Q : Option Value → mH → Prop} {x4 : Int32} {u0 : Int32} {q1 : Nat}  (k : mWp mCd 96 (64, [none, none, none, none, some (.int x4), none, none], [.int (iZ 0), .int u0, .ref q1], h, 0, 0) Q) : mWp mCd 96 (63, [none, none, none, none, some (.int x4), none, none], [.int u0, .ref q1], h, 0, 0) Q := by
  refine mWp_run 1 (t' := (64, [none, none, none, none, some (.int x4), none, none], [.int (iZ 0), .int u0, .ref q1], h, 0, 0)) rfl ?_
  exact k
theorem b96_59 {h : mH} {Q : Option Value → mH → Prop} {x4 : Int32} {u0 : Int32} {q1 : Nat}  (k : mWp mCd 96 (64, [none, none, none, none, some (.int x4), none, none], [.int (iZ 1), .int u0, .ref q1], h, 0, 0) Q) : mWp mCd 96 (59, [none, none, none, none, some (.int x4), none, none], [.int u0, .ref q1], h, 0, 0) Q := by
  refine mWp_run 2 (t' := (64, [none, none, none, none, some (.int x4), none, none], [.int (iZ 1), .int u0, .ref q1], h, 0, 0)) rfl ?_
  exact k
theorem b96_64 {h : mH} {Q : Option Value → mH → Prop} {x4 : Int32} {u0 : Int32} {u1 : Int32} {q2 : Nat} {cc : Int32} {tw : Int32} (e1 : h[q2]? = some (oK q2 cc tw)) (k : mCt mCd 2 [.ref q2, .int u1, .int u0] h (fun rv hv => mWp mCd 96 (67, [none, none, none, none, some (.int x4), none, none], rv.toList ++ [], hv, 0, 0) Q)) : mWp mCd 96 (64, [none, none, none, none, some (.int x4), none, none], [.int u0, .int u1, .ref q2], h, 0, 0) Q := by
  exact mWp_iv rfl rfl e1 rfl rfl rfl rfl k
theorem b96_67 {h : mH} {Q : Option Value → mH → Prop} {x4 : Int32} {u0 : Int32}  (k : mCt mCd 134 [.long (Int32.toInt64 u0), .long (lZ 2), .int x4] h (fun rv hv => mWp mCd 96 (76, [none, none, none, none, none, none, none], rv.toList ++ [], hv, 0, 0) Q)) : mWp mCd 96 (67, [none, none, none, none, some (.int x4), none, none], [.int u0], h, 0, 0) Q := by
  refine mWp_run 3 (t' := (73, [none, none, none, none, some (.int x4), none, none], [.int x4, .long (lZ 2), .long (Int32.toInt64 u0)], h, 0, 0)) rfl ?_
  exact mWp_is rfl rfl rfl rfl rfl (mCt_mono k (fun rv hv y => mWp_weak (mLe_n (mLe_n (mLe_n (mLe_n (mLe_n (mLe_n (mLe_n mLe_0))))))) y))
theorem b96_76 {h : mH} {Q : Option Value → mH → Prop} {w0 : Int64}  (k : Q (some (.long w0)) h) : mWp mCd 96 (76, [none, none, none, none, none, none, none], [.long w0], h, 0, 0) Q := by
  exact mWp_r (v := (some (.long w0))) rfl k
theorem b97_0 {h : mH} {Q : Option Value → mH → Prop} {x1 : Int32} {x2 : Int32} {vc : Int32} (e1 : h[5]? = some (oJ vc)) (k : mCt mCd 114 [.ref 5, .int x1] h (fun rv hv => mWp mCd 97 (5, [none, none, some (.int x2), none, none, none], rv.toList ++ [], hv, 0, 0) Q)) : mWp mCd 97 (0, [some (.ref 5), some (.int x1), some (.int x2), none, none, none], [], h, 0, 0) Q := by
  refine mWp_run 2 (t' := (2, [some (.ref 5), some (.int x1), some (.int x2), none, none, none], [.int x1, .ref 5], h, 0, 0)) rfl ?_
  exact mWp_iv rfl rfl e1 rfl rfl rfl rfl (mCt_mono k (fun rv hv y => mWp_weak (mLe_n (mLe_n (mLe_s (mLe_n (mLe_n (mLe_n mLe_0)))))) y))
theorem b97_5 {h : mH} {Q : Option Value → mH → Prop} {x2 : Int32}  (k : Q (some (.long (lZ (-4611686018427387904)))) h) : mWp mCd 97 (5, [none, none, some (.int x2), none, none, none], [.null], h, 0, 0) Q := by
  refine mWp_run 4 (t' := (21, [none, none, some (.int x2), some (.null), none, none], [.long (lZ (-4611686018427387904))], h, 0, 0)) rfl ?_
  exact mWp_r (v := (some (.long (lZ (-4611686018427387904))))) rfl k
theorem b97_5_1 {h : mH} {Q : Option Value → mH → Prop} {x2 : Int32} {q0 : Nat} {ci : Nat} {num : Int32} {n : Int32} {fd : Int32} (hc : [1, 2, 4, 6, 8].contains ci = true) (e2 : h[q0]? = some (oV ci q0 num n fd)) (k1 : ¬ n = (iZ 1) → mWp mCd 97 (22, [none, none, some (.int x2), some (.ref q0), none, none], [], h, 0, 0) Q) (k2 : ¬ (¬ n = (iZ 1)) → mWp mCd 97 (18, [none, none, none, none, none, none], [], h, 0, 0) Q) : mWp mCd 97 (5, [none, none, some (.int x2), none, none, none], [.ref q0], h, 0, 0) Q := by
  refine mWp_run 4 (t' := (11, [none, none, some (.int x2), some (.ref q0), none, none], [.ref q0], h, 0, 0)) rfl ?_
  refine mWp_gf rfl e2 hc rfl ?_
  refine mWp_run 1 (t' := (15, [none, none, some (.int x2), some (.ref q0), none, none], [.int (iZ 1), .int n], h, 0, 0)) rfl ?_
  exact mWp_ic (P := fun x y => ¬ x = y) (a := n) (b := iZ 1) rfl k1 (fun q => mWp_weak (mLe_n (mLe_n (mLe_n (mLe_n (mLe_n (mLe_n mLe_0)))))) (k2 q))
theorem b97_22 {h : mH} {Q : Option Value → mH → Prop} {x2 : Int32} {r3 : Nat} {ci : Nat} {num : Int32} {n : Int32} {fd : Int32} (hc : [1, 2, 4, 6, 8].contains ci = true) (e2 : h[r3]? = some (oV ci r3 num n fd)) (k : mCt mCd 67 [.ref r3] h (fun rv hv => mWp mCd 97 (26, [none, none, some (.int x2), some (.ref r3), none, none], rv.toList ++ [], hv, 0, 0) Q)) : mWp mCd 97 (22, [none, none, some (.int x2), some (.ref r3), none, none], [], h, 0, 0) Q := by
  refine mWp_run 1 (t' := (23, [none, none, some (.int x2), some (.ref r3), none, none], [.ref r3], h, 0, 0)) rfl ?_
  exact mWp_iv rfl rfl e2 (mS5 hc) rfl rfl rfl k
theorem b97_18 {h : mH} {Q : Option Value → mH → Prop}   (k : Q (some (.long (lZ (-4611686018427387904)))) h) : mWp mCd 97 (18, [none, none, none, none, none, none], [], h, 0, 0) Q := by
  refine mWp_run 1 (t' := (21, [none, none, none, none, none, none], [.long (lZ (-4611686018427387904))], h, 0, 0)) rfl ?_
  exact mWp_r (v := (some (.long (lZ (-4611686018427387904))))) rfl k
theorem b97_26 {h : mH} {Q : Option Value → mH → Prop} {x2 : Int32} {r3 : Nat} {w0 : Int64} {ci : Nat} {num : Int32} {n : Int32} {fd : Int32} (hc : [1, 2, 4, 6, 8].contains ci = true) (e2 : h[r3]? = some (oV ci r3 num n fd)) (k : mCt mCd 68 [.ref r3, .long w0] h (fun rv hv => mWp mCd 97 (34, [none, none, some (.int x2), none, some (.long w0), none], rv.toList ++ [], hv, 0, 0) Q)) : mWp mCd 97 (26, [none, none, some (.int x2), some (.ref r3), none, none], [.long w0], h, 0, 0) Q := by
  refine mWp_run 3 (t' := (31, [none, none, some (.int x2), some (.ref r3), some (.long w0), none], [.long w0, .ref r3], h, 0, 0)) rfl ?_
  exact mWp_iv rfl rfl e2 (mS5 hc) rfl rfl rfl (mCt_mono k (fun rv hv y => mWp_weak (mLe_n (mLe_n (mLe_s (mLe_n (mLe_s (mLe_n mLe_0)))))) y))
theorem b97_34 {h : mH} {Q : Option Value → mH → Prop} {x2 : Int32} {y4 : Int64} {u0 : Int32}  (k : mCt mCd 133 [.long y4] h (fun rv hv => mWp mCd 97 (40, [none, none, some (.int x2), none, none, none], rv.toList ++ [.long (Int32.toInt64 u0)], hv, 0, 0) Q)) : mWp mCd 97 (34, [none, none, some (.int x2), none, some (.long y4), none], [.int u0], h, 0, 0) Q := by
  refine mWp_run 2 (t' := (37, [none, none, some (.int x2), none, some (.long y4), none], [.long y4, .long (Int32.toInt64 u0)], h, 0, 0)) rfl ?_
  exact mWp_is rfl rfl rfl rfl rfl (mCt_mono k (fun rv hv y => mWp_weak (mLe_n (mLe_n (mLe_s (mLe_n (mLe_n (mLe_n mLe_0)))))) y))
theorem b97_40 {h : mH} {Q : Option Value → mH → Prop} {x2 : Int32} {u0 : Int32} {w1 : Int64}  (k : mCt mCd 134 [.long w1, .long (Int32.toInt64 u0), .int x2] h (fun rv hv => mWp mCd 97 (45, [none, none, none, none, none, none], rv.toList ++ [], hv, 0, 0) Q)) : mWp mCd 97 (40, [none, none, some (.int x2), none, none, none], [.int u0, .long w1], h, 0, 0) Q := by
  refine mWp_run 2 (t' := (42, [none, none, some (.int x2), none, none, none], [.int x2, .long (Int32.toInt64 u0), .long w1], h, 0, 0)) rfl ?_
  exact mWp_is rfl rfl rfl rfl rfl (mCt_mono k (fun rv hv y => mWp_weak (mLe_n (mLe_n (mLe_n (mLe_n (mLe_n (mLe_n mLe_0)))))) y))
theorem b97_45 {h : mH} {Q : Option Value → mH → Prop} {w0 : Int64}  (k : Q (some (.long w0)) h) : mWp mCd 97 (45, [none, none, none, none, none, none], [.long w0], h, 0, 0) Q := by
  exact mWp_r (v := (some (.long w0))) rfl k
theorem b98_0 {h : mH} {Q : Option Value → mH → Prop} {x1 : Int32} {x2 : Int32} {x3 : Int32} {vc : Int32} (e1 : h[5]? = some (oJ vc)) (k : mCt mCd 114 [.ref 5, .int x1] h (fun rv hv => mWp mCd 98 (5, [none, none, some (.int x2), some (.int x3), none], rv.toList ++ [], hv, 0, 0) Q)) : mWp mCd 98 (0, [some (.ref 5), some (.int x1), some (.int x2), some (.int x3), none], [], h, 0, 0) Q := by
  refine mWp_run 2 (t' := (2, [some (.ref 5), some (.int x1), some (.int x2), some (.int x3), none], [.int x1, .ref 5], h, 0, 0)) rfl ?_
  exact mWp_iv rfl rfl e1 rfl rfl rfl rfl (mCt_mono k (fun rv hv y => mWp_weak (mLe_n (mLe_n (mLe_s (mLe_s (mLe_n mLe_0))))) y))
theorem b98_5 {h : mH} {Q : Option Value → mH → Prop} {x2 : Int32} {x3 : Int32}  (k : Q (some (.long (lZ (-4611686018427387904)))) h) : mWp mCd 98 (5, [none, none, some (.int x2), some (.int x3), none], [.null], h, 0, 0) Q := by
  refine mWp_run 4 (t' := (24, [none, none, some (.int x2), some (.int x3), some (.null)], [.long (lZ (-4611686018427387904))], h, 0, 0)) rfl ?_
  exact mWp_r (v := (some (.long (lZ (-4611686018427387904))))) rfl k
theorem b98_5_1 {h : mH} {Q : Option Value → mH → Prop} {x2 : Int32} {x3 : Int32} {q0 : Nat} {ci : Nat} {num : Int32} {n : Int32} {fd : Int32} (hc : [1, 2, 4, 6, 8].contains ci = true) (e2 : h[q0]? = some (oV ci q0 num n fd)) (k : mCt mCd 45 [.ref q0, .int x2] h (fun rv hv => mWp mCd 98 (18, [none, none, some (.int x2), some (.int x3), some (.ref q0)], rv.toList ++ [], hv, 0, 0) Q)) : mWp mCd 98 (5, [none, none, some (.int x2), some (.int x3), none], [.ref q0], h, 0, 0) Q := by
  refine mWp_run 5 (t' := (15, [none, none, some (.int x2), some (.int x3), some (.ref q0)], [.int x2, .ref q0], h, 0, 0)) rfl ?_
  exact mWp_iv rfl rfl e2 (mS5 hc) rfl rfl rfl k
theorem b98_18 {h : mH} {Q : Option Value → mH → Prop} {x2 : Int32} {x3 : Int32} {r4 : Nat} {u0 : Int32}  (k1 : ¬ u0 = 0 → mWp mCd 98 (25, [none, none, some (.int x2), some (.int x3), some (.ref r4)], [], h, 0, 0) Q) (k2 : ¬ (¬ u0 = 0) → mWp mCd 98 (21, [none, none, none, none, none], [], h, 0, 0) Q) : mWp mCd 98 (18, [none, none, some (.int x2), some (.int x3), some (.ref r4)], [.int u0], h, 0, 0) Q := by
  exact mWp_if (P := fun x => ¬ x = 0) (a := u0) rfl k1 (fun q => mWp_weak (mLe_n (mLe_n (mLe_n (mLe_n (mLe_n mLe_0))))) (k2 q))
theorem b98_25 {h : mH} {Q : Option Value → mH → Prop} {x2 : Int32} {x3 : Int32} {r4 : Nat} {ci : Nat} {num : Int32} {n : Int32} {fd : Int32} (hc : [1, 2, 4, 6, 8].contains ci = true) (e2 : h[r4]? = some (oV ci r4 num n fd)) (k : mCt mCd 67 [.ref r4] h (fun rv hv => mWp mCd 98 (30, [none, none, some (.int x2), some (.int x3), none], rv.toList ++ [], hv, 0, 0) Q)) : mWp mCd 98 (25, [none, none, some (.int x2), some (.int x3), some (.ref r4)], [], h, 0, 0) Q := by
  refine mWp_run 1 (t' := (27, [none, none, some (.int x2), some (.int x3), some (.ref r4)], [.ref r4], h, 0, 0)) rfl ?_
  exact mWp_iv rfl rfl e2 (mS5 hc) rfl rfl rfl (mCt_mono k (fun rv hv y => mWp_weak (mLe_n (mLe_n (mLe_s (mLe_s (mLe_n mLe_0))))) y))
theorem b98_21 {h : mH} {Q : Option Value → mH → Prop}   (k : Q (some (.long (lZ (-4611686018427387904)))) h) : mWp mCd 98 (21, [none, none, none, none, none], [], h, 0, 0) Q := by
  refine mWp_run 1 (t' := (24, [none, none, none, none, none], [.long (lZ (-4611686018427387904))], h, 0, 0)) rfl ?_
  exact mWp_r (v := (some (.long (lZ (-4611686018427387904))))) rfl k
theorem b98_30 {h : mH} {Q : Option Value → mH → Prop} {x2 : Int32} {x3 : Int32} {w0 : Int64}  (k : mCt mCd 132 [.long w0, .int x2] h (fun rv hv => mWp mCd 98 (34, [none, none, none, some (.int x3), none], rv.toList ++ [], hv, 0, 0) Q)) : mWp mCd 98 (30, [none, none, some (.int x2), some (.int x3), none], [.long w0], h, 0, 0) Q := by
  refine mWp_run 1 (t' := (31, [none, none, some (.int x2), some (.int x3), none], [.int x2, .long w0], h, 0, 0)) rfl ?_
  exact mWp_is rfl rfl rfl rfl rfl (mCt_mono k (fun rv hv y => mWp_weak (mLe_n (mLe_n (mLe_n (mLe_s (mLe_n mLe_0))))) y))
theorem b98_34 {h : mH} {Q : Option Value → mH → Prop} {x3 : Int32} {u0 : Int32}  (k : mCt mCd 134 [.long (Int32.toInt64 u0), .long (lZ 6), .int x3] h (fun rv hv => mWp mCd 98 (42, [none, none, none, none, none], rv.toList ++ [], hv, 0, 0) Q)) : mWp mCd 98 (34, [none, none, none, some (.int x3), none], [.int u0], h, 0, 0) Q := by
  refine mWp_run 3 (t' := (39, [none, none, none, some (.int x3), none], [.int x3, .long (lZ 6), .long (Int32.toInt64 u0)], h, 0, 0)) rfl ?_
  exact mWp_is rfl rfl rfl rfl rfl (mCt_mono k (fun rv hv y => mWp_weak (mLe_n (mLe_n (mLe_n (mLe_n (mLe_n mLe_0))))) y))
theorem b98_42 {h : mH} {Q : Option Value → mH → Prop} {w0 : Int64}  (k : Q (some (.long w0)) h) : mWp mCd 98 (42, [none, none, none, none, none], [.long w0], h, 0, 0) Q := by
  exact mWp_r (v := (some (.long w0))) rfl k
theorem b99_0 {h : mH} {Q : Option Value → mH → Prop} {x1 : Int32} {vc : Int32} (e1 : h[5]? = some (oJ vc)) (k : mCt mCd 114 [.ref 5, .int x1] h (fun rv hv => mWp mCd 99 (5, [none, none, none], rv.toList ++ [], hv, 0, 0) Q)) : mWp mCd 99 (0, [some (.ref 5), some (.int x1), none], [], h, 0, 0) Q := by
  refine mWp_run 2 (t' := (2, [some (.ref 5), some (.int x1), none], [.int x1, .ref 5], h, 0, 0)) rfl ?_
  exact mWp_iv rfl rfl e1 rfl rfl rfl rfl (mCt_mono k (fun rv hv y => mWp_weak (mLe_n (mLe_n (mLe_n mLe_0))) y))
