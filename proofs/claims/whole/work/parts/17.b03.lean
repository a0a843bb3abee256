theorem b99_5 {h : mH} {Q : Option Value → mH → Prop}   (k : Q (some (.int (iZ (-2)))) h) : mWp mCd 99 (5, [none, none, none], [.null], h, 0, 0) Q := by
  refine mWp_run 5 (t' := (19, [none, none, some (.null)], [.int (iZ (-2))], h, 0, 0)) rfl ?_
  exact mWp_r (v := (some (.int (iZ (-2))))) rfl k
theorem b99_5_1 {h : mH} {Q : Option Value → mH → Prop} {q0 : Nat} {ci : Nat} {num : Int32} {n : Int32} {fd : Int32} (hc : [1, 2, 4, 6, 8].contains ci = true) (e2 : h[q0]? = some (oV ci q0 num n fd)) (k : mCt mCd 55 [.ref q0] h (fun rv hv => mWp mCd 99 (19, [none, none, none], rv.toList ++ [], hv, 0, 0) Q)) : mWp mCd 99 (5, [none, none, none], [.ref q0], h, 0, 0) Q := by
  refine mWp_run 4 (t' := (16, [none, none, some (.ref q0)], [.ref q0], h, 0, 0)) rfl ?_
  exact mWp_iv rfl rfl e2 (mS5 hc) rfl rfl rfl (mCt_mono k (fun rv hv y => mWp_weak (mLe_n (mLe_n (mLe_n mLe_0))) y))
theorem b99_19 {h : mH} {Q : Option Value → mH → Prop} {u0 : Int32}  (k : Q (some (.int u0)) h) : mWp mCd 99 (19, [none, none, none], [.int u0], h, 0, 0) Q := by
  exact mWp_r (v := (some (.int u0))) rfl k
theorem b100_0 {h : mH} {Q : Option Value → mH → Prop} {x1 : Int32} {x2 : Int32} {x3 : Int32} {vc : Int32} (e1 : h[5]? = some (oJ vc)) (k : mCt mCd 114 [.ref 5, .int x1] h (fun rv hv => mWp mCd 100 (5, [none, none, some (.int x2), some (.int x3), none], rv.toList ++ [], hv, 0, 0) Q)) : mWp mCd 100 (0, [some (.ref 5), some (.int x1), some (.int x2), some (.int x3), none], [], h, 0, 0) Q := by
  refine mWp_run 2 (t' := (2, [some (.ref 5), some (.int x1), some (.int x2), some (.int x3), none], [.int x1, .ref 5], h, 0, 0)) rfl ?_
  exact mWp_iv rfl rfl e1 rfl rfl rfl rfl (mCt_mono k (fun rv hv y => mWp_weak (mLe_n (mLe_n (mLe_s (mLe_s (mLe_n mLe_0))))) y))
theorem b100_5 {h : mH} {Q : Option Value → mH → Prop} {x2 : Int32} {x3 : Int32}  (k : Q (some (.int (iZ (-2)))) h) : mWp mCd 100 (5, [none, none, some (.int x2), some (.int x3), none], [.null], h, 0, 0) Q := by
  refine mWp_run 4 (t' := (37, [none, none, some (.int x2), some (.int x3), some (.null)], [.int (iZ (-2))], h, 0, 0)) rfl ?_
  exact mWp_r (v := (some (.int (iZ (-2))))) rfl k
theorem b100_5_1 {h : mH} {Q : Option Value → mH → Prop} {x2 : Int32} {x3 : Int32} {q0 : Nat} {ci : Nat} {num : Int32} {n : Int32} {fd : Int32} (hc : [1, 2, 4, 6, 8].contains ci = true) (e2 : h[q0]? = some (oV ci q0 num n fd)) (k : mCt mCd 43 [.ref q0, .int x2] h (fun rv hv => mWp mCd 100 (18, [none, none, some (.int x2), some (.int x3), some (.ref q0)], rv.toList ++ [], hv, 0, 0) Q)) : mWp mCd 100 (5, [none, none, some (.int x2), some (.int x3), none], [.ref q0], h, 0, 0) Q := by
  refine mWp_run 5 (t' := (15, [none, none, some (.int x2), some (.int x3), some (.ref q0)], [.int x2, .ref q0], h, 0, 0)) rfl ?_
  exact mWp_iv rfl rfl e2 (mS5 hc) rfl rfl rfl k
theorem b100_18 {h : mH} {Q : Option Value → mH → Prop} {x2 : Int32} {x3 : Int32} {r4 : Nat} {u0 : Int32}  (k1 : u0 = 0 → mWp mCd 100 (35, [none, none, none, none, none], [], h, 0, 0) Q) (k2 : ¬ (u0 = 0) → mWp mCd 100 (21, [none, none, some (.int x2), some (.int x3), some (.ref r4)], [], h, 0, 0) Q) : mWp mCd 100 (18, [none, none, some (.int x2), some (.int x3), some (.ref r4)], [.int u0], h, 0, 0) Q := by
  exact mWp_if (P := fun x => x = 0) (a := u0) rfl (fun q => mWp_weak (mLe_n (mLe_n (mLe_n (mLe_n (mLe_n mLe_0))))) (k1 q)) k2
theorem b100_35 {h : mH} {Q : Option Value → mH → Prop}   (k : Q (some (.int (iZ (-2)))) h) : mWp mCd 100 (35, [none, none, none, none, none], [], h, 0, 0) Q := by
  refine mWp_run 1 (t' := (37, [none, none, none, none, none], [.int (iZ (-2))], h, 0, 0)) rfl ?_
  exact mWp_r (v := (some (.int (iZ (-2))))) rfl k
theorem b100_21 {h : mH} {Q : Option Value → mH → Prop} {x2 : Int32} {x3 : Int32} {r4 : Nat} {ci : Nat} {num : Int32} {n : Int32} {fd : Int32} (hc : [1, 2, 4, 6, 8].contains ci = true) (e2 : h[r4]? = some (oV ci r4 num n fd)) (k : mCt mCd 43 [.ref r4, .int x3] h (fun rv hv => mWp mCd 100 (27, [none, none, some (.int x2), some (.int x3), some (.ref r4)], rv.toList ++ [], hv, 0, 0) Q)) : mWp mCd 100 (21, [none, none, some (.int x2), some (.int x3), some (.ref r4)], [], h, 0, 0) Q := by
  refine mWp_run 2 (t' := (24, [none, none, some (.int x2), some (.int x3), some (.ref r4)], [.int x3, .ref r4], h, 0, 0)) rfl ?_
  exact mWp_iv rfl rfl e2 (mS5 hc) rfl rfl rfl k
theorem b100_27 {h : mH} {Q : Option Value → mH → Prop} {x2 : Int32} {x3 : Int32} {r4 : Nat} {u0 : Int32}  (k1 : u0 = 0 → mWp mCd 100 (35, [none, none, none, none, none], [], h, 0, 0) Q) (k2 : ¬ (u0 = 0) → mWp mCd 100 (30, [none, none, some (.int x2), some (.int x3), some (.ref r4)], [], h, 0, 0) Q) : mWp mCd 100 (27, [none, none, some (.int x2), some (.int x3), some (.ref r4)], [.int u0], h, 0, 0) Q := by
  exact mWp_if (P := fun x => x = 0) (a := u0) rfl (fun q => mWp_weak (mLe_n (mLe_n (mLe_n (mLe_n (mLe_n mLe_0))))) (k1 q)) k2
theorem b100_30 {h : mH} {Q : Option Value → mH → Prop} {x2 : Int32} {x3 : Int32} {r4 : Nat}  (k1 : ¬ x2 = x3 → mWp mCd 100 (38, [none, none, some (.int x2), some (.int x3), some (.ref r4)], [], h, 0, 0) Q) (k2 : ¬ (¬ x2 = x3) → mWp mCd 100 (35, [none, none, none, none, none], [], h, 0, 0) Q) : mWp mCd 100 (30, [none, none, some (.int x2), some (.int x3), some (.ref r4)], [], h, 0, 0) Q := by
  refine mWp_run 2 (t' := (32, [none, none, some (.int x2), some (.int x3), some (.ref r4)], [.int x3, .int x2], h, 0, 0)) rfl ?_
  exact mWp_ic (P := fun x y => ¬ x = y) (a := x2) (b := x3) rfl k1 (fun q => mWp_weak (mLe_n (mLe_n (mLe_n (mLe_n (mLe_n mLe_0))))) (k2 q))
theorem b100_38 {h : mH} {Q : Option Value → mH → Prop} {x2 : Int32} {x3 : Int32} {r4 : Nat} {ci : Nat} {num : Int32} {n : Int32} {fd : Int32} (hc : [1, 2, 4, 6, 8].contains ci = true) (e2 : h[r4]? = some (oV ci r4 num n fd)) (k : mCt mCd 53 [.ref r4, .int x2, .int x3] h (fun rv hv => mWp mCd 100 (45, [none, none, none, none, none], rv.toList ++ [], hv, 0, 0) Q)) : mWp mCd 100 (38, [none, none, some (.int x2), some (.int x3), some (.ref r4)], [], h, 0, 0) Q := by
  refine mWp_run 3 (t' := (42, [none, none, some (.int x2), some (.int x3), some (.ref r4)], [.int x3, .int x2, .ref r4], h, 0, 0)) rfl ?_
  exact mWp_iv rfl rfl e2 (mS5 hc) rfl rfl rfl (mCt_mono k (fun rv hv y => mWp_weak (mLe_n (mLe_n (mLe_n (mLe_n (mLe_n mLe_0))))) y))
theorem b100_45 {h : mH} {Q : Option Value → mH → Prop} {u0 : Int32}  (k1 : u0 = 0 → mWp mCd 100 (52, [none, none, none, none, none], [], h, 0, 0) Q) (k2 : ¬ (u0 = 0) → mWp mCd 100 (48, [none, none, none, none, none], [], h, 0, 0) Q) : mWp mCd 100 (45, [none, none, none, none, none], [.int u0], h, 0, 0) Q := by
  exact mWp_if (P := fun x => x = 0) (a := u0) rfl k1 k2
theorem b100_52 {h : mH} {Q : Option Value → mH → Prop}   (k : Q (some (.int (iZ 0))) h) : mWp mCd 100 (52, [none, none, none, none, none], [], h, 0, 0) Q := by
  refine mWp_run 1 (t' := (53, [none, none, none, none, none], [.int (iZ 0)], h, 0, 0)) rfl ?_
  exact mWp_r (v := (some (.int (iZ 0)))) rfl k
theorem b100_48 {h : mH} {Q : Option Value → mH → Prop}   (k : Q (some (.int (iZ 1))) h) : mWp mCd 100 (48, [none, none, none, none, none], [], h, 0, 0) Q := by
  refine mWp_run 2 (t' := (53, [none, none, none, none, none], [.int (iZ 1)], h, 0, 0)) rfl ?_
  exact mWp_r (v := (some (.int (iZ 1)))) rfl k
theorem b101_0 {h : mH} {Q : Option Value → mH → Prop} {x1 : Int32} {x2 : Int32} {x3 : Int32} {vc : Int32} (e1 : h[5]? = some (oJ vc)) (k : mCt mCd 114 [.ref 5, .int x1] h (fun rv hv => mWp mCd 101 (5, [none, none, some (.int x2), some (.int x3), none], rv.toList ++ [], hv, 0, 0) Q)) : mWp mCd 101 (0, [some (.ref 5), some (.int x1), some (.int x2), some (.int x3), none], [], h, 0, 0) Q := by
  refine mWp_run 2 (t' := (2, [some (.ref 5), some (.int x1), some (.int x2), some (.int x3), none], [.int x1, .ref 5], h, 0, 0)) rfl ?_
  exact mWp_iv rfl rfl e1 rfl rfl rfl rfl (mCt_mono k (fun rv hv y => mWp_weak (mLe_n (mLe_n (mLe_s (mLe_s (mLe_n mLe_0))))) y))
theorem b101_5 {h : mH} {Q : Option Value → mH → Prop} {x2 : Int32} {x3 : Int32}  (k : Q (some (.int (iZ (-2)))) h) : mWp mCd 101 (5, [none, none, some (.int x2), some (.int x3), none], [.null], h, 0, 0) Q := by
  refine mWp_run 4 (t' := (30, [none, none, some (.int x2), some (.int x3), some (.null)], [.int (iZ (-2))], h, 0, 0)) rfl ?_
  exact mWp_r (v := (some (.int (iZ (-2))))) rfl k
theorem b101_5_1 {h : mH} {Q : Option Value → mH → Prop} {x2 : Int32} {x3 : Int32} {q0 : Nat} {ci : Nat} {num : Int32} {n : Int32} {fd : Int32} (hc : [1, 2, 4, 6, 8].contains ci = true) (e2 : h[q0]? = some (oV ci q0 num n fd)) (k : mCt mCd 43 [.ref q0, .int x2] h (fun rv hv => mWp mCd 101 (18, [none, none, some (.int x2), some (.int x3), some (.ref q0)], rv.toList ++ [], hv, 0, 0) Q)) : mWp mCd 101 (5, [none, none, some (.int x2), some (.int x3), none], [.ref q0], h, 0, 0) Q := by
  refine mWp_run 5 (t' := (15, [none, none, some (.int x2), some (.int x3), some (.ref q0)], [.int x2, .ref q0], h, 0, 0)) rfl ?_
  exact mWp_iv rfl rfl e2 (mS5 hc) rfl rfl rfl k
theorem b101_18 {h : mH} {Q : Option Value → mH → Prop} {x2 : Int32} {x3 : Int32} {r4 : Nat} {u0 : Int32}  (k1 : u0 = 0 → mWp mCd 101 (28, [none, none, none, none, none], [], h, 0, 0) Q) (k2 : ¬ (u0 = 0) → mWp mCd 101 (21, [none, none, some (.int x2), some (.int x3), some (.ref r4)], [], h, 0, 0) Q) : mWp mCd 101 (18, [none, none, some (.int x2), some (.int x3), some (.ref r4)], [.int u0], h, 0, 0) Q := by
  exact mWp_if (P := fun x => x = 0) (a := u0) rfl (fun q => mWp_weak (mLe_n (mLe_n (mLe_n (mLe_n (mLe_n mLe_0))))) (k1 q)) k2
theorem b101_28 {h : mH} {Q : Option Value → mH → Prop}   (k : Q (some (.int (iZ (-2)))) h) : mWp mCd 101 (28, [none, none, none, none, none], [], h, 0, 0) Q := by
  refine mWp_run 1 (t' := (30, [none, none, none, none, none], [.int (iZ (-2))], h, 0, 0)) rfl ?_
  exact mWp_r (v := (some (.int (iZ (-2))))) rfl k
theorem b101_21 {h : mH} {Q : Option Value → mH → Prop} {x2 : Int32} {x3 : Int32} {r4 : Nat}  (k : mCt mCd 122 [.int x3] h (fun rv hv => mWp mCd 101 (25, [none, none, some (.int x2), some (.int x3), some (.ref r4)], rv.toList ++ [], hv, 0, 0) Q)) : mWp mCd 101 (21, [none, none, some (.int x2), some (.int x3), some (.ref r4)], [], h, 0, 0) Q := by
  refine mWp_run 1 (t' := (22, [none, none, some (.int x2), some (.int x3), some (.ref r4)], [.int x3], h, 0, 0)) rfl ?_
  exact mWp_is rfl rfl rfl rfl rfl k
theorem b101_25 {h : mH} {Q : Option Value → mH → Prop} {x2 : Int32} {x3 : Int32} {r4 : Nat} {u0 : Int32}  (k1 : ¬ u0 = 0 → mWp mCd 101 (31, [none, none, some (.int x2), some (.int x3), some (.ref r4)], [], h, 0, 0) Q) (k2 : ¬ (¬ u0 = 0) → mWp mCd 101 (28, [none, none, none, none, none], [], h, 0, 0) Q) : mWp mCd 101 (25, [none, none, some (.int x2), some (.int x3), some (.ref r4)], [.int u0], h, 0, 0) Q := by
  exact mWp_if (P := fun x => ¬ x = 0) (a := u0) rfl k1 (fun q => mWp_weak (mLe_n (mLe_n (mLe_n (mLe_n (mLe_n mLe_0))))) (k2 q))
theorem b101_31 {h : mH} {Q : Option Value → mH → Prop} {x2 : Int32} {x3 : Int32} {r4 : Nat} {ci : Nat} {num : Int32} {n : Int32} {fd : Int32} {k101 : Nat} (hc : [1, 2, 4, 6, 8].contains ci = true) (e2 : h[r4]? = some (oV ci r4 num n fd)) (e3 : mSel [(1, 15, 0, 0), (2, 18, 0, 0), (4, 31, 0, 0), (6, 38, 0, 0), (8, 75, 0, 0)] ci = some (k101, 0, 0)) (k : mCt mCd k101 [.ref r4] h (fun rv hv => mWp mCd 101 (36, [none, none, some (.int x2), some (.int x3), some (.ref r4)], rv.toList ++ [], hv, 0, 0) Q)) : mWp mCd 101 (31, [none, none, some (.int x2), some (.int x3), some (.ref r4)], [], h, 0, 0) Q := by
  refine mWp_run 1 (t' := (33, [none, none, some (.int x2), some (.int x3), some (.ref r4)], [.ref r4], h, 0, 0)) rfl ?_
  exact mWp_iv rfl rfl e2 e3 rfl rfl rfl k
theorem b101_36 {h : mH} {Q : Option Value → mH → Prop} {x2 : Int32} {x3 : Int32} {r4 : Nat} {u0 : Int32}  (k1 : u0 = (iZ 1) → mWp mCd 101 (45, [none, none, some (.int x2), some (.int x3), some (.ref r4)], [], h, 0, 0) Q) (k2 : ¬ (u0 = (iZ 1)) → mWp mCd 101 (40, [none, none, none, none, none], [], h, 0, 0) Q) : mWp mCd 101 (36, [none, none, some (.int x2), some (.int x3), some (.ref r4)], [.int u0], h, 0, 0) Q := by
  refine mWp_run 1 (t' := (37, [none, none, some (.int x2), some (.int x3), some (.ref r4)], [.int (iZ 1), .int u0], h, 0, 0)) rfl ?_
  exact mWp_ic (P := fun x y => x = y) (a := u0) (b := iZ 1) rfl k1 (fun q => mWp_weak (mLe_n (mLe_n (mLe_n (mLe_n (mLe_n mLe_0))))) (k2 q))
theorem b101_45 {h : mH} {Q : Option Value → mH → Prop} {x2 : Int32} {x3 : Int32} {r4 : Nat}  (k1 : ¬ x3 = (iZ 1) → mWp mCd 101 (57, [none, none, none, none, none], [.int x2, .ref r4], h, 0, 0) Q) (k2 : ¬ (¬ x3 = (iZ 1)) → mWp mCd 101 (53, [none, none, none, none, none], [.int x2, .ref r4], h, 0, 0) Q) : mWp mCd 101 (45, [none, none, some (.int x2), some (.int x3), some (.ref r4)], [], h, 0, 0) Q := by
  refine mWp_run 4 (t' := (50, [none, none, some (.int x2), some (.int x3), some (.ref r4)], [.int (iZ 1), .int x3, .int x2, .ref r4], h, 0, 0)) rfl ?_
  exact mWp_ic (P := fun x y => ¬ x = y) (a := x3) (b := iZ 1) rfl (fun q => mWp_weak (mLe_n (mLe_n (mLe_n (mLe_n (mLe_n mLe_0))))) (k1 q)) (fun q => mWp_weak (mLe_n (mLe_n (mLe_n (mLe_n (mLe_n mLe_0))))) (k2 q))
theorem b101_40 {h : mH} {Q : Option Value → mH → Prop}   (k : Q (some (.int (iZ (-3)))) h) : mWp mCd 101 (40, [none, none, none, none, none], [], h, 0, 0) Q := by
  refine mWp_run 2 (t' := (61, [none, none, none, none, none], [.int (iZ (-3))], h, 0, 0)) rfl ?_
  exact mWp_r (v := (some (.int (iZ (-3))))) rfl k
theorem b101_57 {h : mH} {Q : Option Value → mH → Prop} {u0 : Int32} {q1 : Nat}  (k : mWp mCd 101 (58, [none, none, none, none, none], [.int (iZ 0), .int u0, .ref q1], h, 0, 0) Q) : mWp mCd 101 (57, [none, none, none, none, none], [.int u0, .ref q1], h, 0, 0) Q := by
  refine mWp_run 1 (t' := (58, [none, none, none, none, none], [.int (iZ 0), .int u0, .ref q1], h, 0, 0)) rfl ?_
  exact k
theorem b101_53 {h : mH} {Q : Option Value → mH → Prop} {u0 : Int32} {q1 : Nat}  (k : mWp mCd 101 (58, [none, none, none, none, none], [.int (iZ 1), .int u0, .ref q1], h, 0, 0) Q) : mWp mCd 101 (53, [none, none, none, none, none], [.int u0, .ref q1], h, 0, 0) Q := by
  refine mWp_run 2 (t' := (58, [none, none, none, none, none], [.int (iZ 1), .int u0, .ref q1], h, 0, 0)) rfl ?_
  exact k
theorem b101_58 {h : mH} {Q : Option Value → mH → Prop} {u0 : Int32} {u1 : Int32} {q2 : Nat} {ci : Nat} {num : Int32} {n : Int32} {fd : Int32} (hc : [1, 2, 4, 6, 8].contains ci = true) (e2 : h[q2]? = some (oV ci q2 num n fd)) (k : mCt mCd 58 [.ref q2, .int u1, .int u0] h (fun rv hv => mWp mCd 101 (61, [none, none, none, none, none], rv.toList ++ [], hv, 0, 0) Q)) : mWp mCd 101 (58, [none, none, none, none, none], [.int u0, .int u1, .ref q2], h, 0, 0) Q := by
  exact mWp_iv rfl rfl e2 (mS5 hc) rfl rfl rfl k
theorem b101_61 {h : mH} {Q : Option Value → mH → Prop} {u0 : Int32}  (k : Q (some (.int u0)) h) : mWp mCd 101 (61, [none, none, none, none, none], [.int u0], h, 0, 0) Q := by
  exact mWp_r (v := (some (.int u0))) rfl k
theorem b102_0 {h : mH} {Q : Option Value → mH → Prop} {x1 : Int32} {vc : Int32} (e1 : h[5]? = some (oJ vc)) (k : mCt mCd 114 [.ref 5, .int x1] h (fun rv hv => mWp mCd 102 (5, [some (.ref 5), none, none], rv.toList ++ [], hv, 0, 0) Q)) : mWp mCd 102 (0, [some (.ref 5), some (.int x1), none], [], h, 0, 0) Q := by
  refine mWp_run 2 (t' := (2, [some (.ref 5), some (.int x1), none], [.int x1, .ref 5], h, 0, 0)) rfl ?_
  exact mWp_iv rfl rfl e1 rfl rfl rfl rfl (mCt_mono k (fun rv hv y => mWp_weak (mLe_s (mLe_n (mLe_n mLe_0))) y))
theorem b102_5 {h : mH} {Q : Option Value → mH → Prop}   (k : Q (some (.int (iZ (-2)))) h) : mWp mCd 102 (5, [some (.ref 5), none, none], [.null], h, 0, 0) Q := by
  refine mWp_run 4 (t' := (12, [some (.ref 5), none, some (.null)], [.int (iZ (-2))], h, 0, 0)) rfl ?_
  exact mWp_r (v := (some (.int (iZ (-2))))) rfl k
theorem b102_5_1 {h : mH} {Q : Option Value → mH → Prop} {q0 : Nat} {vc : Int32} {sz : Int32} (e1 : h[5]? = some (oJ vc)) (e2 : h[7]? = some (oP 7 sz)) (k : mCt mCd 22 [.ref 7, .ref q0] h (fun rv hv => mWp mCd 102 (21, [some (.ref 5), none, none], rv.toList ++ [], hv, 0, 0) Q)) : mWp mCd 102 (5, [some (.ref 5), none, none], [.ref q0], h, 0, 0) Q := by
  refine mWp_run 4 (t' := (14, [some (.ref 5), none, some (.ref q0)], [.ref 5], h, 0, 0)) rfl ?_
  refine mWp_gf rfl e1 rfl rfl ?_
  refine mWp_run 1 (t' := (18, [some (.ref 5), none, some (.ref q0)], [.ref q0, .ref 7], h, 0, 0)) rfl ?_
  exact mWp_iv rfl rfl e2 rfl rfl rfl rfl (mCt_mono k (fun rv hv y => mWp_weak (mLe_s (mLe_n (mLe_n mLe_0))) y))
theorem b102_21 {h : mH} {Q : Option Value → mH → Prop} {vc : Int32} {sz : Int32} (e1 : h[5]? = some (oJ vc)) (e2 : h[7]? = some (oP 7 sz)) (k : Q (some (.int sz)) h) : mWp mCd 102 (21, [some (.ref 5), none, none], [], h, 0, 0) Q := by
  refine mWp_run 1 (t' := (22, [some (.ref 5), none, none], [.ref 5], h, 0, 0)) rfl ?_
  refine mWp_gf rfl e1 rfl rfl ?_
  refine mWp_gf rfl e2 rfl rfl ?_
  exact mWp_r (v := (some (.int sz))) rfl k
theorem b103_0 {h : mH} {Q : Option Value → mH → Prop} {x1 : Int32} {vc : Int32} {sz : Int32} (e1 : h[5]? = some (oJ vc)) (e2 : h[7]? = some (oP 7 sz)) (k : mCt mCd 25 [.ref 7, .int x1] h (fun rv hv => mWp mCd 103 (8, [some (.ref 5), some (.int x1)], rv.toList ++ [], hv, 0, 0) Q)) : mWp mCd 103 (0, [some (.ref 5), some (.int x1)], [], h, 0, 0) Q := by
  refine mWp_run 1 (t' := (1, [some (.ref 5), some (.int x1)], [.ref 5], h, 0, 0)) rfl ?_
  refine mWp_gf rfl e1 rfl rfl ?_
  refine mWp_run 1 (t' := (5, [some (.ref 5), some (.int x1)], [.int x1, .ref 7], h, 0, 0)) rfl ?_
  exact mWp_iv rfl rfl e2 rfl rfl rfl rfl k
theorem b103_8 {h : mH} {Q : Option Value → mH → Prop} {x1 : Int32} {u0 : Int32}  (k1 : u0 = 0 → mWp mCd 103 (22, [none, none], [], h, 0, 0) Q) (k2 : ¬ (u0 = 0) → mWp mCd 103 (11, [some (.ref 5), some (.int x1)], [], h, 0, 0) Q) : mWp mCd 103 (8, [some (.ref 5), some (.int x1)], [.int u0], h, 0, 0) Q := by
  exact mWp_if (P := fun x => x = 0) (a := u0) rfl (fun q => mWp_weak (mLe_n (mLe_n mLe_0)) (k1 q)) k2
theorem b103_22 {h : mH} {Q : Option Value → mH → Prop}   (k : Q (some (.long (lZ (-4611686018427387904)))) h) : mWp mCd 103 (22, [none, none], [], h, 0, 0) Q := by
  refine mWp_run 1 (t' := (25, [none, none], [.long (lZ (-4611686018427387904))], h, 0, 0)) rfl ?_
  exact mWp_r (v := (some (.long (lZ (-4611686018427387904))))) rfl k
theorem b103_11 {h : mH} {Q : Option Value → mH → Prop} {x1 : Int32} {vc : Int32} {sz : Int32} (e1 : h[5]? = some (oJ vc)) (e2 : h[7]? = some (oP 7 sz)) (k : mCt mCd 26 [.ref 7, .int x1] h (fun rv hv => mWp mCd 103 (19, [none, none], rv.toList ++ [], hv, 0, 0) Q)) : mWp mCd 103 (11, [some (.ref 5), some (.int x1)], [], h, 0, 0) Q := by
  refine mWp_run 1 (t' := (12, [some (.ref 5), some (.int x1)], [.ref 5], h, 0, 0)) rfl ?_
  refine mWp_gf rfl e1 rfl rfl ?_
  refine mWp_run 1 (t' := (16, [some (.ref 5), some (.int x1)], [.int x1, .ref 7], h, 0, 0)) rfl ?_
  exact mWp_iv rfl rfl e2 rfl rfl rfl rfl (mCt_mono k (fun rv hv y => mWp_weak (mLe_n (mLe_n mLe_0)) y))
theorem b103_19 {h : mH} {Q : Option Value → mH → Prop} {w0 : Int64}  (k : Q (some (.long w0)) h) : mWp mCd 103 (19, [none, none], [.long w0], h, 0, 0) Q := by
  refine mWp_run 1 (t' := (25, [none, none], [.long w0], h, 0, 0)) rfl ?_
  exact mWp_r (v := (some (.long w0))) rfl k
theorem b104_0 {h : mH} {Q : Option Value → mH → Prop} {x1 : Int32} {y2 : Int64} {vc : Int32} {sz : Int32} (e1 : h[5]? = some (oJ vc)) (e2 : h[7]? = some (oP 7 sz)) (k : mCt mCd 25 [.ref 7, .int x1] h (fun rv hv => mWp mCd 104 (8, [some (.ref 5), some (.int x1), some (.long y2), none], rv.toList ++ [], hv, 0, 0) Q)) : mWp mCd 104 (0, [some (.ref 5), some (.int x1), some (.long y2), none], [], h, 0, 0) Q := by
  refine mWp_run 1 (t' := (1, [some (.ref 5), some (.int x1), some (.long y2), none], [.ref 5], h, 0, 0)) rfl ?_
  refine mWp_gf rfl e1 rfl rfl ?_
  refine mWp_run 1 (t' := (5, [some (.ref 5), some (.int x1), some (.long y2), none], [.int x1, .ref 7], h, 0, 0)) rfl ?_
  exact mWp_iv rfl rfl e2 rfl rfl rfl rfl k
theorem b104_8 {h : mH} {Q : Option Value → mH → Prop} {x1 : Int32} {y2 : Int64} {u0 : Int32}  (k1 : ¬ u0 = 0 → mWp mCd 104 (14, [some (.ref 5), some (.int x1), some (.long y2), none], [], h, 0, 0) Q) (k2 : ¬ (¬ u0 = 0) → mWp mCd 104 (11, [none, none, none, none], [], h, 0, 0) Q) : mWp mCd 104 (8, [some (.ref 5), some (.int x1), some (.long y2), none], [.int u0], h, 0, 0) Q := by
  exact mWp_if (P := fun x => ¬ x = 0) (a := u0) rfl k1 (fun q => mWp_weak (mLe_n (mLe_n (mLe_n (mLe_n mLe_0)))) (k2 q))
theorem b104_14 {h : mH} {Q : Option Value → mH → Prop} {x1 : Int32} {y2 : Int64} {vc : Int32} {sz : Int32} (e1 : h[5]? = some (oJ vc)) (e2 : h[7]? = some (oP 7 sz)) (k : mCt mCd 27 [.ref 7, .int x1, .long y2] h (fun rv hv => mWp mCd 104 (23, [none, none, none, none], rv.toList ++ [], hv, 0, 0) Q)) : mWp mCd 104 (14, [some (.ref 5), some (.int x1), some (.long y2), none], [], h, 0, 0) Q := by
  refine mWp_run 1 (t' := (15, [some (.ref 5), some (.int x1), some (.long y2), none], [.ref 5], h, 0, 0)) rfl ?_
  refine mWp_gf rfl e1 rfl rfl ?_
  refine mWp_run 2 (t' := (20, [some (.ref 5), some (.int x1), some (.long y2), none], [.long y2, .int x1, .ref 7], h, 0, 0)) rfl ?_
  exact mWp_iv rfl rfl e2 rfl rfl rfl rfl (mCt_mono k (fun rv hv y => mWp_weak (mLe_n (mLe_n (mLe_n (mLe_n mLe_0)))) y))
theorem b104_11 {h : mH} {Q : Option Value → mH → Prop}   (k : Q (some (.int (iZ (-2)))) h) : mWp mCd 104 (11, [none, none, none, none], [], h, 0, 0) Q := by
  refine mWp_run 1 (t' := (13, [none, none, none, none], [.int (iZ (-2))], h, 0, 0)) rfl ?_
  exact mWp_r (v := (some (.int (iZ (-2))))) rfl k
theorem b104_23 {h : mH} {Q : Option Value → mH → Prop}   (k : Q (some (.int (iZ 1))) h) : mWp mCd 104 (23, [none, none, none, none], [], h, 0, 0) Q := by
  refine mWp_run 1 (t' := (24, [none, none, none, none], [.int (iZ 1)], h, 0, 0)) rfl ?_
  exact mWp_r (v := (some (.int (iZ 1)))) rfl k
theorem b105_0 {h : mH} {Q : Option Value → mH → Prop} {x1 : Int32} {vc : Int32} (e1 : h[5]? = some (oJ vc)) (k : mCt mCd 114 [.ref 5, .int x1] h (fun rv hv => mWp mCd 105 (5, [some (.ref 5), none, none], rv.toList ++ [], hv, 0, 0) Q)) : mWp mCd 105 (0, [some (.ref 5), some (.int x1), none], [], h, 0, 0) Q := by
  refine mWp_run 2 (t' := (2, [some (.ref 5), some (.int x1), none], [.int x1, .ref 5], h, 0, 0)) rfl ?_
  exact mWp_iv rfl rfl e1 rfl rfl rfl rfl (mCt_mono k (fun rv hv y => mWp_weak (mLe_s (mLe_n (mLe_n mLe_0))) y))
theorem b105_5 {h : mH} {Q : Option Value → mH → Prop}   (k : Q (some (.int (iZ (-2)))) h) : mWp mCd 105 (5, [some (.ref 5), none, none], [.null], h, 0, 0) Q := by
  refine mWp_run 4 (t' := (12, [some (.ref 5), none, some (.null)], [.int (iZ (-2))], h, 0, 0)) rfl ?_
  exact mWp_r (v := (some (.int (iZ (-2))))) rfl k
theorem b105_5_1 {h : mH} {Q : Option Value → mH → Prop} {q0 : Nat} {vc : Int32} {sz : Int32} (e1 : h[5]? = some (oJ vc)) (e2 : h[9]? = some (oP 9 sz)) (k : mCt mCd 22 [.ref 9, .ref q0] h (fun rv hv => mWp mCd 105 (21, [some (.ref 5), none, none], rv.toList ++ [], hv, 0, 0) Q)) : mWp mCd 105 (5, [some (.ref 5), none, none], [.ref q0], h, 0, 0) Q := by
  refine mWp_run 4 (t' := (14, [some (.ref 5), none, some (.ref q0)], [.ref 5], h, 0, 0)) rfl ?_
  refine mWp_gf rfl e1 rfl rfl ?_
  refine mWp_run 1 (t' := (18, [some (.ref 5), none, some (.ref q0)], [.ref q0, .ref 9], h, 0, 0)) rfl ?_
  exact mWp_iv rfl rfl e2 rfl rfl rfl rfl (mCt_mono k (fun rv hv y => mWp_weak (mLe_s (mLe_n (mLe_n mLe_0))) y))
theorem b105_21 {h : mH} {Q : Option Value → mH → Prop} {vc : Int32} {sz : Int32} (e1 : h[5]? = some (oJ vc)) (e2 : h[7]? = some (oP 7 sz)) (k : mCt mCd 28 [.ref 7, .ref 9] h (fun rv hv => mWp mCd 105 (32, [none, none, none], rv.toList ++ [], hv, 0, 0) Q)) : mWp mCd 105 (21, [some (.ref 5), none, none], [], h, 0, 0) Q := by
  refine mWp_run 1 (t' := (22, [some (.ref 5), none, none], [.ref 5], h, 0, 0)) rfl ?_
  refine mWp_gf rfl e1 rfl rfl ?_
  refine mWp_run 1 (t' := (26, [some (.ref 5), none, none], [.ref 5, .ref 7], h, 0, 0)) rfl ?_
  refine mWp_gf rfl e1 rfl rfl ?_
  exact mWp_iv rfl rfl e2 rfl rfl rfl rfl (mCt_mono k (fun rv hv y => mWp_weak (mLe_n (mLe_n (mLe_n mLe_0))) y))
theorem b105_32 {h : mH} {Q : Option Value → mH → Prop} {u0 : Int32}  (k : Q (some (.int u0)) h) : mWp mCd 105 (32, [none, none, none], [.int u0], h, 0, 0) Q := by
  exact mWp_r (v := (some (.int u0))) rfl k
theorem b106_0 {h : mH} {Q : Option Value → mH → Prop} {x1 : Int32} {x2 : Int32} {x3 : Int32} {vc : Int32} {ran : Int32} (e1 : h[5]? = some (oJ vc)) (e2 : h[11]? = some (oT ran)) (k : mCt mCd 70 [.ref 11] h (fun rv hv => mWp mCd 106 (7, [some (.ref 5), some (.int x1), some (.int x2), some (.int x3), none], rv.toList ++ [], hv, 0, 0) Q)) : mWp mCd 106 (0, [some (.ref 5), some (.int x1), some (.int x2), some (.int x3), none], [], h, 0, 0) Q := by
  refine mWp_run 1 (t' := (1, [some (.ref 5), some (.int x1), some (.int x2), some (.int x3), none], [.ref 5], h, 0, 0)) rfl ?_
  refine mWp_gf rfl e1 rfl rfl ?_
  exact mWp_iv rfl rfl e2 rfl rfl rfl rfl k
theorem b106_7 {h : mH} {Q : Option Value → mH → Prop} {x1 : Int32} {x2 : Int32} {x3 : Int32} {vc : Int32} (e1 : h[5]? = some (oJ vc)) (k : mCt mCd 114 [.ref 5, .int x1] h (fun rv hv => mWp mCd 106 (12, [some (.ref 5), none, some (.int x2), some (.int x3), none], rv.toList ++ [], hv, 0, 0) Q)) : mWp mCd 106 (7, [some (.ref 5), some (.int x1), some (.int x2), some (.int x3), none], [], h, 0, 0) Q := by
  refine mWp_run 2 (t' := (9, [some (.ref 5), some (.int x1), some (.int x2), some (.int x3), none], [.int x1, .ref 5], h, 0, 0)) rfl ?_
  exact mWp_iv rfl rfl e1 rfl rfl rfl rfl (mCt_mono k (fun rv hv y => mWp_weak (mLe_s (mLe_n (mLe_s (mLe_s (mLe_n mLe_0))))) y))
theorem b106_12 {h : mH} {Q : Option Value → mH → Prop} {x2 : Int32} {x3 : Int32}  (k : Q (some (.int (iZ 0))) h) : mWp mCd 106 (12, [some (.ref 5), none, some (.int x2), some (.int x3), none], [.null], h, 0, 0) Q := by
  refine mWp_run 4 (t' := (20, [some (.ref 5), none, some (.int x2), some (.int x3), some (.null)], [.int (iZ 0)], h, 0, 0)) rfl ?_
  exact mWp_r (v := (some (.int (iZ 0)))) rfl k
theorem b106_12_1 {h : mH} {Q : Option Value → mH → Prop} {x2 : Int32} {x3 : Int32} {q0 : Nat}  (k1 : (x2.toInt < 0 ∨ 2 < x2.toInt) → mWp mCd 106 (81, [some (.ref 5), none, none, some (.int x3), some (.ref q0)], [], h, 0, 0) Q) (k2 : ¬ (x2.toInt < 0 ∨ 2 < x2.toInt) → ∃ t, ([48, 59, 70] : List Nat)[(x2.toInt - 0).toNat]? = some t ∧ mWp mCd 106 (t, [some (.ref 5), none, none, some (.int x3), some (.ref q0)], [], h, 0, 0) Q) : mWp mCd 106 (12, [some (.ref 5), none, some (.int x2), some (.int x3), none], [.ref q0], h, 0, 0) Q := by
  refine mWp_run 4 (t' := (22, [some (.ref 5), none, some (.int x2), some (.int x3), some (.ref q0)], [.int x2], h, 0, 0)) rfl ?_
  refine mWp_weak (L := [some (.ref 5), none, none, some (.int x3), some (.ref q0)]) (mLe_s (mLe_n (mLe_n (mLe_s (mLe_s mLe_0))))) ?_
  exact mWp_ts rfl k1 k2
theorem b106_81 {h : mH} {Q : Option Value → mH → Prop} {x3 : Int32} {r4 : Nat}  (k : Q (some (.int (iZ 0))) h) : mWp mCd 106 (81, [some (.ref 5), none, none, some (.int x3), some (.ref r4)], [], h, 0, 0) Q := by
  refine mWp_run 1 (t' := (82, [some (.ref 5), none, none, some (.int x3), some (.ref r4)], [.int (iZ 0)], h, 0, 0)) rfl ?_
  exact mWp_r (v := (some (.int (iZ 0)))) rfl k
theorem b106_48 {h : mH} {Q : Option Value → mH → Prop} {x3 : Int32} {r4 : Nat} {vc : Int32} {ci : Nat} {num : Int32} {n : Int32} {fd : Int32} {k101 : Nat} (e1 : h[5]? = some (oJ vc)) (hc : [1, 2, 4, 6, 8].contains ci = true) (e3 : h[r4]? = some (oV ci r4 num n fd)) (e4 : mSel [(1, 39, 0, 0), (2, 19, 0, 0), (4, 39, 0, 0), (6, 39, 0, 0), (8, 76, 0, 0)] ci = some (k101, 0, 0)) (k : mCt mCd k101 [.ref r4, .int x3, .ref 11] h (fun rv hv => mWp mCd 106 (58, [none, none, none, none, none], rv.toList ++ [], hv, 0, 0) Q)) : mWp mCd 106 (48, [some (.ref 5), none, none, some (.int x3), some (.ref r4)], [], h, 0, 0) Q := by
  refine mWp_run 3 (t' := (52, [some (.ref 5), none, none, some (.int x3), some (.ref r4)], [.ref 5, .int x3, .ref r4], h, 0, 0)) rfl ?_
  refine mWp_gf rfl e1 rfl rfl ?_
  exact mWp_iv rfl rfl e3 e4 rfl rfl rfl (mCt_mono k (fun rv hv y => mWp_weak (mLe_n (mLe_n (mLe_n (mLe_n (mLe_n mLe_0))))) y))
theorem b106_59 {h : mH} {Q : Option Value → mH → Prop} {x3 : Int32} {r4 : Nat} {vc : Int32} {ci : Nat} {num : Int32} {n : Int32} {fd : Int32} {k101 : Nat} (e1 : h[5]? = some (oJ vc)) (hc : [1, 2, 4, 6, 8].contains ci = true) (e3 : h[r4]? = some (oV ci r4 num n fd)) (e4 : mSel [(1, 40, 0, 0), (2, 20, 0, 0), (4, 32, 0, 0), (6, 40, 0, 0), (8, 40, 0, 0)] ci = some (k101, 0, 0)) (k : mCt mCd k101 [.ref r4, .int x3, .ref 11] h (fun rv hv => mWp mCd 106 (69, [none, none, none, none, none], rv.toList ++ [], hv, 0, 0) Q)) : mWp mCd 106 (59, [some (.ref 5), none, none, some (.int x3), some (.ref r4)], [], h, 0, 0) Q := by
  refine mWp_run 3 (t' := (63, [some (.ref 5), none, none, some (.int x3), some (.ref r4)], [.ref 5, .int x3, .ref r4], h, 0, 0)) rfl ?_
  refine mWp_gf rfl e1 rfl rfl ?_
  exact mWp_iv rfl rfl e3 e4 rfl rfl rfl (mCt_mono k (fun rv hv y => mWp_weak (mLe_n (mLe_n (mLe_n (mLe_n (mLe_n mLe_0))))) y))
theorem b106_70 {h : mH} {Q : Option Value → mH → Prop} {x3 : Int32} {r4 : Nat} {vc : Int32} {ci : Nat} {num : Int32} {n : Int32} {fd : Int32} {k101 : Nat} (e1 : h[5]? = some (oJ vc)) (hc : [1, 2, 4, 6, 8].contains ci = true) (e3 : h[r4]? = some (oV ci r4 num n fd)) (e4 : mSel [(1, 16, 0, 0), (2, 41, 0, 0), (4, 41, 0, 0), (6, 41, 0, 0), (8, 77, 0, 0)] ci = some (k101, 0, 0)) (k : mCt mCd k101 [.ref r4, .int x3, .ref 11] h (fun rv hv => mWp mCd 106 (80, [none, none, none, none, none], rv.toList ++ [], hv, 0, 0) Q)) : mWp mCd 106 (70, [some (.ref 5), none, none, some (.int x3), some (.ref r4)], [], h, 0, 0) Q := by
  refine mWp_run 3 (t' := (74, [some (.ref 5), none, none, some (.int x3), some (.ref r4)], [.ref 5, .int x3, .ref r4], h, 0, 0)) rfl ?_
  refine mWp_gf rfl e1 rfl rfl ?_
  exact mWp_iv rfl rfl e3 e4 rfl rfl rfl (mCt_mono k (fun rv hv y => mWp_weak (mLe_n (mLe_n (mLe_n (mLe_n (mLe_n mLe_0))))) y))
theorem b106_58 {h : mH} {Q : Option Value → mH → Prop} {u0 : Int32}  (k : Q (some (.int u0)) h) : mWp mCd 106 (58, [none, none, none, none, none], [.int u0], h, 0, 0) Q := by
  exact mWp_r (v := (some (.int u0))) rfl k
theorem b106_69 {h : mH} {Q : Option Value → mH → Prop} {u0 : Int32}  (k : Q (some (.int u0)) h) : mWp mCd 106 (69, [none, none, none, none, none], [.int u0], h, 0, 0) Q := by
  exact mWp_r (v := (some (.int u0))) rfl k
theorem b106_80 {h : mH} {Q : Option Value → mH → Prop} {u0 : Int32}  (k : Q (some (.int u0)) h) : mWp mCd 106 (80, [none, none, none, none, none], [.int u0], h, 0, 0) Q := by
  exact mWp_r (v := (some (.int u0))) rfl k
theorem b107_0 {h : mH} {Q : Option Value → mH → Prop} {x1 : Int32} {vc : Int32} {ran : Int32} (e1 : h[5]? = some (oJ vc)) (e2 : h[11]? = some (oT ran)) (k : mCt mCd 72 [.ref 11, .int x1] h (fun rv hv => mWp mCd 107 (8, [none, none], rv.toList ++ [], hv, 0, 0) Q)) : mWp mCd 107 (0, [some (.ref 5), some (.int x1)], [], h, 0, 0) Q := by
  refine mWp_run 1 (t' := (1, [some (.ref 5), some (.int x1)], [.ref 5], h, 0, 0)) rfl ?_
  refine mWp_gf rfl e1 rfl rfl ?_
  refine mWp_run 1 (t' := (5, [some (.ref 5), some (.int x1)], [.int x1, .ref 11], h, 0, 0)) rfl ?_
  exact mWp_iv rfl rfl e2 rfl rfl rfl rfl (mCt_mono k (fun rv hv y => mWp_weak (mLe_n (mLe_n mLe_0)) y))
theorem b107_8 {h : mH} {Q : Option Value → mH → Prop} {u0 : Int32}  (k : Q (some (.int u0)) h) : mWp mCd 107 (8, [none, none], [.int u0], h, 0, 0) Q := by
  exact mWp_r (v := (some (.int u0))) rfl k
theorem b108_0 {h : mH} {Q : Option Value → mH → Prop} {x1 : Int32}  (k1 : (x1.toInt < 0 ∨ 2 < x1.toInt) → mWp mCd 108 (49, [some (.ref 5), none], [], h, 0, 0) Q) (k2 : ¬ (x1.toInt < 0 ∨ 2 < x1.toInt) → ∃ t, ([28, 33, 41] : List Nat)[(x1.toInt - 0).toNat]? = some t ∧ mWp mCd 108 (t, [some (.ref 5), none], [], h, 0, 0) Q) : mWp mCd 108 (0, [some (.ref 5), some (.int x1)], [], h, 0, 0) Q := by
  refine mWp_run 1 (t' := (1, [some (.ref 5), some (.int x1)], [.int x1], h, 0, 0)) rfl ?_
  refine mWp_weak (L := [some (.ref 5), none]) (mLe_s (mLe_n mLe_0)) ?_
  exact mWp_ts rfl k1 k2
theorem b108_49 {h : mH} {Q : Option Value → mH → Prop}   (k : Q (some (.int (iZ (-2)))) h) : mWp mCd 108 (49, [some (.ref 5), none], [], h, 0, 0) Q := by
  refine mWp_run 1 (t' := (51, [some (.ref 5), none], [.int (iZ (-2))], h, 0, 0)) rfl ?_
  exact mWp_r (v := (some (.int (iZ (-2))))) rfl k
theorem b108_28 {h : mH} {Q : Option Value → mH → Prop} {vc : Int32} (e1 : h[5]? = some (oJ vc)) (k : Q (some (.int vc)) h) : mWp mCd 108 (28, [some (.ref 5), none], [], h, 0, 0) Q := by
  refine mWp_run 1 (t' := (29, [some (.ref 5), none], [.ref 5], h, 0, 0)) rfl ?_
  refine mWp_gf rfl e1 rfl rfl ?_
  exact mWp_r (v := (some (.int vc))) rfl k
theorem b108_33 {h : mH} {Q : Option Value → mH → Prop} {vc : Int32} {sz : Int32} (e1 : h[5]? = some (oJ vc)) (e2 : h[7]? = some (oP 7 sz)) (k : Q (some (.int sz)) h) : mWp mCd 108 (33, [some (.ref 5), none], [], h, 0, 0) Q := by
  refine mWp_run 1 (t' := (34, [some (.ref 5), none], [.ref 5], h, 0, 0)) rfl ?_
  refine mWp_gf rfl e1 rfl rfl ?_
  refine mWp_gf rfl e2 rfl rfl ?_
  exact mWp_r (v := (some (.int sz))) rfl k
theorem b108_41 {h : mH} {Q : Option Value → mH → Prop} {vc : Int32} {ran : Int32} (e1 : h[5]? = some (oJ vc)) (e2 : h[11]? = some (oT ran)) (k : Q (some (.int ran)) h) : mWp mCd 108 (41, [some (.ref 5), none], [], h, 0, 0) Q := by
  refine mWp_run 1 (t' := (42, [some (.ref 5), none], [.ref 5], h, 0, 0)) rfl ?_
  refine mWp_gf rfl e1 rfl rfl ?_
  refine mWp_gf rfl e2 rfl rfl ?_
  exact mWp_r (v := (some (.int ran))) rfl k
theorem b109_0 {h : mH} {Q : Option Value → mH → Prop} {x1 : Int32} {x2 : Int32} {x3 : Int32} {vc : Int32} (e1 : h[5]? = some (oJ vc)) (k : mCt mCd 123 [.ref 5, .int x1] h (fun rv hv => mWp mCd 109 (5, [some (.ref 5), some (.int x1), some (.int x2), some (.int x3)], rv.toList ++ [], hv, 0, 0) Q)) : mWp mCd 109 (0, [some (.ref 5), some (.int x1), some (.int x2), some (.int x3)], [], h, 0, 0) Q := by
  refine mWp_run 2 (t' := (2, [some (.ref 5), some (.int x1), some (.int x2), some (.int x3)], [.int x1, .ref 5], h, 0, 0)) rfl ?_
  exact mWp_iv rfl rfl e1 rfl rfl rfl rfl k
theorem b109_5 {h : mH} {Q : Option Value → mH → Prop} {x1 : Int32} {x2 : Int32} {x3 : Int32} {u0 : Int32}  (k1 : u0 = 0 → mWp mCd 109 (20, [none, none, none, none], [], h, 0, 0) Q) (k2 : ¬ (u0 = 0) → mWp mCd 109 (8, [some (.ref 5), some (.int x1), some (.int x2), some (.int x3)], [], h, 0, 0) Q) : mWp mCd 109 (5, [some (.ref 5), some (.int x1), some (.int x2), some (.int x3)], [.int u0], h, 0, 0) Q := by
  exact mWp_if (P := fun x => x = 0) (a := u0) rfl (fun q => mWp_weak (mLe_n (mLe_n (mLe_n (mLe_n mLe_0)))) (k1 q)) k2
theorem b109_20 {h : mH} {Q : Option Value → mH → Prop}   (k : Q (some (.int (iZ (-2)))) h) : mWp mCd 109 (20, [none, none, none, none], [], h, 0, 0) Q := by
  refine mWp_run 1 (t' := (22, [none, none, none, none], [.int (iZ (-2))], h, 0, 0)) rfl ?_
  exact mWp_r (v := (some (.int (iZ (-2))))) rfl k
theorem b109_8 {h : mH} {Q : Option Value → mH → Prop} {x1 : Int32} {x2 : Int32} {x3 : Int32}  (k1 : x2 = (iZ (-1)) → mWp mCd 109 (23, [some (.ref 5), some (.int x1), some (.int x2), some (.int x3)], [], h, 0, 0) Q) (k2 : ¬ (x2 = (iZ (-1))) → mWp mCd 109 (13, [some (.ref 5), some (.int x1), some (.int x2), some (.int x3)], [], h, 0, 0) Q) : mWp mCd 109 (8, [some (.ref 5), some (.int x1), some (.int x2), some (.int x3)], [], h, 0, 0) Q := by
  refine mWp_run 2 (t' := (10, [some (.ref 5), some (.int x1), some (.int x2), some (.int x3)], [.int (iZ (-1)), .int x2], h, 0, 0)) rfl ?_
  exact mWp_ic (P := fun x y => x = y) (a := x2) (b := iZ (-1)) rfl k1 k2
theorem b109_23 {h : mH} {Q : Option Value → mH → Prop} {x1 : Int32} {x2 : Int32} {x3 : Int32}  (k1 : ¬ x2 = (iZ (-1)) → mWp mCd 109 (37, [some (.ref 5), some (.int x1), some (.int x2), some (.int x3)], [], h, 0, 0) Q) (k2 : ¬ (¬ x2 = (iZ (-1))) → mWp mCd 109 (28, [some (.ref 5), some (.int x1), none, none], [], h, 0, 0) Q) : mWp mCd 109 (23, [some (.ref 5), some (.int x1), some (.int x2), some (.int x3)], [], h, 0, 0) Q := by
  refine mWp_run 2 (t' := (25, [some (.ref 5), some (.int x1), some (.int x2), some (.int x3)], [.int (iZ (-1)), .int x2], h, 0, 0)) rfl ?_
  exact mWp_ic (P := fun x y => ¬ x = y) (a := x2) (b := iZ (-1)) rfl k1 (fun q => mWp_weak (mLe_s (mLe_s (mLe_n (mLe_n mLe_0)))) (k2 q))
theorem b109_13 {h : mH} {Q : Option Value → mH → Prop} {x1 : Int32} {x2 : Int32} {x3 : Int32}  (k : mCt mCd 124 [.int x2] h (fun rv hv => mWp mCd 109 (17, [some (.ref 5), some (.int x1), some (.int x2), some (.int x3)], rv.toList ++ [], hv, 0, 0) Q)) : mWp mCd 109 (13, [some (.ref 5), some (.int x1), some (.int x2), some (.int x3)], [], h, 0, 0) Q := by
  refine mWp_run 1 (t' := (14, [some (.ref 5), some (.int x1), some (.int x2), some (.int x3)], [.int x2], h, 0, 0)) rfl ?_
  exact mWp_is rfl rfl rfl rfl rfl k
theorem b109_37 {h : mH} {Q : Option Value → mH → Prop} {x1 : Int32} {x2 : Int32} {x3 : Int32}  (k1 : x3 ≤ (iZ 40) → mWp mCd 109 (46, [some (.ref 5), some (.int x1), some (.int x2), some (.int x3)], [], h, 0, 0) Q) (k2 : ¬ (x3 ≤ (iZ 40)) → mWp mCd 109 (43, [none, none, none, none], [], h, 0, 0) Q) : mWp mCd 109 (37, [some (.ref 5), some (.int x1), some (.int x2), some (.int x3)], [], h, 0, 0) Q := by
  refine mWp_run 2 (t' := (40, [some (.ref 5), some (.int x1), some (.int x2), some (.int x3)], [.int (iZ 40), .int x3], h, 0, 0)) rfl ?_
  exact mWp_ic (P := fun x y => x ≤ y) (a := x3) (b := iZ 40) rfl k1 (fun q => mWp_weak (mLe_n (mLe_n (mLe_n (mLe_n mLe_0)))) (k2 q))
theorem b109_28 {h : mH} {Q : Option Value → mH → Prop} {x1 : Int32} {vc : Int32} {g101 : Nat → Option Nat} (e1 : h[5]? = some (oJ vc)) (e2 : h[13]? = some (aR 3 4 g101)) (e3 : ¬ (x1 < 0 ∨ 4 ≤ x1.toNatClampNeg)) (k : Q (some (.int (iZ 1))) (h.set 13 (aR 3 4 (va_up g101 (x1.toNatClampNeg) none)))) : mWp mCd 109 (28, [some (.ref 5), some (.int x1), none, none], [], h, 0, 0) Q := by
  refine mWp_run 1 (t' := (29, [some (.ref 5), some (.int x1), none, none], [.ref 5], h, 0, 0)) rfl ?_
  refine mWp_gf rfl e1 rfl rfl ?_
  refine mWp_run 2 (t' := (34, [some (.ref 5), some (.int x1), none, none], [.null, .int x1, .ref 13], h, 0, 0)) rfl ?_
  refine mWp_aan rfl (by decide) e2 (by decide) e3 ?_
  show mWp mCd 109 (35, [some (.ref 5), some (.int x1), none, none], [], (h.set 13 (aR 3 4 (va_up g101 (x1.toNatClampNeg) none))), 0, 0) Q
  refine mWp_run 1 (t' := (36, [some (.ref 5), some (.int x1), none, none], [.int (iZ 1)], (h.set 13 (aR 3 4 (va_up g101 (x1.toNatClampNeg) none))), 0, 0)) rfl ?_
  exact mWp_r (v := (some (.int (iZ 1)))) rfl k
theorem b109_17 {h : mH} {Q : Option Value → mH → Prop} {x1 : Int32} {x2 : Int32} {x3 : Int32} {u0 : Int32}  (k1 : ¬ u0 = 0 → mWp mCd 109 (23, [some (.ref 5), some (.int x1), some (.int x2), some (.int x3)], [], h, 0, 0) Q) (k2 : ¬ (¬ u0 = 0) → mWp mCd 109 (20, [none, none, none, none], [], h, 0, 0) Q) : mWp mCd 109 (17, [some (.ref 5), some (.int x1), some (.int x2), some (.int x3)], [.int u0], h, 0, 0) Q := by
  exact mWp_if (P := fun x => ¬ x = 0) (a := u0) rfl k1 (fun q => mWp_weak (mLe_n (mLe_n (mLe_n (mLe_n mLe_0)))) (k2 q))
theorem b109_46 {h : mH} {Q : Option Value → mH → Prop} {x1 : Int32} {x2 : Int32} {x3 : Int32}  (k1 : 0 ≤ x3 → mWp mCd 109 (53, [some (.ref 5), some (.int x1), some (.int x2), some (.int x3)], [], h, 0, 0) Q) (k2 : ¬ (0 ≤ x3) → mWp mCd 109 (50, [none, none, none, none], [], h, 0, 0) Q) : mWp mCd 109 (46, [some (.ref 5), some (.int x1), some (.int x2), some (.int x3)], [], h, 0, 0) Q := by
  refine mWp_run 1 (t' := (47, [some (.ref 5), some (.int x1), some (.int x2), some (.int x3)], [.int x3], h, 0, 0)) rfl ?_
  exact mWp_if (P := fun x => 0 ≤ x) (a := x3) rfl k1 (fun q => mWp_weak (mLe_n (mLe_n (mLe_n (mLe_n mLe_0)))) (k2 q))
theorem b109_43 {h : mH} {Q : Option Value → mH → Prop}   (k : Q (some (.int (iZ (-2)))) h) : mWp mCd 109 (43, [none, none, none, none], [], h, 0, 0) Q := by
  refine mWp_run 1 (t' := (45, [none, none, none, none], [.int (iZ (-2))], h, 0, 0)) rfl ?_
  exact mWp_r (v := (some (.int (iZ (-2))))) rfl k
theorem b109_53 {h : mH} {Q : Option Value → mH → Prop} {x1 : Int32} {x2 : Int32} {x3 : Int32} {vc : Int32} (e1 : h[5]? = some (oJ vc)) (k : mWp mCd 109 (61, [none, none, some (.int x2), some (.int x3)], [.ref ((h).length), .int x1, .ref 13], (h ++ [.inr (5, [.int 0, .null])]), 1, 2) Q) : mWp mCd 109 (53, [some (.ref 5), some (.int x1), some (.int x2), some (.int x3)], [], h, 0, 0) Q := by
  refine mWp_run 1 (t' := (54, [some (.ref 5), some (.int x1), some (.int x2), some (.int x3)], [.ref 5], h, 0, 0)) rfl ?_
  refine mWp_gf rfl e1 rfl rfl ?_
  refine mWp_run 1 (t' := (58, [some (.ref 5), some (.int x1), some (.int x2), some (.int x3)], [.int x1, .ref 13], h, 0, 0)) rfl ?_
  refine mWp_run 1 (t' := (61, [some (.ref 5), some (.int x1), some (.int x2), some (.int x3)], [.ref ((h).length), .int x1, .ref 13], (h ++ [.inr (5, [.int 0, .null])]), 1, 2)) rfl ?_
  exact mWp_weak (mLe_n (mLe_n (mLe_s (mLe_s mLe_0)))) k
theorem b109_50 {h : mH} {Q : Option Value → mH → Prop}   (k : Q (some (.int (iZ (-14)))) h) : mWp mCd 109 (50, [none, none, none, none], [], h, 0, 0) Q := by
  refine mWp_run 1 (t' := (52, [none, none, none, none], [.int (iZ (-14))], h, 0, 0)) rfl ?_
  exact mWp_r (v := (some (.int (iZ (-14))))) rfl k
theorem b109_61 {h : mH} {Q : Option Value → mH → Prop} {x2 : Int32} {x3 : Int32} {q0 : Nat} {u1 : Int32}  (k : mCt mCd 33 [.ref q0, .int x2, .int x3] h (fun rv hv => mWp mCd 109 (67, [none, none, none, none], rv.toList ++ [.ref q0, .int u1, .ref 13], hv, 2, 42) Q)) : mWp mCd 109 (61, [none, none, some (.int x2), some (.int x3)], [.ref q0, .int u1, .ref 13], h, 1, 2) Q := by
  refine mWp_run 3 (t' := (64, [none, none, some (.int x2), some (.int x3)], [.int x3, .int x2, .ref q0, .ref q0, .int u1, .ref 13], h, 1, 2)) rfl ?_
  exact mWp_ii rfl rfl rfl rfl rfl (mCt_mono k (fun rv hv y => mWp_weak (mLe_n (mLe_n (mLe_n (mLe_n mLe_0)))) y))
theorem b109_67 {h : mH} {Q : Option Value → mH → Prop} {q0 : Nat} {u1 : Int32} {g101 : Nat → Option Nat} {ci102 : Nat} {fs103 : List Value} (e1 : h[13]? = some (aR 3 4 g101)) (e2 : ¬ (u1 < 0 ∨ 4 ≤ u1.toNatClampNeg)) (e3 : h[q0]? = some (.inr (ci102, fs103))) (e4 : mCok 3 ci102 = true) (k : Q (some (.int (iZ 1))) (h.set 13 (aR 3 4 (va_up g101 (u1.toNatClampNeg) (some q0))))) : mWp mCd 109 (67, [none, none, none, none], [.ref q0, .int u1, .ref 13], h, 2, 42) Q := by
  refine mWp_aas rfl (by decide) e1 e3 e4 e2 ?_
  show mWp mCd 109 (68, [none, none, none, none], [], (h.set 13 (aR 3 4 (va_up g101 (u1.toNatClampNeg) (some q0)))), 2, 42) Q
  refine mWp_run 1 (t' := (69, [none, none, none, none], [.int (iZ 1)], (h.set 13 (aR 3 4 (va_up g101 (u1.toNatClampNeg) (some q0)))), 2, 42)) rfl ?_
  exact mWp_r (v := (some (.int (iZ 1)))) rfl k
theorem b110_0 {h : mH} {Q : Option Value → mH → Prop} {x1 : Int32} {x2 : Int32} {x3 : Int32} {vc : Int32} (e1 : h[5]? = some (oJ vc)) (k : mCt mCd 123 [.ref 5, .int x1] h (fun rv hv => mWp mCd 110 (5, [some (.ref 5), some (.int x1), some (.int x2), some (.int x3), none], rv.toList ++ [], hv, 0, 0) Q)) : mWp mCd 110 (0, [some (.ref 5), some (.int x1), some (.int x2), some (.int x3), none], [], h, 0, 0) Q := by
  refine mWp_run 2 (t' := (2, [some (.ref 5), some (.int x1), some (.int x2), some (.int x3), none], [.int x1, .ref 5], h, 0, 0)) rfl ?_
  exact mWp_iv rfl rfl e1 rfl rfl rfl rfl k
theorem b110_5 {h : mH} {Q : Option Value → mH → Prop} {x1 : Int32} {x2 : Int32} {x3 : Int32} {u0 : Int32}  (k1 : ¬ u0 = 0 → mWp mCd 110 (11, [some (.ref 5), some (.int x1), some (.int x2), some (.int x3), none], [], h, 0, 0) Q) (k2 : ¬ (¬ u0 = 0) → mWp mCd 110 (8, [none, none, none, none, none], [], h, 0, 0) Q) : mWp mCd 110 (5, [some (.ref 5), some (.int x1), some (.int x2), some (.int x3), none], [.int u0], h, 0, 0) Q := by
  exact mWp_if (P := fun x => ¬ x = 0) (a := u0) rfl k1 (fun q => mWp_weak (mLe_n (mLe_n (mLe_n (mLe_n (mLe_n mLe_0))))) (k2 q))
theorem b110_11n {h : mH} {Q : Option Value → mH → Prop} {x1 : Int32} {x2 : Int32} {x3 : Int32} {vc : Int32} {g101 : Nat → Option Nat} (e1 : h[5]? = some (oJ vc)) (e2 : h[13]? = some (aR 3 4 g101)) (e3 : ¬ (x1 < 0 ∨ 4 ≤ x1.toNatClampNeg)) (e4 : g101 x1.toNatClampNeg = none) (k : Q (some (.int (iZ (-11)))) h) : mWp mCd 110 (11, [some (.ref 5), some (.int x1), some (.int x2), some (.int x3), none], [], h, 0, 0) Q := by
  refine mWp_run 1 (t' := (12, [some (.ref 5), some (.int x1), some (.int x2), some (.int x3), none], [.ref 5], h, 0, 0)) rfl ?_
  refine mWp_gf rfl e1 rfl rfl ?_
  refine mWp_run 1 (t' := (16, [some (.ref 5), some (.int x1), some (.int x2), some (.int x3), none], [.int x1, .ref 13], h, 0, 0)) rfl ?_
  refine mWp_aal rfl (by decide) e2 e3 (congrArg va_rf e4) ?_
  refine mWp_run 4 (t' := (26, [some (.ref 5), some (.int x1), some (.int x2), some (.int x3), some (.null)], [.int (iZ (-11))], h, 0, 0)) rfl ?_
  exact mWp_r (v := (some (.int (iZ (-11))))) rfl k
theorem b110_11r {h : mH} {Q : Option Value → mH → Prop} {x1 : Int32} {x2 : Int32} {x3 : Int32} {vc : Int32} {g101 : Nat → Option Nat} {q102 : Nat} {so : Int32} (e1 : h[5]? = some (oJ vc)) (e2 : h[13]? = some (aR 3 4 g101)) (e3 : ¬ (x1 < 0 ∨ 4 ≤ x1.toNatClampNeg)) (e4 : g101 x1.toNatClampNeg = some q102) (e5 : h[q102]? = some (oS q102 so)) (k : mCt mCd 34 [.ref q102, .int x2, .int (iZ 1)] h (fun rv hv => mWp mCd 110 (34, [none, none, some (.int x2), some (.int x3), some (.ref q102)], rv.toList ++ [], hv, 0, 0) Q)) : mWp mCd 110 (11, [some (.ref 5), some (.int x1), some (.int x2), some (.int x3), none], [], h, 0, 0) Q := by
  refine mWp_run 1 (t' := (12, [some (.ref 5), some (.int x1), some (.int x2), some (.int x3), none], [.ref 5], h, 0, 0)) rfl ?_
  refine mWp_gf rfl e1 rfl rfl ?_
  refine mWp_run 1 (t' := (16, [some (.ref 5), some (.int x1), some (.int x2), some (.int x3), none], [.int x1, .ref 13], h, 0, 0)) rfl ?_
  refine mWp_aal rfl (by decide) e2 e3 (congrArg va_rf e4) ?_
  refine mWp_run 6 (t' := (31, [some (.ref 5), some (.int x1), some (.int x2), some (.int x3), some (.ref q102)], [.int (iZ 1), .int x2, .ref q102], h, 0, 0)) rfl ?_
  exact mWp_iv rfl rfl e5 rfl rfl rfl rfl (mCt_mono k (fun rv hv y => mWp_weak (mLe_n (mLe_n (mLe_s (mLe_s (mLe_s mLe_0))))) y))
theorem b110_8 {h : mH} {Q : Option Value → mH → Prop}   (k : Q (some (.int (iZ (-2)))) h) : mWp mCd 110 (8, [none, none, none, none, none], [], h, 0, 0) Q := by
  refine mWp_run 1 (t' := (10, [none, none, none, none, none], [.int (iZ (-2))], h, 0, 0)) rfl ?_
  exact mWp_r (v := (some (.int (iZ (-2))))) rfl k
theorem b110_34 {h : mH} {Q : Option Value → mH → Prop} {x2 : Int32} {x3 : Int32} {r4 : Nat} {u0 : Int32}  (k1 : ¬ u0 = 0 → mWp mCd 110 (40, [none, none, some (.int x2), some (.int x3), some (.ref r4)], [], h, 0, 0) Q) (k2 : ¬ (¬ u0 = 0) → mWp mCd 110 (37, [none, none, none, none, none], [], h, 0, 0) Q) : mWp mCd 110 (34, [none, none, some (.int x2), some (.int x3), some (.ref r4)], [.int u0], h, 0, 0) Q := by
  exact mWp_if (P := fun x => ¬ x = 0) (a := u0) rfl k1 (fun q => mWp_weak (mLe_n (mLe_n (mLe_n (mLe_n (mLe_n mLe_0))))) (k2 q))
theorem b110_40 {h : mH} {Q : Option Value → mH → Prop} {x2 : Int32} {x3 : Int32} {r4 : Nat} {so : Int32} (e1 : h[r4]? = some (oS r4 so)) (k : mCt mCd 36 [.ref r4, .int x2, .int x3] h (fun rv hv => mWp mCd 110 (47, [none, none, none, none, none], rv.toList ++ [], hv, 0, 0) Q)) : mWp mCd 110 (40, [none, none, some (.int x2), some (.int x3), some (.ref r4)], [], h, 0, 0) Q := by
  refine mWp_run 3 (t' := (44, [none, none, some (.int x2), some (.int x3), some (.ref r4)], [.int x3, .int x2, .ref r4], h, 0, 0)) rfl ?_
  exact mWp_iv rfl rfl e1 rfl rfl rfl rfl (mCt_mono k (fun rv hv y => mWp_weak (mLe_n (mLe_n (mLe_n (mLe_n (mLe_n mLe_0))))) y))
theorem b110_37 {h : mH} {Q : Option Value → mH → Prop}   (k : Q (some (.int (iZ (-12)))) h) : mWp mCd 110 (37, [none, none, none, none, none], [], h, 0, 0) Q := by
  refine mWp_run 1 (t' := (39, [none, none, none, none, none], [.int (iZ (-12))], h, 0, 0)) rfl ?_
  exact mWp_r (v := (some (.int (iZ (-12))))) rfl k
theorem b110_47 {h : mH} {Q : Option Value → mH → Prop}   (k : Q (some (.int (iZ 1))) h) : mWp mCd 110 (47, [none, none, none, none, none], [], h, 0, 0) Q := by
  refine mWp_run 1 (t' := (48, [none, none, none, none, none], [.int (iZ 1)], h, 0, 0)) rfl ?_
  exact mWp_r (v := (some (.int (iZ 1)))) rfl k
theorem b111_0 {h : mH} {Q : Option Value → mH → Prop} {x1 : Int32} {x2 : Int32} {x3 : Int32} {x4 : Int32} {vc : Int32} (e1 : h[5]? = some (oJ vc)) (k : mCt mCd 114 [.ref 5, .int x1] h (fun rv hv => mWp mCd 111 (5, [some (.ref 5), none, some (.int x2), some (.int x3), some (.int x4), none, none, none], rv.toList ++ [], hv, 0, 0) Q)) : mWp mCd 111 (0, [some (.ref 5), some (.int x1), some (.int x2), some (.int x3), some (.int x4), none, none, none], [], h, 0, 0) Q := by
  refine mWp_run 2 (t' := (2, [some (.ref 5), some (.int x1), some (.int x2), some (.int x3), some (.int x4), none, none, none], [.int x1, .ref 5], h, 0, 0)) rfl ?_
  exact mWp_iv rfl rfl e1 rfl rfl rfl rfl (mCt_mono k (fun rv hv y => mWp_weak (mLe_s (mLe_n (mLe_s (mLe_s (mLe_s (mLe_n (mLe_n (mLe_n mLe_0)))))))) y))
theorem b111_5 {h : mH} {Q : Option Value → mH → Prop} {x2 : Int32} {x3 : Int32} {x4 : Int32}  (k : Q (some (.int (iZ (-2)))) h) : mWp mCd 111 (5, [some (.ref 5), none, some (.int x2), some (.int x3), some (.int x4), none, none, none], [.null], h, 0, 0) Q := by
  refine mWp_run 4 (t' := (29, [some (.ref 5), none, some (.int x2), some (.int x3), some (.int x4), some (.null), none, none], [.int (iZ (-2))], h, 0, 0)) rfl ?_
  exact mWp_r (v := (some (.int (iZ (-2))))) rfl k
theorem b111_5_1 {h : mH} {Q : Option Value → mH → Prop} {x2 : Int32} {x3 : Int32} {x4 : Int32} {q0 : Nat} {vc : Int32} (e1 : h[5]? = some (oJ vc)) (k : mCt mCd 123 [.ref 5, .int x2] h (fun rv hv => mWp mCd 111 (17, [some (.ref 5), none, some (.int x2), some (.int x3), some (.int x4), some (.ref q0), none, none], rv.toList ++ [], hv, 0, 0) Q)) : mWp mCd 111 (5, [some (.ref 5), none, some (.int x2), some (.int x3), some (.int x4), none, none, none], [.ref q0], h, 0, 0) Q := by
  refine mWp_run 5 (t' := (14, [some (.ref 5), none, some (.int x2), some (.int x3), some (.int x4), some (.ref q0), none, none], [.int x2, .ref 5], h, 0, 0)) rfl ?_
  exact mWp_iv rfl rfl e1 rfl rfl rfl rfl k
theorem b111_17 {h : mH} {Q : Option Value → mH → Prop} {x2 : Int32} {x3 : Int32} {x4 : Int32} {r5 : Nat} {u0 : Int32}  (k1 : u0 = 0 → mWp mCd 111 (27, [none, none, none, none, none, none, none, none], [], h, 0, 0) Q) (k2 : ¬ (u0 = 0) → mWp mCd 111 (20, [some (.ref 5), none, some (.int x2), some (.int x3), some (.int x4), some (.ref r5), none, none], [], h, 0, 0) Q) : mWp mCd 111 (17, [some (.ref 5), none, some (.int x2), some (.int x3), some (.int x4), some (.ref r5), none, none], [.int u0], h, 0, 0) Q := by
  exact mWp_if (P := fun x => x = 0) (a := u0) rfl (fun q => mWp_weak (mLe_n (mLe_n (mLe_n (mLe_n (mLe_n (mLe_n (mLe_n (mLe_n mLe_0)))))))) (k1 q)) k2
theorem b111_27 {h : mH} {Q : Option Value → mH → Prop}   (k : Q (some (.int (iZ (-2)))) h) : mWp mCd 111 (27, [none, none, none, none, none, none, none, none], [], h, 0, 0) Q := by
  refine mWp_run 1 (t' := (29, [none, none, none, none, none, none, none, none], [.int (iZ (-2))], h, 0, 0)) rfl ?_
  exact mWp_r (v := (some (.int (iZ (-2))))) rfl k
theorem b111_20 {h : mH} {Q : Option Value → mH → Prop} {x2 : Int32} {x3 : Int32} {x4 : Int32} {r5 : Nat}  (k : mCt mCd 124 [.int x3] h (fun rv hv => mWp mCd 111 (24, [some (.ref 5), none, some (.int x2), some (.int x3), some (.int x4), some (.ref r5), none, none], rv.toList ++ [], hv, 0, 0) Q)) : mWp mCd 111 (20, [some (.ref 5), none, some (.int x2), some (.int x3), some (.int x4), some (.ref r5), none, none], [], h, 0, 0) Q := by
  refine mWp_run 1 (t' := (21, [some (.ref 5), none, some (.int x2), some (.int x3), some (.int x4), some (.ref r5), none, none], [.int x3], h, 0, 0)) rfl ?_
  exact mWp_is rfl rfl rfl rfl rfl k
theorem b111_24 {h : mH} {Q : Option Value → mH → Prop} {x2 : Int32} {x3 : Int32} {x4 : Int32} {r5 : Nat} {u0 : Int32}  (k1 : ¬ u0 = 0 → mWp mCd 111 (30, [some (.ref 5), none, some (.int x2), some (.int x3), some (.int x4), some (.ref r5), none, none], [], h, 0, 0) Q) (k2 : ¬ (¬ u0 = 0) → mWp mCd 111 (27, [none, none, none, none, none, none, none, none], [], h, 0, 0) Q) : mWp mCd 111 (24, [some (.ref 5), none, some (.int x2), some (.int x3), some (.int x4), some (.ref r5), none, none], [.int u0], h, 0, 0) Q := by
  exact mWp_if (P := fun x => ¬ x = 0) (a := u0) rfl k1 (fun q => mWp_weak (mLe_n (mLe_n (mLe_n (mLe_n (mLe_n (mLe_n (mLe_n (mLe_n mLe_0)))))))) (k2 q))
theorem b111_30 {h : mH} {Q : Option Value → mH → Prop} {x2 : Int32} {x3 : Int32} {x4 : Int32} {r5 : Nat} {ci : Nat} {num : Int32} {n : Int32} {fd : Int32} {k101 : Nat} (hc : [1, 2, 4, 6, 8].contains ci = true) (e2 : h[r5]? = some (oV ci r5 num n fd)) (e3 : mSel [(1, 15, 0, 0), (2, 18, 0, 0), (4, 31, 0, 0), (6, 38, 0, 0), (8, 75, 0, 0)] ci = some (k101, 0, 0)) (k : mCt mCd k101 [.ref r5] h (fun rv hv => mWp mCd 111 (35, [some (.ref 5), none, some (.int x2), some (.int x3), some (.int x4), some (.ref r5), none, none], rv.toList ++ [], hv, 0, 0) Q)) : mWp mCd 111 (30, [some (.ref 5), none, some (.int x2), some (.int x3), some (.int x4), some (.ref r5), none, none], [], h, 0, 0) Q := by
  refine mWp_run 1 (t' := (32, [some (.ref 5), none, some (.int x2), some (.int x3), some (.int x4), some (.ref r5), none, none], [.ref r5], h, 0, 0)) rfl ?_
  exact mWp_iv rfl rfl e2 e3 rfl rfl rfl k
theorem b111_35 {h : mH} {Q : Option Value → mH → Prop} {x2 : Int32} {x3 : Int32} {x4 : Int32} {r5 : Nat} {u0 : Int32}  (k1 : u0 = 0 → mWp mCd 111 (41, [some (.ref 5), none, some (.int x2), some (.int x3), some (.int x4), some (.ref r5), none, none], [], h, 0, 0) Q) (k2 : ¬ (u0 = 0) → mWp mCd 111 (38, [none, none, none, none, none, none, none, none], [], h, 0, 0) Q) : mWp mCd 111 (35, [some (.ref 5), none, some (.int x2), some (.int x3), some (.int x4), some (.ref r5), none, none], [.int u0], h, 0, 0) Q := by
  exact mWp_if (P := fun x => x = 0) (a := u0) rfl k1 (fun q => mWp_weak (mLe_n (mLe_n (mLe_n (mLe_n (mLe_n (mLe_n (mLe_n (mLe_n mLe_0)))))))) (k2 q))
theorem b111_41n {h : mH} {Q : Option Value → mH → Prop} {x2 : Int32} {x3 : Int32} {x4 : Int32} {r5 : Nat} {vc : Int32} {g101 : Nat → Option Nat} (e1 : h[5]? = some (oJ vc)) (e2 : h[13]? = some (aR 3 4 g101)) (e3 : ¬ (x2 < 0 ∨ 4 ≤ x2.toNatClampNeg)) (e4 : g101 x2.toNatClampNeg = none) (k : mWp mCd 111 (66, [none, none, none, none, some (.int x4), some (.ref r5), some (.null), none], [], h, 0, 0) Q) : mWp mCd 111 (41, [some (.ref 5), none, some (.int x2), some (.int x3), some (.int x4), some (.ref r5), none, none], [], h, 0, 0) Q := by
  refine mWp_run 1 (t' := (42, [some (.ref 5), none, some (.int x2), some (.int x3), some (.int x4), some (.ref r5), none, none], [.ref 5], h, 0, 0)) rfl ?_
  refine mWp_gf rfl e1 rfl rfl ?_
  refine mWp_run 1 (t' := (46, [some (.ref 5), none, some (.int x2), some (.int x3), some (.int x4), some (.ref r5), none, none], [.int x2, .ref 13], h, 0, 0)) rfl ?_
  refine mWp_aal rfl (by decide) e2 e3 (congrArg va_rf e4) ?_
  refine mWp_run 3 (t' := (66, [some (.ref 5), none, some (.int x2), some (.int x3), some (.int x4), some (.ref r5), some (.null), none], [], h, 0, 0)) rfl ?_
  exact mWp_weak (mLe_n (mLe_n (mLe_n (mLe_n (mLe_s (mLe_s (mLe_s (mLe_n mLe_0)))))))) k
theorem b111_41r {h : mH} {Q : Option Value → mH → Prop} {x2 : Int32} {x3 : Int32} {x4 : Int32} {r5 : Nat} {vc : Int32} {g101 : Nat → Option Nat} {q102 : Nat} {so : Int32} (e1 : h[5]? = some (oJ vc)) (e2 : h[13]? = some (aR 3 4 g101)) (e3 : ¬ (x2 < 0 ∨ 4 ≤ x2.toNatClampNeg)) (e4 : g101 x2.toNatClampNeg = some q102) (e5 : h[q102]? = some (oS q102 so)) (k1 : so = x3 → mWp mCd 111 (66, [none, none, none, none, some (.int x4), some (.ref r5), some (.ref q102), none], [], h, 0, 0) Q) (k2 : ¬ (so = x3) → mWp mCd 111 (63, [none, none, none, none, none, none, none, none], [], h, 0, 0) Q) : mWp mCd 111 (41, [some (.ref 5), none, some (.int x2), some (.int x3), some (.int x4), some (.ref r5), none, none], [], h, 0, 0) Q := by
  refine mWp_run 1 (t' := (42, [some (.ref 5), none, some (.int x2), some (.int x3), some (.int x4), some (.ref r5), none, none], [.ref 5], h, 0, 0)) rfl ?_
  refine mWp_gf rfl e1 rfl rfl ?_
  refine mWp_run 1 (t' := (46, [some (.ref 5), none, some (.int x2), some (.int x3), some (.int x4), some (.ref r5), none, none], [.int x2, .ref 13], h, 0, 0)) rfl ?_
  refine mWp_aal rfl (by decide) e2 e3 (congrArg va_rf e4) ?_
  refine mWp_run 4 (t' := (56, [some (.ref 5), none, some (.int x2), some (.int x3), some (.int x4), some (.ref r5), some (.ref q102), none], [.ref q102], h, 0, 0)) rfl ?_
  refine mWp_gf rfl e5 rfl rfl ?_
  refine mWp_run 1 (t' := (60, [some (.ref 5), none, some (.int x2), some (.int x3), some (.int x4), some (.ref r5), some (.ref q102), none], [.int x3, .int so], h, 0, 0)) rfl ?_
  exact mWp_ic (P := fun x y => x = y) (a := so) (b := x3) rfl (fun q => mWp_weak (mLe_n (mLe_n (mLe_n (mLe_n (mLe_s (mLe_s (mLe_s (mLe_n mLe_0)))))))) (k1 q)) (fun q => mWp_weak (mLe_n (mLe_n (mLe_n (mLe_n (mLe_n (mLe_n (mLe_n (mLe_n mLe_0)))))))) (k2 q))
theorem b111_38 {h : mH} {Q : Option Value → mH → Prop}   (k : Q (some (.int (iZ (-3)))) h) : mWp mCd 111 (38, [none, none, none, none, none, none, none, none], [], h, 0, 0) Q := by
  refine mWp_run 1 (t' := (40, [none, none, none, none, none, none, none, none], [.int (iZ (-3))], h, 0, 0)) rfl ?_
  exact mWp_r (v := (some (.int (iZ (-3))))) rfl k
theorem b111_66 {h : mH} {Q : Option Value → mH → Prop} {x4 : Int32} {r5 : Nat}  (k : Q (some (.int (iZ (-11)))) h) : mWp mCd 111 (66, [none, none, none, none, some (.int x4), some (.ref r5), some (.null), none], [], h, 0, 0) Q := by
  refine mWp_run 3 (t' := (73, [none, none, none, none, some (.int x4), some (.ref r5), some (.null), none], [.int (iZ (-11))], h, 0, 0)) rfl ?_
  exact mWp_r (v := (some (.int (iZ (-11))))) rfl k
theorem b111_66_1 {h : mH} {Q : Option Value → mH → Prop} {x4 : Int32} {r5 : Nat} {r6 : Nat} {ci : Nat} {num : Int32} {n : Int32} {fd : Int32} (hc : [1, 2, 4, 6, 8].contains ci = true) (e2 : h[r5]? = some (oV ci r5 num n fd)) (k : mCt mCd 42 [.ref r5] h (fun rv hv => mWp mCd 111 (83, [none, none, none, none, some (.int x4), some (.ref r5), some (.ref r6), none], rv.toList ++ [.int x4, .ref r6], hv, 0, 0) Q)) : mWp mCd 111 (66, [none, none, none, none, some (.int x4), some (.ref r5), some (.ref r6), none], [], h, 0, 0) Q := by
  refine mWp_run 5 (t' := (80, [none, none, none, none, some (.int x4), some (.ref r5), some (.ref r6), none], [.ref r5, .int x4, .ref r6], h, 0, 0)) rfl ?_
  exact mWp_iv rfl rfl e2 (mS5 hc) rfl rfl rfl k
theorem b111_63 {h : mH} {Q : Option Value → mH → Prop}   (k : Q (some (.int (iZ (-13)))) h) : mWp mCd 111 (63, [none, none, none, none, none, none, none, none], [], h, 0, 0) Q := by
  refine mWp_run 1 (t' := (65, [none, none, none, none, none, none, none, none], [.int (iZ (-13))], h, 0, 0)) rfl ?_
  exact mWp_r (v := (some (.int (iZ (-13))))) rfl k
theorem b111_83 {h : mH} {Q : Option Value → mH → Prop} {x4 : Int32} {r5 : Nat} {r6 : Nat} {u0 : Int32} {u1 : Int32} {q2 : Nat} {so : Int32} (e1 : h[q2]? = some (oS q2 so)) (k : mCt mCd 34 [.ref q2, .int u1, .int u0] h (fun rv hv => mWp mCd 111 (86, [none, none, none, none, some (.int x4), some (.ref r5), some (.ref r6), none], rv.toList ++ [], hv, 0, 0) Q)) : mWp mCd 111 (83, [none, none, none, none, some (.int x4), some (.ref r5), some (.ref r6), none], [.int u0, .int u1, .ref q2], h, 0, 0) Q := by
  exact mWp_iv rfl rfl e1 rfl rfl rfl rfl k
theorem b111_86 {h : mH} {Q : Option Value → mH → Prop} {x4 : Int32} {r5 : Nat} {r6 : Nat} {u0 : Int32}  (k1 : ¬ u0 = 0 → mWp mCd 111 (92, [none, none, none, none, some (.int x4), some (.ref r5), some (.ref r6), none], [], h, 0, 0) Q) (k2 : ¬ (¬ u0 = 0) → mWp mCd 111 (89, [none, none, none, none, none, none, none, none], [], h, 0, 0) Q) : mWp mCd 111 (86, [none, none, none, none, some (.int x4), some (.ref r5), some (.ref r6), none], [.int u0], h, 0, 0) Q := by
  exact mWp_if (P := fun x => ¬ x = 0) (a := u0) rfl k1 (fun q => mWp_weak (mLe_n (mLe_n (mLe_n (mLe_n (mLe_n (mLe_n (mLe_n (mLe_n mLe_0)))))))) (k2 q))
theorem b111_92 {h : mH} {Q : Option Value → mH → Prop} {x4 : Int32} {r5 : Nat} {r6 : Nat} {ci : Nat} {num : Int32} {n : Int32} {fd : Int32} (hc : [1, 2, 4, 6, 8].contains ci = true) (e2 : h[r5]? = some (oV ci r5 num n fd)) (k : mCt mCd 42 [.ref r5] h (fun rv hv => mWp mCd 111 (101, [none, none, none, none, some (.int x4), some (.ref r5), some (.ref r6), none], rv.toList ++ [.int x4, .ref r6], hv, 0, 0) Q)) : mWp mCd 111 (92, [none, none, none, none, some (.int x4), some (.ref r5), some (.ref r6), none], [], h, 0, 0) Q := by
  refine mWp_run 3 (t' := (98, [none, none, none, none, some (.int x4), some (.ref r5), some (.ref r6), none], [.ref r5, .int x4, .ref r6], h, 0, 0)) rfl ?_
  exact mWp_iv rfl rfl e2 (mS5 hc) rfl rfl rfl k
theorem b111_89 {h : mH} {Q : Option Value → mH → Prop}   (k : Q (some (.int (iZ (-12)))) h) : mWp mCd 111 (89, [none, none, none, none, none, none, none, none], [], h, 0, 0) Q := by
  refine mWp_run 1 (t' := (91, [none, none, none, none, none, none, none, none], [.int (iZ (-12))], h, 0, 0)) rfl ?_
  exact mWp_r (v := (some (.int (iZ (-12))))) rfl k
theorem b111_101 {h : mH} {Q : Option Value → mH → Prop} {x4 : Int32} {r5 : Nat} {r6 : Nat} {u0 : Int32} {u1 : Int32} {q2 : Nat}  (k : mCt mCd 118 [.ref q2, .int u1, .int u0] h (fun rv hv => mWp mCd 111 (104, [none, none, none, none, some (.int x4), some (.ref r5), some (.ref r6), none], rv.toList ++ [], hv, 0, 0) Q)) : mWp mCd 111 (101, [none, none, none, none, some (.int x4), some (.ref r5), some (.ref r6), none], [.int u0, .int u1, .ref q2], h, 0, 0) Q := by
  exact mWp_is rfl rfl rfl rfl rfl k
theorem b111_104 {h : mH} {Q : Option Value → mH → Prop} {x4 : Int32} {r5 : Nat} {r6 : Nat} {u0 : Int32}  (k1 : ¬ u0 = 0 → mWp mCd 111 (110, [none, none, none, none, some (.int x4), some (.ref r5), some (.ref r6), none], [], h, 0, 0) Q) (k2 : ¬ (¬ u0 = 0) → mWp mCd 111 (107, [none, none, none, none, none, none, none, none], [], h, 0, 0) Q) : mWp mCd 111 (104, [none, none, none, none, some (.int x4), some (.ref r5), some (.ref r6), none], [.int u0], h, 0, 0) Q := by
  exact mWp_if (P := fun x => ¬ x = 0) (a := u0) rfl k1 (fun q => mWp_weak (mLe_n (mLe_n (mLe_n (mLe_n (mLe_n (mLe_n (mLe_n (mLe_n mLe_0)))))))) (k2 q))
theorem b111_110 {h : mH} {Q : Option Value → mH → Prop} {x4 : Int32} {r5 : Nat} {r6 : Nat}  (k : mWp mCd 111 (113, [none, none, none, none, some (.int x4), some (.ref r5), some (.ref r6), some (.int (iZ 1))], [], h, 0, 0) Q) : mWp mCd 111 (110, [none, none, none, none, some (.int x4), some (.ref r5), some (.ref r6), none], [], h, 0, 0) Q := by
  refine mWp_run 2 (t' := (113, [none, none, none, none, some (.int x4), some (.ref r5), some (.ref r6), some (.int (iZ 1))], [], h, 0, 0)) rfl ?_
  exact k
theorem b111_107 {h : mH} {Q : Option Value → mH → Prop}   (k : Q (some (.int (iZ (-2)))) h) : mWp mCd 111 (107, [none, none, none, none, none, none, none, none], [], h, 0, 0) Q := by
  refine mWp_run 1 (t' := (109, [none, none, none, none, none, none, none, none], [.int (iZ (-2))], h, 0, 0)) rfl ?_
  exact mWp_r (v := (some (.int (iZ (-2))))) rfl k
theorem b111_113 {h : mH} {Q : Option Value → mH → Prop} {x4 : Int32} {r5 : Nat} {r6 : Nat} {x7 : Int32} {ci : Nat} {num : Int32} {n : Int32} {fd : Int32} (hc : [1, 2, 4, 6, 8].contains ci = true) (e2 : h[r5]? = some (oV ci r5 num n fd)) (k : mCt mCd 42 [.ref r5] h (fun rv hv => mWp mCd 111 (120, [none, none, none, none, some (.int x4), some (.ref r5), some (.ref r6), some (.int x7)], rv.toList ++ [.int x7], hv, 0, 0) Q)) : mWp mCd 111 (113, [none, none, none, none, some (.int x4), some (.ref r5), some (.ref r6), some (.int x7)], [], h, 0, 0) Q := by
  refine mWp_run 2 (t' := (117, [none, none, none, none, some (.int x4), some (.ref r5), some (.ref r6), some (.int x7)], [.ref r5, .int x7], h, 0, 0)) rfl ?_
  exact mWp_iv rfl rfl e2 (mS5 hc) rfl rfl rfl k
theorem b111_120 {h : mH} {Q : Option Value → mH → Prop} {x4 : Int32} {r5 : Nat} {r6 : Nat} {x7 : Int32} {u0 : Int32} {u1 : Int32}  (k1 : u0 < u1 → mWp mCd 111 (149, [none, none, none, none, none, none, none, none], [], h, 0, 0) Q) (k2 : ¬ (u0 < u1) → mWp mCd 111 (123, [none, none, none, none, some (.int x4), some (.ref r5), some (.ref r6), some (.int x7)], [], h, 0, 0) Q) : mWp mCd 111 (120, [none, none, none, none, some (.int x4), some (.ref r5), some (.ref r6), some (.int x7)], [.int u0, .int u1], h, 0, 0) Q := by
  exact mWp_ic (P := fun x y => y < x) (a := u1) (b := u0) rfl (fun q => mWp_weak (mLe_n (mLe_n (mLe_n (mLe_n (mLe_n (mLe_n (mLe_n (mLe_n mLe_0)))))))) (k1 q)) k2
theorem b111_149 {h : mH} {Q : Option Value → mH → Prop}   (k : Q (some (.int (iZ 1))) h) : mWp mCd 111 (149, [none, none, none, none, none, none, none, none], [], h, 0, 0) Q := by
  refine mWp_run 1 (t' := (150, [none, none, none, none, none, none, none, none], [.int (iZ 1)], h, 0, 0)) rfl ?_
  exact mWp_r (v := (some (.int (iZ 1)))) rfl k
theorem b111_123 {h : mH} {Q : Option Value → mH → Prop} {x4 : Int32} {r5 : Nat} {r6 : Nat} {x7 : Int32} {so : Int32} (e1 : h[r6]? = some (oS r6 so)) (k : mCt mCd 35 [.ref r6, .int ((x4 + x7) - (iZ 1))] h (fun rv hv => mWp mCd 111 (139, [none, none, none, none, some (.int x4), some (.ref r5), some (.ref r6), some (.int x7)], rv.toList ++ [.int x7, .ref r5], hv, 0, 0) Q)) : mWp mCd 111 (123, [none, none, none, none, some (.int x4), some (.ref r5), some (.ref r6), some (.int x7)], [], h, 0, 0) Q := by
  refine mWp_run 8 (t' := (136, [none, none, none, none, some (.int x4), some (.ref r5), some (.ref r6), some (.int x7)], [.int ((x4 + x7) - (iZ 1)), .ref r6, .int x7, .ref r5], h, 0, 0)) rfl ?_
  exact mWp_iv rfl rfl e1 rfl rfl rfl rfl k
theorem b111_139 {h : mH} {Q : Option Value → mH → Prop} {x4 : Int32} {r5 : Nat} {r6 : Nat} {x7 : Int32} {w0 : Int64} {u1 : Int32} {q2 : Nat} {ci : Nat} {num : Int32} {n : Int32} {fd : Int32} (hc : [1, 2, 4, 6, 8].contains ci = true) (e2 : h[q2]? = some (oV ci q2 num n fd)) (k : mCt mCd 48 [.ref q2, .int u1, .int (Int64.toInt32 w0)] h (fun rv hv => mWp mCd 111 (143, [none, none, none, none, some (.int x4), some (.ref r5), some (.ref r6), some (.int x7)], rv.toList ++ [], hv, 0, 0) Q)) : mWp mCd 111 (139, [none, none, none, none, some (.int x4), some (.ref r5), some (.ref r6), some (.int x7)], [.long w0, .int u1, .ref q2], h, 0, 0) Q := by
  refine mWp_run 1 (t' := (140, [none, none, none, none, some (.int x4), some (.ref r5), some (.ref r6), some (.int x7)], [.int (Int64.toInt32 w0), .int u1, .ref q2], h, 0, 0)) rfl ?_
  exact mWp_iv rfl rfl e2 (mS5 hc) rfl rfl rfl k
theorem b111_143 {h : mH} {Q : Option Value → mH → Prop} {x4 : Int32} {r5 : Nat} {r6 : Nat} {x7 : Int32}  (k : mWp mCd 111 (113, [none, none, none, none, some (.int x4), some (.ref r5), some (.ref r6), some (.int (x7 + iZ 1))], [], h, 0, 0) Q) : mWp mCd 111 (143, [none, none, none, none, some (.int x4), some (.ref r5), some (.ref r6), some (.int x7)], [], h, 0, 0) Q := by
  refine mWp_run 2 (t' := (113, [none, none, none, none, some (.int x4), some (.ref r5), some (.ref r6), some (.int (x7 + iZ 1))], [], h, 0, 0)) rfl ?_
  exact k
theorem b112_0 {h : mH} {Q : Option Value → mH → Prop} {x1 : Int32} {x2 : Int32} {x3 : Int32} {x4 : Int32} {x5 : Int32} {vc : Int32} (e1 : h[5]? = some (oJ vc)) (k : mCt mCd 123 [.ref 5, .int x1] h (fun rv hv => mWp mCd 112 (5, [some (.ref 5), some (.int x1), some (.int x2), some (.int x3), some (.int x4), some (.int x5), none, none], rv.toList ++ [], hv, 0, 0) Q)) : mWp mCd 112 (0, [some (.ref 5), some (.int x1), some (.int x2), some (.int x3), some (.int x4), some (.int x5), none, none], [], h, 0, 0) Q := by
  refine mWp_run 2 (t' := (2, [some (.ref 5), some (.int x1), some (.int x2), some (.int x3), some (.int x4), some (.int x5), none, none], [.int x1, .ref 5], h, 0, 0)) rfl ?_
  exact mWp_iv rfl rfl e1 rfl rfl rfl rfl k
theorem b112_5 {h : mH} {Q : Option Value → mH → Prop} {x1 : Int32} {x2 : Int32} {x3 : Int32} {x4 : Int32} {x5 : Int32} {u0 : Int32}  (k1 : u0 = 0 → mWp mCd 112 (16, [none, none, none, none, none, none, none, none], [], h, 0, 0) Q) (k2 : ¬ (u0 = 0) → mWp mCd 112 (8, [some (.ref 5), some (.int x1), some (.int x2), some (.int x3), some (.int x4), some (.int x5), none, none], [], h, 0, 0) Q) : mWp mCd 112 (5, [some (.ref 5), some (.int x1), some (.int x2), some (.int x3), some (.int x4), some (.int x5), none, none], [.int u0], h, 0, 0) Q := by
  exact mWp_if (P := fun x => x = 0) (a := u0) rfl (fun q => mWp_weak (mLe_n (mLe_n (mLe_n (mLe_n (mLe_n (mLe_n (mLe_n (mLe_n mLe_0)))))))) (k1 q)) k2
theorem b112_16 {h : mH} {Q : Option Value → mH → Prop}   (k : Q (some (.int (iZ (-2)))) h) : mWp mCd 112 (16, [none, none, none, none, none, none, none, none], [], h, 0, 0) Q := by
  refine mWp_run 1 (t' := (18, [none, none, none, none, none, none, none, none], [.int (iZ (-2))], h, 0, 0)) rfl ?_
  exact mWp_r (v := (some (.int (iZ (-2))))) rfl k
theorem b112_8 {h : mH} {Q : Option Value → mH → Prop} {x1 : Int32} {x2 : Int32} {x3 : Int32} {x4 : Int32} {x5 : Int32} {vc : Int32} (e1 : h[5]? = some (oJ vc)) (k : mCt mCd 123 [.ref 5, .int x3] h (fun rv hv => mWp mCd 112 (13, [some (.ref 5), some (.int x1), some (.int x2), some (.int x3), some (.int x4), some (.int x5), none, none], rv.toList ++ [], hv, 0, 0) Q)) : mWp mCd 112 (8, [some (.ref 5), some (.int x1), some (.int x2), some (.int x3), some (.int x4), some (.int x5), none, none], [], h, 0, 0) Q := by
  refine mWp_run 2 (t' := (10, [some (.ref 5), some (.int x1), some (.int x2), some (.int x3), some (.int x4), some (.int x5), none, none], [.int x3, .ref 5], h, 0, 0)) rfl ?_
  exact mWp_iv rfl rfl e1 rfl rfl rfl rfl k
theorem b112_13 {h : mH} {Q : Option Value → mH → Prop} {x1 : Int32} {x2 : Int32} {x3 : Int32} {x4 : Int32} {x5 : Int32} {u0 : Int32}  (k1 : ¬ u0 = 0 → mWp mCd 112 (19, [some (.ref 5), some (.int x1), some (.int x2), some (.int x3), some (.int x4), some (.int x5), none, none], [], h, 0, 0) Q) (k2 : ¬ (¬ u0 = 0) → mWp mCd 112 (16, [none, none, none, none, none, none, none, none], [], h, 0, 0) Q) : mWp mCd 112 (13, [some (.ref 5), some (.int x1), some (.int x2), some (.int x3), some (.int x4), some (.int x5), none, none], [.int u0], h, 0, 0) Q := by
  exact mWp_if (P := fun x => ¬ x = 0) (a := u0) rfl k1 (fun q => mWp_weak (mLe_n (mLe_n (mLe_n (mLe_n (mLe_n (mLe_n (mLe_n (mLe_n mLe_0)))))))) (k2 q))
theorem b112_19nn {h : mH} {Q : Option Value → mH → Prop} {x1 : Int32} {x2 : Int32} {x3 : Int32} {x4 : Int32} {x5 : Int32} {vc : Int32} {g101 : Nat → Option Nat} (e1 : h[5]? = some (oJ vc)) (e2 : h[13]? = some (aR 3 4 g101)) (e3 : ¬ (x1 < 0 ∨ 4 ≤ x1.toNatClampNeg)) (e4 : g101 x1.toNatClampNeg = none) (e5 : ¬ (x3 < 0 ∨ 4 ≤ x3.toNatClampNeg)) (e6 : g101 x3.toNatClampNeg = none) (k : Q (some (.int (iZ (-11)))) h) : mWp mCd 112 (19, [some (.ref 5), some (.int x1), some (.int x2), some (.int x3), some (.int x4), some (.int x5), none, none], [], h, 0, 0) Q := by
  refine mWp_run 1 (t' := (20, [some (.ref 5), some (.int x1), some (.int x2), some (.int x3), some (.int x4), some (.int x5), none, none], [.ref 5], h, 0, 0)) rfl ?_
  refine mWp_gf rfl e1 rfl rfl ?_
  refine mWp_run 1 (t' := (24, [some (.ref 5), some (.int x1), some (.int x2), some (.int x3), some (.int x4), some (.int x5), none, none], [.int x1, .ref 13], h, 0, 0)) rfl ?_
  refine mWp_aal rfl (by decide) e2 e3 (congrArg va_rf e4) ?_
  refine mWp_run 2 (t' := (28, [some (.ref 5), some (.int x1), some (.int x2), some (.int x3), some (.int x4), some (.int x5), some (.null), none], [.ref 5], h, 0, 0)) rfl ?_
  refine mWp_gf rfl e1 rfl rfl ?_
  refine mWp_run 1 (t' := (32, [some (.ref 5), some (.int x1), some (.int x2), some (.int x3), some (.int x4), some (.int x5), some (.null), none], [.int x3, .ref 13], h, 0, 0)) rfl ?_
  refine mWp_aal rfl (by decide) e2 e5 (congrArg va_rf e6) ?_
  refine mWp_run 4 (t' := (47, [some (.ref 5), some (.int x1), some (.int x2), some (.int x3), some (.int x4), some (.int x5), some (.null), some (.null)], [.int (iZ (-11))], h, 0, 0)) rfl ?_
  exact mWp_r (v := (some (.int (iZ (-11))))) rfl k
theorem b112_19nr {h : mH} {Q : Option Value → mH → Prop} {x1 : Int32} {x2 : Int32} {x3 : Int32} {x4 : Int32} {x5 : Int32} {vc : Int32} {g101 : Nat → Option Nat} {q102 : Nat} (e1 : h[5]? = some (oJ vc)) (e2 : h[13]? = some (aR 3 4 g101)) (e3 : ¬ (x1 < 0 ∨ 4 ≤ x1.toNatClampNeg)) (e4 : g101 x1.toNatClampNeg = none) (e5 : ¬ (x3 < 0 ∨ 4 ≤ x3.toNatClampNeg)) (e6 : g101 x3.toNatClampNeg = some q102) (k : Q (some (.int (iZ (-11)))) h) : mWp mCd 112 (19, [some (.ref 5), some (.int x1), some (.int x2), some (.int x3), some (.int x4), some (.int x5), none, none], [], h, 0, 0) Q := by
  refine mWp_run 1 (t' := (20, [some (.ref 5), some (.int x1), some (.int x2), some (.int x3), some (.int x4), some (.int x5), none, none], [.ref 5], h, 0, 0)) rfl ?_
  refine mWp_gf rfl e1 rfl rfl ?_
  refine mWp_run 1 (t' := (24, [some (.ref 5), some (.int x1), some (.int x2), some (.int x3), some (.int x4), some (.int x5), none, none], [.int x1, .ref 13], h, 0, 0)) rfl ?_
  refine mWp_aal rfl (by decide) e2 e3 (congrArg va_rf e4) ?_
  refine mWp_run 2 (t' := (28, [some (.ref 5), some (.int x1), some (.int x2), some (.int x3), some (.int x4), some (.int x5), some (.null), none], [.ref 5], h, 0, 0)) rfl ?_
  refine mWp_gf rfl e1 rfl rfl ?_
  refine mWp_run 1 (t' := (32, [some (.ref 5), some (.int x1), some (.int x2), some (.int x3), some (.int x4), some (.int x5), some (.null), none], [.int x3, .ref 13], h, 0, 0)) rfl ?_
  refine mWp_aal rfl (by decide) e2 e5 (congrArg va_rf e6) ?_
  refine mWp_run 4 (t' := (47, [some (.ref 5), some (.int x1), some (.int x2), some (.int x3), some (.int x4), some (.int x5), some (.null), some (.ref q102)], [.int (iZ (-11))], h, 0, 0)) rfl ?_
  exact mWp_r (v := (some (.int (iZ (-11))))) rfl k
theorem b112_19rn {h : mH} {Q : Option Value → mH → Prop} {x1 : Int32} {x2 : Int32} {x3 : Int32} {x4 : Int32} {x5 : Int32} {vc : Int32} {g101 : Nat → Option Nat} {q102 : Nat} (e1 : h[5]? = some (oJ vc)) (e2 : h[13]? = some (aR 3 4 g101)) (e3 : ¬ (x1 < 0 ∨ 4 ≤ x1.toNatClampNeg)) (e4 : g101 x1.toNatClampNeg = some q102) (e5 : ¬ (x3 < 0 ∨ 4 ≤ x3.toNatClampNeg)) (e6 : g101 x3.toNatClampNeg = none) (k : Q (some (.int (iZ (-11)))) h) : mWp mCd 112 (19, [some (.ref 5), some (.int x1), some (.int x2), some (.int x3), some (.int x4), some (.int x5), none, none], [], h, 0, 0) Q := by
  refine mWp_run 1 (t' := (20, [some (.ref 5), some (.int x1), some (.int x2), some (.int x3), some (.int x4), some (.int x5), none, none], [.ref 5], h, 0, 0)) rfl ?_
  refine mWp_gf rfl e1 rfl rfl ?_
  refine mWp_run 1 (t' := (24, [some (.ref 5), some (.int x1), some (.int x2), some (.int x3), some (.int x4), some (.int x5), none, none], [.int x1, .ref 13], h, 0, 0)) rfl ?_
  refine mWp_aal rfl (by decide) e2 e3 (congrArg va_rf e4) ?_
  refine mWp_run 2 (t' := (28, [some (.ref 5), some (.int x1), some (.int x2), some (.int x3), some (.int x4), some (.int x5), some (.ref q102), none], [.ref 5], h, 0, 0)) rfl ?_
  refine mWp_gf rfl e1 rfl rfl ?_
  refine mWp_run 1 (t' := (32, [some (.ref 5), some (.int x1), some (.int x2), some (.int x3), some (.int x4), some (.int x5), some (.ref q102), none], [.int x3, .ref 13], h, 0, 0)) rfl ?_
  refine mWp_aal rfl (by decide) e2 e5 (congrArg va_rf e6) ?_
  refine mWp_run 6 (t' := (47, [some (.ref 5), some (.int x1), some (.int x2), some (.int x3), some (.int x4), some (.int x5), some (.ref q102), some (.null)], [.int (iZ (-11))], h, 0, 0)) rfl ?_
  exact mWp_r (v := (some (.int (iZ (-11))))) rfl k
theorem b112_19rr {h : mH} {Q : Option Value → mH → Prop} {x1 : Int32} {x2 : Int32} {x3 : Int32} {x4 : Int32} {x5 : Int32} {vc : Int32} {g101 : Nat → Option Nat} {q102 : Nat} {q103 : Nat} {so : Int32} {so3 : Int32} (e1 : h[5]? = some (oJ vc)) (e2 : h[13]? = some (aR 3 4 g101)) (e3 : ¬ (x1 < 0 ∨ 4 ≤ x1.toNatClampNeg)) (e4 : g101 x1.toNatClampNeg = some q102) (e5 : ¬ (x3 < 0 ∨ 4 ≤ x3.toNatClampNeg)) (e6 : g101 x3.toNatClampNeg = some q103) (e7 : h[q102]? = some (oS q102 so)) (e8 : h[q103]? = some (oS q103 so3)) (k1 : so = so3 → mWp mCd 112 (64, [none, none, some (.int x2), none, some (.int x4), some (.int x5), some (.ref q102), some (.ref q103)], [], h, 0, 0) Q) (k2 : ¬ (so = so3) → mWp mCd 112 (61, [none, none, none, none, none, none, none, none], [], h, 0, 0) Q) : mWp mCd 112 (19, [some (.ref 5), some (.int x1), some (.int x2), some (.int x3), some (.int x4), some (.int x5), none, none], [], h, 0, 0) Q := by
  refine mWp_run 1 (t' := (20, [some (.ref 5), some (.int x1), some (.int x2), some (.int x3), some (.int x4), some (.int x5), none, none], [.ref 5], h, 0, 0)) rfl ?_
  refine mWp_gf rfl e1 rfl rfl ?_
  refine mWp_run 1 (t' := (24, [some (.ref 5), some (.int x1), some (.int x2), some (.int x3), some (.int x4), some (.int x5), none, none], [.int x1, .ref 13], h, 0, 0)) rfl ?_
  refine mWp_aal rfl (by decide) e2 e3 (congrArg va_rf e4) ?_
  refine mWp_run 2 (t' := (28, [some (.ref 5), some (.int x1), some (.int x2), some (.int x3), some (.int x4), some (.int x5), some (.ref q102), none], [.ref 5], h, 0, 0)) rfl ?_
  refine mWp_gf rfl e1 rfl rfl ?_
  refine mWp_run 1 (t' := (32, [some (.ref 5), some (.int x1), some (.int x2), some (.int x3), some (.int x4), some (.int x5), some (.ref q102), none], [.int x3, .ref 13], h, 0, 0)) rfl ?_
  refine mWp_aal rfl (by decide) e2 e5 (congrArg va_rf e6) ?_
  refine mWp_run 6 (t' := (50, [some (.ref 5), some (.int x1), some (.int x2), some (.int x3), some (.int x4), some (.int x5), some (.ref q102), some (.ref q103)], [.ref q102], h, 0, 0)) rfl ?_
  refine mWp_gf rfl e7 rfl rfl ?_
  refine mWp_run 1 (t' := (55, [some (.ref 5), some (.int x1), some (.int x2), some (.int x3), some (.int x4), some (.int x5), some (.ref q102), some (.ref q103)], [.ref q103, .int so], h, 0, 0)) rfl ?_
  refine mWp_gf rfl e8 rfl rfl ?_
  exact mWp_ic (P := fun x y => x = y) (a := so) (b := so3) rfl (fun q => mWp_weak (mLe_n (mLe_n (mLe_s (mLe_n (mLe_s (mLe_s (mLe_s (mLe_s mLe_0)))))))) (k1 q)) (fun q => mWp_weak (mLe_n (mLe_n (mLe_n (mLe_n (mLe_n (mLe_n (mLe_n (mLe_n mLe_0)))))))) (k2 q))
theorem b112_64 {h : mH} {Q : Option Value → mH → Prop} {x2 : Int32} {x4 : Int32} {x5 : Int32} {r6 : Nat} {r7 : Nat} {so : Int32} (e1 : h[r6]? = some (oS r6 so)) (k : mCt mCd 34 [.ref r6, .int x2, .int x5] h (fun rv hv => mWp mCd 112 (72, [none, none, some (.int x2), none, some (.int x4), some (.int x5), some (.ref r6), some (.ref r7)], rv.toList ++ [], hv, 0, 0) Q)) : mWp mCd 112 (64, [none, none, some (.int x2), none, some (.int x4), some (.int x5), some (.ref r6), some (.ref r7)], [], h, 0, 0) Q := by
  refine mWp_run 3 (t' := (69, [none, none, some (.int x2), none, some (.int x4), some (.int x5), some (.ref r6), some (.ref r7)], [.int x5, .int x2, .ref r6], h, 0, 0)) rfl ?_
  exact mWp_iv rfl rfl e1 rfl rfl rfl rfl k
theorem b112_61 {h : mH} {Q : Option Value → mH → Prop}   (k : Q (some (.int (iZ (-13)))) h) : mWp mCd 112 (61, [none, none, none, none, none, none, none, none], [], h, 0, 0) Q := by
  refine mWp_run 1 (t' := (63, [none, none, none, none, none, none, none, none], [.int (iZ (-13))], h, 0, 0)) rfl ?_
  exact mWp_r (v := (some (.int (iZ (-13))))) rfl k
theorem b112_72 {h : mH} {Q : Option Value → mH → Prop} {x2 : Int32} {x4 : Int32} {x5 : Int32} {r6 : Nat} {r7 : Nat} {u0 : Int32}  (k1 : u0 = 0 → mWp mCd 112 (87, [none, none, none, none, none, none, none, none], [], h, 0, 0) Q) (k2 : ¬ (u0 = 0) → mWp mCd 112 (75, [none, none, some (.int x2), none, some (.int x4), some (.int x5), some (.ref r6), some (.ref r7)], [], h, 0, 0) Q) : mWp mCd 112 (72, [none, none, some (.int x2), none, some (.int x4), some (.int x5), some (.ref r6), some (.ref r7)], [.int u0], h, 0, 0) Q := by
  exact mWp_if (P := fun x => x = 0) (a := u0) rfl (fun q => mWp_weak (mLe_n (mLe_n (mLe_n (mLe_n (mLe_n (mLe_n (mLe_n (mLe_n mLe_0)))))))) (k1 q)) k2
theorem b112_87 {h : mH} {Q : Option Value → mH → Prop}   (k : Q (some (.int (iZ (-12)))) h) : mWp mCd 112 (87, [none, none, none, none, none, none, none, none], [], h, 0, 0) Q := by
  refine mWp_run 1 (t' := (89, [none, none, none, none, none, none, none, none], [.int (iZ (-12))], h, 0, 0)) rfl ?_
  exact mWp_r (v := (some (.int (iZ (-12))))) rfl k
theorem b112_75 {h : mH} {Q : Option Value → mH → Prop} {x2 : Int32} {x4 : Int32} {x5 : Int32} {r6 : Nat} {r7 : Nat} {so : Int32} (e1 : h[r7]? = some (oS r7 so)) (k : mCt mCd 34 [.ref r7, .int x4, .int x5] h (fun rv hv => mWp mCd 112 (84, [none, none, some (.int x2), none, some (.int x4), some (.int x5), some (.ref r6), some (.ref r7)], rv.toList ++ [], hv, 0, 0) Q)) : mWp mCd 112 (75, [none, none, some (.int x2), none, some (.int x4), some (.int x5), some (.ref r6), some (.ref r7)], [], h, 0, 0) Q := by
  refine mWp_run 3 (t' := (81, [none, none, some (.int x2), none, some (.int x4), some (.int x5), some (.ref r6), some (.ref r7)], [.int x5, .int x4, .ref r7], h, 0, 0)) rfl ?_
  exact mWp_iv rfl rfl e1 rfl rfl rfl rfl k
theorem b112_84 {h : mH} {Q : Option Value → mH → Prop} {x2 : Int32} {x4 : Int32} {x5 : Int32} {r6 : Nat} {r7 : Nat} {u0 : Int32}  (k1 : ¬ u0 = 0 → mWp mCd 112 (90, [none, none, some (.int x2), none, some (.int x4), some (.int x5), some (.ref r6), some (.ref r7)], [], h, 0, 0) Q) (k2 : ¬ (¬ u0 = 0) → mWp mCd 112 (87, [none, none, none, none, none, none, none, none], [], h, 0, 0) Q) : mWp mCd 112 (84, [none, none, some (.int x2), none, some (.int x4), some (.int x5), some (.ref r6), some (.ref r7)], [.int u0], h, 0, 0) Q := by
  exact mWp_if (P := fun x => ¬ x = 0) (a := u0) rfl k1 (fun q => mWp_weak (mLe_n (mLe_n (mLe_n (mLe_n (mLe_n (mLe_n (mLe_n (mLe_n mLe_0)))))))) (k2 q))
theorem b112_90 {h : mH} {Q : Option Value → mH → Prop} {x2 : Int32} {x4 : Int32} {x5 : Int32} {r6 : Nat} {r7 : Nat} {so : Int32} {so1 : Int32} {len101 : Nat} {g102 : Nat → Int64} {len103 : Nat} {g104 : Nat → Int64} (e1 : h[r6]? = some (oS r6 so)) (e2 : h[r7]? = some (oS r7 so1)) (e3 : h[((r6 + 1))]? = some (aL len101 g102)) (e4 : h[((r7 + 1))]? = some (aL len103 g104)) (e5 : 5 ≤ (r6 + 1)) (e6 : 5 ≤ (r7 + 1)) (e7 : ¬ (x2 < 0 ∨ x4 < 0 ∨ x5 < 0 ∨ ¬ (x2.toNatClampNeg + x5.toNatClampNeg ≤ len101 ∧ x4.toNatClampNeg + x5.toNatClampNeg ≤ len103))) (k : Q (some (.int x5)) (h.set (r7 + 1) (aL len103 (va_cpy g102 g104 x2.toNatClampNeg x4.toNatClampNeg x5.toNatClampNeg)))) : mWp mCd 112 (90, [none, none, some (.int x2), none, some (.int x4), some (.int x5), some (.ref r6), some (.ref r7)], [], h, 0, 0) Q := by
  refine mWp_run 1 (t' := (92, [none, none, some (.int x2), none, some (.int x4), some (.int x5), some (.ref r6), some (.ref r7)], [.ref r6], h, 0, 0)) rfl ?_
  refine mWp_gf rfl e1 rfl rfl ?_
  refine mWp_run 2 (t' := (98, [none, none, some (.int x2), none, some (.int x4), some (.int x5), some (.ref r6), some (.ref r7)], [.ref r7, .int x2, .ref (r6 + 1)], h, 0, 0)) rfl ?_
  refine mWp_gf rfl e2 rfl rfl ?_
  refine mWp_run 2 (t' := (105, [none, none, some (.int x2), none, some (.int x4), some (.int x5), some (.ref r6), some (.ref r7)], [.int x5, .int x4, .ref (r7 + 1), .int x2, .ref (r6 + 1)], h, 0, 0)) rfl ?_
  refine mWp_cpl rfl e5 e6 e3 e4 rfl e7 ?_
  show mWp mCd 112 (108, [none, none, some (.int x2), none, some (.int x4), some (.int x5), some (.ref r6), some (.ref r7)], [], (h.set (r7 + 1) (aL len103 (va_cpy g102 g104 x2.toNatClampNeg x4.toNatClampNeg x5.toNatClampNeg))), 0, 0) Q
  refine mWp_run 1 (t' := (110, [none, none, some (.int x2), none, some (.int x4), some (.int x5), some (.ref r6), some (.ref r7)], [.int x5], (h.set (r7 + 1) (aL len103 (va_cpy g102 g104 x2.toNatClampNeg x4.toNatClampNeg x5.toNatClampNeg))), 0, 0)) rfl ?_
  exact mWp_r (v := (some (.int x5))) rfl k
theorem b113_0 {h : mH} {Q : Option Value → mH → Prop} {x1 : Int32} {x2 : Int32}  (k1 : x2 < 0 → mWp mCd 113 (9, [none, none, none, none], [], h, 0, 0) Q) (k2 : ¬ (x2 < 0) → mWp mCd 113 (4, [some (.ref 5), some (.int x1), some (.int x2), none], [], h, 0, 0) Q) : mWp mCd 113 (0, [some (.ref 5), some (.int x1), some (.int x2), none], [], h, 0, 0) Q := by
  refine mWp_run 1 (t' := (1, [some (.ref 5), some (.int x1), some (.int x2), none], [.int x2], h, 0, 0)) rfl ?_
  exact mWp_if (P := fun x => x < 0) (a := x2) rfl (fun q => mWp_weak (mLe_n (mLe_n (mLe_n (mLe_n mLe_0)))) (k1 q)) k2
theorem b113_9 {h : mH} {Q : Option Value → mH → Prop}   (k : Q (some (.int (iZ (-2)))) h) : mWp mCd 113 (9, [none, none, none, none], [], h, 0, 0) Q := by
  refine mWp_run 1 (t' := (11, [none, none, none, none], [.int (iZ (-2))], h, 0, 0)) rfl ?_
  exact mWp_r (v := (some (.int (iZ (-2))))) rfl k
theorem b113_4 {h : mH} {Q : Option Value → mH → Prop} {x1 : Int32} {x2 : Int32}  (k1 : x2 ≤ (iZ 4) → mWp mCd 113 (12, [some (.ref 5), some (.int x1), some (.int x2), none], [], h, 0, 0) Q) (k2 : ¬ (x2 ≤ (iZ 4)) → mWp mCd 113 (9, [none, none, none, none], [], h, 0, 0) Q) : mWp mCd 113 (4, [some (.ref 5), some (.int x1), some (.int x2), none], [], h, 0, 0) Q := by
  refine mWp_run 2 (t' := (6, [some (.ref 5), some (.int x1), some (.int x2), none], [.int (iZ 4), .int x2], h, 0, 0)) rfl ?_
  exact mWp_ic (P := fun x y => x ≤ y) (a := x2) (b := iZ 4) rfl k1 (fun q => mWp_weak (mLe_n (mLe_n (mLe_n (mLe_n mLe_0)))) (k2 q))
theorem b113_12 {h : mH} {Q : Option Value → mH → Prop} {x1 : Int32} {x2 : Int32} {vc : Int32} (e1 : h[5]? = some (oJ vc)) (k : mCt mCd 114 [.ref 5, .int x1] h (fun rv hv => mWp mCd 113 (17, [none, none, some (.int x2), none], rv.toList ++ [], hv, 0, 0) Q)) : mWp mCd 113 (12, [some (.ref 5), some (.int x1), some (.int x2), none], [], h, 0, 0) Q := by
  refine mWp_run 2 (t' := (14, [some (.ref 5), some (.int x1), some (.int x2), none], [.int x1, .ref 5], h, 0, 0)) rfl ?_
  exact mWp_iv rfl rfl e1 rfl rfl rfl rfl (mCt_mono k (fun rv hv y => mWp_weak (mLe_n (mLe_n (mLe_s (mLe_n mLe_0)))) y))
theorem b113_17 {h : mH} {Q : Option Value → mH → Prop} {x2 : Int32}  (k : Q (some (.int (iZ (-11)))) h) : mWp mCd 113 (17, [none, none, some (.int x2), none], [.null], h, 0, 0) Q := by
  refine mWp_run 4 (t' := (24, [none, none, some (.int x2), some (.null)], [.int (iZ (-11))], h, 0, 0)) rfl ?_
  exact mWp_r (v := (some (.int (iZ (-11))))) rfl k
theorem b113_17_1 {h : mH} {Q : Option Value → mH → Prop} {x2 : Int32} {q0 : Nat}  (k1 : x2 = 0 → mWp mCd 113 (37, [none, none, none, some (.ref q0)], [], h, 0, 0) Q) (k2 : ¬ (x2 = 0) → mWp mCd 113 (29, [none, none, some (.int x2), some (.ref q0)], [], h, 0, 0) Q) : mWp mCd 113 (17, [none, none, some (.int x2), none], [.ref q0], h, 0, 0) Q := by
  refine mWp_run 4 (t' := (26, [none, none, some (.int x2), some (.ref q0)], [.int x2], h, 0, 0)) rfl ?_
  exact mWp_if (P := fun x => x = 0) (a := x2) rfl (fun q => mWp_weak (mLe_n (mLe_n (mLe_n (mLe_s mLe_0)))) (k1 q)) k2
theorem b113_37 {h : mH} {Q : Option Value → mH → Prop} {r3 : Nat} {ci : Nat} {num : Int32} {n : Int32} {fd : Int32} (hc : [1, 2, 4, 6, 8].contains ci = true) (e2 : h[r3]? = some (oV ci r3 num n fd)) (k : Q (some (.int n)) h) : mWp mCd 113 (37, [none, none, none, some (.ref r3)], [], h, 0, 0) Q := by
  refine mWp_run 1 (t' := (38, [none, none, none, some (.ref r3)], [.ref r3], h, 0, 0)) rfl ?_
  refine mWp_gf rfl e2 hc rfl ?_
  refine mWp_run 1 (t' := (46, [none, none, none, some (.ref r3)], [.int n], h, 0, 0)) rfl ?_
  exact mWp_r (v := (some (.int n))) rfl k
theorem b113_29 {h : mH} {Q : Option Value → mH → Prop} {x2 : Int32} {r3 : Nat} {ci : Nat} {num : Int32} {n : Int32} {fd : Int32} {k101 : Nat} (hc : [1, 2, 4, 6, 8].contains ci = true) (e2 : h[r3]? = some (oV ci r3 num n fd)) (e3 : mSel [(1, 15, 0, 0), (2, 18, 0, 0), (4, 31, 0, 0), (6, 38, 0, 0), (8, 75, 0, 0)] ci = some (k101, 0, 0)) (k : mCt mCd k101 [.ref r3] h (fun rv hv => mWp mCd 113 (34, [none, none, none, some (.ref r3)], rv.toList ++ [.int x2], hv, 0, 0) Q)) : mWp mCd 113 (29, [none, none, some (.int x2), some (.ref r3)], [], h, 0, 0) Q := by
  refine mWp_run 2 (t' := (31, [none, none, some (.int x2), some (.ref r3)], [.ref r3, .int x2], h, 0, 0)) rfl ?_
  exact mWp_iv rfl rfl e2 e3 rfl rfl rfl (mCt_mono k (fun rv hv y => mWp_weak (mLe_n (mLe_n (mLe_n (mLe_s mLe_0)))) y))
theorem b113_34 {h : mH} {Q : Option Value → mH → Prop} {r3 : Nat} {u0 : Int32} {u1 : Int32}  (k1 : ¬ u1 = u0 → mWp mCd 113 (44, [none, none, none, none], [], h, 0, 0) Q) (k2 : ¬ (¬ u1 = u0) → mWp mCd 113 (37, [none, none, none, some (.ref r3)], [], h, 0, 0) Q) : mWp mCd 113 (34, [none, none, none, some (.ref r3)], [.int u0, .int u1], h, 0, 0) Q := by
  exact mWp_ic (P := fun x y => ¬ x = y) (a := u1) (b := u0) rfl (fun q => mWp_weak (mLe_n (mLe_n (mLe_n (mLe_n mLe_0)))) (k1 q)) k2
theorem b113_44 {h : mH} {Q : Option Value → mH → Prop}   (k : Q (some (.int (iZ (-13)))) h) : mWp mCd 113 (44, [none, none, none, none], [], h, 0, 0) Q := by
  refine mWp_run 1 (t' := (46, [none, none, none, none], [.int (iZ (-13))], h, 0, 0)) rfl ?_
  exact mWp_r (v := (some (.int (iZ (-13))))) rfl k
theorem b114_0 {h : mH} {Q : Option Value → mH → Prop} {x1 : Int32}  (k1 : x1 < 0 → mWp mCd 114 (21, [none, none], [], h, 0, 0) Q) (k2 : ¬ (x1 < 0) → mWp mCd 114 (4, [some (.ref 5), some (.int x1)], [], h, 0, 0) Q) : mWp mCd 114 (0, [some (.ref 5), some (.int x1)], [], h, 0, 0) Q := by
  refine mWp_run 1 (t' := (1, [some (.ref 5), some (.int x1)], [.int x1], h, 0, 0)) rfl ?_
  exact mWp_if (P := fun x => x < 0) (a := x1) rfl (fun q => mWp_weak (mLe_n (mLe_n mLe_0)) (k1 q)) k2
theorem b114_21 {h : mH} {Q : Option Value → mH → Prop}   (k : Q (some (.null)) h) : mWp mCd 114 (21, [none, none], [], h, 0, 0) Q := by
  refine mWp_run 2 (t' := (31, [none, none], [.null], h, 0, 0)) rfl ?_
  exact mWp_r (v := (some (.null))) rfl k
theorem b114_4 {h : mH} {Q : Option Value → mH → Prop} {x1 : Int32} {vc : Int32} (e1 : h[5]? = some (oJ vc)) (k1 : vc ≤ x1 → mWp mCd 114 (21, [none, none], [], h, 0, 0) Q) (k2 : ¬ (vc ≤ x1) → mWp mCd 114 (12, [some (.ref 5), some (.int x1)], [], h, 0, 0) Q) : mWp mCd 114 (4, [some (.ref 5), some (.int x1)], [], h, 0, 0) Q := by
  refine mWp_run 2 (t' := (6, [some (.ref 5), some (.int x1)], [.ref 5, .int x1], h, 0, 0)) rfl ?_
  refine mWp_gf rfl e1 rfl rfl ?_
  exact mWp_ic (P := fun x y => y ≤ x) (a := x1) (b := vc) rfl (fun q => mWp_weak (mLe_n (mLe_n mLe_0)) (k1 q)) k2
theorem b114_12 {h : mH} {Q : Option Value → mH → Prop} {x1 : Int32} {vc : Int32} {g101 : Nat → Option Nat} (e1 : h[5]? = some (oJ vc)) (e2 : h[6]? = some (aR 2 10 g101)) (k1 : x1 < (Int32.ofNat 10) → mWp mCd 114 (25, [some (.ref 5), some (.int x1)], [], h, 0, 0) Q) (k2 : ¬ (x1 < (Int32.ofNat 10)) → mWp mCd 114 (21, [none, none], [], h, 0, 0) Q) : mWp mCd 114 (12, [some (.ref 5), some (.int x1)], [], h, 0, 0) Q := by
  refine mWp_run 2 (t' := (14, [some (.ref 5), some (.int x1)], [.ref 5, .int x1], h, 0, 0)) rfl ?_
  refine mWp_gf rfl e1 rfl rfl ?_
  refine mWp_aln rfl e2 (by decide) ?_
  exact mWp_ic (P := fun x y => x < y) (a := x1) (b := Int32.ofNat 10) rfl k1 (fun q => mWp_weak (mLe_n (mLe_n mLe_0)) (k2 q))
theorem b114_25n {h : mH} {Q : Option Value → mH → Prop} {x1 : Int32} {vc : Int32} {g101 : Nat → Option Nat} (e1 : h[5]? = some (oJ vc)) (e2 : h[6]? = some (aR 2 10 g101)) (e3 : ¬ (x1 < 0 ∨ 10 ≤ x1.toNatClampNeg)) (e4 : g101 x1.toNatClampNeg = none) (k : Q (some (.null)) h) : mWp mCd 114 (25, [some (.ref 5), some (.int x1)], [], h, 0, 0) Q := by
  refine mWp_run 1 (t' := (26, [some (.ref 5), some (.int x1)], [.ref 5], h, 0, 0)) rfl ?_
  refine mWp_gf rfl e1 rfl rfl ?_
  refine mWp_run 1 (t' := (30, [some (.ref 5), some (.int x1)], [.int x1, .ref 6], h, 0, 0)) rfl ?_
  refine mWp_aal rfl (by decide) e2 e3 (congrArg va_rf e4) ?_
  exact mWp_r (v := (some (.null))) rfl k
theorem b114_25r {h : mH} {Q : Option Value → mH → Prop} {x1 : Int32} {vc : Int32} {g101 : Nat → Option Nat} {q102 : Nat} (e1 : h[5]? = some (oJ vc)) (e2 : h[6]? = some (aR 2 10 g101)) (e3 : ¬ (x1 < 0 ∨ 10 ≤ x1.toNatClampNeg)) (e4 : g101 x1.toNatClampNeg = some q102) (k : Q (some (.ref q102)) h) : mWp mCd 114 (25, [some (.ref 5), some (.int x1)], [], h, 0, 0) Q := by
  refine mWp_run 1 (t' := (26, [some (.ref 5), some (.int x1)], [.ref 5], h, 0, 0)) rfl ?_
  refine mWp_gf rfl e1 rfl rfl ?_
  refine mWp_run 1 (t' := (30, [some (.ref 5), some (.int x1)], [.int x1, .ref 6], h, 0, 0)) rfl ?_
  refine mWp_aal rfl (by decide) e2 e3 (congrArg va_rf e4) ?_
  exact mWp_r (v := (some (.ref q102))) rfl k
theorem b115_0 {h : mH} {Q : Option Value → mH → Prop} {vc : Int32} {g101 : Nat → Option Nat} (e1 : h[5]? = some (oJ vc)) (e2 : h[6]? = some (aR 2 10 g101)) (k1 : vc < (Int32.ofNat 10) → mWp mCd 115 (16, [none], [], h, 0, 0) Q) (k2 : ¬ (vc < (Int32.ofNat 10)) → mWp mCd 115 (12, [none], [], h, 0, 0) Q) : mWp mCd 115 (0, [some (.ref 5)], [], h, 0, 0) Q := by
  refine mWp_run 1 (t' := (1, [some (.ref 5)], [.ref 5], h, 0, 0)) rfl ?_
  refine mWp_gf rfl e1 rfl rfl ?_
  refine mWp_run 1 (t' := (5, [some (.ref 5)], [.ref 5, .int vc], h, 0, 0)) rfl ?_
  refine mWp_gf rfl e1 rfl rfl ?_
  refine mWp_aln rfl e2 (by decide) ?_
  exact mWp_ic (P := fun x y => x < y) (a := vc) (b := Int32.ofNat 10) rfl (fun q => mWp_weak (mLe_n mLe_0) (k1 q)) (fun q => mWp_weak (mLe_n mLe_0) (k2 q))
theorem b115_16 {h : mH} {Q : Option Value → mH → Prop}   (k : Q (some (.int (iZ 0))) h) : mWp mCd 115 (16, [none], [], h, 0, 0) Q := by
  refine mWp_run 1 (t' := (17, [none], [.int (iZ 0)], h, 0, 0)) rfl ?_
  exact mWp_r (v := (some (.int (iZ 0)))) rfl k
theorem b115_12 {h : mH} {Q : Option Value → mH → Prop}   (k : Q (some (.int (iZ 1))) h) : mWp mCd 115 (12, [none], [], h, 0, 0) Q := by
  refine mWp_run 2 (t' := (17, [none], [.int (iZ 1)], h, 0, 0)) rfl ?_
  exact mWp_r (v := (some (.int (iZ 1)))) rfl k
theorem b116_0 {h : mH} {Q : Option Value → mH → Prop} {r1 : Nat} {vc : Int32} (e1 : h[5]? = some (oJ vc)) (k1 : vc < 0 → mWp mCd 116 (14, [none, none], [], h, 0, 0) Q) (k2 : ¬ (vc < 0) → mWp mCd 116 (7, [some (.ref 5), some (.ref r1)], [], h, 0, 0) Q) : mWp mCd 116 (0, [some (.ref 5), some (.ref r1)], [], h, 0, 0) Q := by
  refine mWp_run 1 (t' := (1, [some (.ref 5), some (.ref r1)], [.ref 5], h, 0, 0)) rfl ?_
  refine mWp_gf rfl e1 rfl rfl ?_
  exact mWp_if (P := fun x => x < 0) (a := vc) rfl (fun q => mWp_weak (mLe_n (mLe_n mLe_0)) (k1 q)) k2
theorem b116_14 {h : mH} {Q : Option Value → mH → Prop}   (k : Q (some (.int (iZ (-4)))) h) : mWp mCd 116 (14, [none, none], [], h, 0, 0) Q := by
  refine mWp_run 1 (t' := (16, [none, none], [.int (iZ (-4))], h, 0, 0)) rfl ?_
  exact mWp_r (v := (some (.int (iZ (-4))))) rfl k
theorem b116_7 {h : mH} {Q : Option Value → mH → Prop} {r1 : Nat} {vc : Int32} (e1 : h[5]? = some (oJ vc)) (k : mCt mCd 115 [.ref 5] h (fun rv hv => mWp mCd 116 (11, [some (.ref 5), some (.ref r1)], rv.toList ++ [], hv, 0, 0) Q)) : mWp mCd 116 (7, [some (.ref 5), some (.ref r1)], [], h, 0, 0) Q := by
  refine mWp_run 1 (t' := (8, [some (.ref 5), some (.ref r1)], [.ref 5], h, 0, 0)) rfl ?_
  exact mWp_iv rfl rfl e1 rfl rfl rfl rfl k
theorem b116_11 {h : mH} {Q : Option Value → mH → Prop} {r1 : Nat} {u0 : Int32}  (k1 : u0 = 0 → mWp mCd 116 (17, [some (.ref 5), some (.ref r1)], [], h, 0, 0) Q) (k2 : ¬ (u0 = 0) → mWp mCd 116 (14, [none, none], [], h, 0, 0) Q) : mWp mCd 116 (11, [some (.ref 5), some (.ref r1)], [.int u0], h, 0, 0) Q := by
  exact mWp_if (P := fun x => x = 0) (a := u0) rfl k1 (fun q => mWp_weak (mLe_n (mLe_n mLe_0)) (k2 q))
theorem b116_17 {h : mH} {Q : Option Value → mH → Prop} {r1 : Nat} {vc : Int32} {g101 : Nat → Option Nat} {ci102 : Nat} {fs103 : List Value} (e1 : h[5]? = some (oJ vc)) (e2 : h[6]? = some (aR 2 10 g101)) (e3 : ¬ (vc < 0 ∨ 10 ≤ vc.toNatClampNeg)) (e4 : h[r1]? = some (.inr (ci102, fs103))) (e5 : mCok 2 ci102 = true) (k : Q (some (.int ((vc + (iZ 1)) - (iZ 1)))) ((h.set 6 (aR 2 10 (va_up g101 (vc.toNatClampNeg) (some r1)))).set 5 (oJ (vc + (iZ 1))))) : mWp mCd 116 (17, [some (.ref 5), some (.ref r1)], [], h, 0, 0) Q := by
  refine mWp_run 1 (t' := (18, [some (.ref 5), some (.ref r1)], [.ref 5], h, 0, 0)) rfl ?_
  refine mWp_gf rfl e1 rfl rfl ?_
  refine mWp_run 1 (t' := (22, [some (.ref 5), some (.ref r1)], [.ref 5, .ref 6], h, 0, 0)) rfl ?_
  refine mWp_gf rfl e1 rfl rfl ?_
  refine mWp_run 1 (t' := (26, [some (.ref 5), some (.ref r1)], [.ref r1, .int vc, .ref 6], h, 0, 0)) rfl ?_
  refine mWp_aas rfl (by decide) e2 e4 e5 e3 ?_
  show mWp mCd 116 (27, [some (.ref 5), some (.ref r1)], [], (h.set 6 (aR 2 10 (va_up g101 (vc.toNatClampNeg) (some r1)))), 0, 0) Q
  refine mWp_run 2 (t' := (29, [some (.ref 5), some (.ref r1)], [.ref 5, .ref 5], (h.set 6 (aR 2 10 (va_up g101 (vc.toNatClampNeg) (some r1)))), 0, 0)) rfl ?_
  refine mWp_gf rfl (mGn (by decide) e1) rfl rfl ?_
  refine mWp_run 2 (t' := (34, [some (.ref 5), some (.ref r1)], [.int (vc + (iZ 1)), .ref 5], (h.set 6 (aR 2 10 (va_up g101 (vc.toNatClampNeg) (some r1)))), 0, 0)) rfl ?_
  refine mWp_pf rfl (mGn (by decide) e1) rfl rfl rfl ?_
  show mWp mCd 116 (37, [some (.ref 5), some (.ref r1)], [], ((h.set 6 (aR 2 10 (va_up g101 (vc.toNatClampNeg) (some r1)))).set 5 (oJ (vc + (iZ 1)))), 0, 0) Q
  refine mWp_run 1 (t' := (38, [some (.ref 5), some (.ref r1)], [.ref 5], ((h.set 6 (aR 2 10 (va_up g101 (vc.toNatClampNeg) (some r1)))).set 5 (oJ (vc + (iZ 1)))), 0, 0)) rfl ?_
  refine mWp_gf rfl (mGs (mGn (by decide) e1)) rfl rfl ?_
  refine mWp_run 2 (t' := (43, [some (.ref 5), some (.ref r1)], [.int ((vc + (iZ 1)) - (iZ 1))], ((h.set 6 (aR 2 10 (va_up g101 (vc.toNatClampNeg) (some r1)))).set 5 (oJ (vc + (iZ 1)))), 0, 0)) rfl ?_
  exact mWp_r (v := (some (.int ((vc + (iZ 1)) - (iZ 1))))) rfl k
theorem b117_0 {h : mH} {Q : Option Value → mH → Prop} {r0 : Nat} {r1 : Nat} {x2 : Int32} {x3 : Int32}  (k : mWp mCd 117 (3, [some (.ref r0), some (.ref r1), some (.int x2), some (.int x3), some (.int (iZ 1)), none], [], h, 0, 0) Q) : mWp mCd 117 (0, [some (.ref r0), some (.ref r1), some (.int x2), some (.int x3), none, none], [], h, 0, 0) Q := by
  refine mWp_run 2 (t' := (3, [some (.ref r0), some (.ref r1), some (.int x2), some (.int x3), some (.int (iZ 1)), none], [], h, 0, 0)) rfl ?_
  exact k
theorem b117_3 {h : mH} {Q : Option Value → mH → Prop} {r0 : Nat} {r1 : Nat} {x2 : Int32} {x3 : Int32} {x4 : Int32} {ci : Nat} {num : Int32} {n : Int32} {fd : Int32} (hc : [1, 2, 4, 6, 8].contains ci = true) (e2 : h[r0]? = some (oV ci r0 num n fd)) (k : mCt mCd 42 [.ref r0] h (fun rv hv => mWp mCd 117 (9, [some (.ref r0), some (.ref r1), some (.int x2), some (.int x3), some (.int x4), none], rv.toList ++ [.int x4], hv, 0, 0) Q)) : mWp mCd 117 (3, [some (.ref r0), some (.ref r1), some (.int x2), some (.int x3), some (.int x4), none], [], h, 0, 0) Q := by
  refine mWp_run 2 (t' := (6, [some (.ref r0), some (.ref r1), some (.int x2), some (.int x3), some (.int x4), none], [.ref r0, .int x4], h, 0, 0)) rfl ?_
  exact mWp_iv rfl rfl e2 (mS5 hc) rfl rfl rfl k
theorem b117_9 {h : mH} {Q : Option Value → mH → Prop} {r0 : Nat} {r1 : Nat} {x2 : Int32} {x3 : Int32} {x4 : Int32} {u0 : Int32} {u1 : Int32}  (k1 : u0 < u1 → mWp mCd 117 (55, [none, none, none, none, none, none], [], h, 0, 0) Q) (k2 : ¬ (u0 < u1) → mWp mCd 117 (12, [some (.ref r0), some (.ref r1), some (.int x2), some (.int x3), some (.int x4), none], [], h, 0, 0) Q) : mWp mCd 117 (9, [some (.ref r0), some (.ref r1), some (.int x2), some (.int x3), some (.int x4), none], [.int u0, .int u1], h, 0, 0) Q := by
  exact mWp_ic (P := fun x y => y < x) (a := u1) (b := u0) rfl (fun q => mWp_weak (mLe_n (mLe_n (mLe_n (mLe_n (mLe_n (mLe_n mLe_0)))))) (k1 q)) k2
theorem b117_55 {h : mH} {Q : Option Value → mH → Prop}   (k : Q (some (.int (iZ 1))) h) : mWp mCd 117 (55, [none, none, none, none, none, none], [], h, 0, 0) Q := by
  refine mWp_run 1 (t' := (56, [none, none, none, none, none, none], [.int (iZ 1)], h, 0, 0)) rfl ?_
  exact mWp_r (v := (some (.int (iZ 1)))) rfl k
theorem b117_12 {h : mH} {Q : Option Value → mH → Prop} {r0 : Nat} {r1 : Nat} {x2 : Int32} {x3 : Int32} {x4 : Int32} {ci : Nat} {num : Int32} {n : Int32} {fd : Int32} (hc : [1, 2, 4, 6, 8].contains ci = true) (e2 : h[r0]? = some (oV ci r0 num n fd)) (k : mCt mCd 46 [.ref r0, .int x4] h (fun rv hv => mWp mCd 117 (19, [some (.ref r0), some (.ref r1), some (.int x2), some (.int x3), some (.int x4), none], rv.toList ++ [.int x2], hv, 0, 0) Q)) : mWp mCd 117 (12, [some (.ref r0), some (.ref r1), some (.int x2), some (.int x3), some (.int x4), none], [], h, 0, 0) Q := by
  refine mWp_run 3 (t' := (16, [some (.ref r0), some (.ref r1), some (.int x2), some (.int x3), some (.int x4), none], [.int x4, .ref r0, .int x2], h, 0, 0)) rfl ?_
  exact mWp_iv rfl rfl e2 (mS5 hc) rfl rfl rfl k
theorem b117_19 {h : mH} {Q : Option Value → mH → Prop} {r0 : Nat} {r1 : Nat} {x2 : Int32} {x3 : Int32} {x4 : Int32} {u0 : Int32} {u1 : Int32} {ci : Nat} {num : Int32} {n : Int32} {fd : Int32} (hc : [1, 2, 4, 6, 8].contains ci = true) (e2 : h[r1]? = some (oV ci r1 num n fd)) (k : mCt mCd 46 [.ref r1, .int x4] h (fun rv hv => mWp mCd 117 (27, [some (.ref r0), some (.ref r1), some (.int x2), some (.int x3), some (.int x4), none], rv.toList ++ [.int x3, .int (u1 * u0)], hv, 0, 0) Q)) : mWp mCd 117 (19, [some (.ref r0), some (.ref r1), some (.int x2), some (.int x3), some (.int x4), none], [.int u0, .int u1], h, 0, 0) Q := by
  refine mWp_run 4 (t' := (24, [some (.ref r0), some (.ref r1), some (.int x2), some (.int x3), some (.int x4), none], [.int x4, .ref r1, .int x3, .int (u1 * u0)], h, 0, 0)) rfl ?_
  exact mWp_iv rfl rfl e2 (mS5 hc) rfl rfl rfl k
theorem b117_27 {h : mH} {Q : Option Value → mH → Prop} {r0 : Nat} {r1 : Nat} {x2 : Int32} {x3 : Int32} {x4 : Int32} {u0 : Int32} {u1 : Int32} {u2 : Int32}  (k1 : (u2 + (u1 * u0)) < (iZ (-1000)) → mWp mCd 117 (47, [none, none, none, none, none, none], [], h, 0, 0) Q) (k2 : ¬ ((u2 + (u1 * u0)) < (iZ (-1000))) → mWp mCd 117 (39, [some (.ref r0), some (.ref r1), some (.int x2), some (.int x3), some (.int x4), some (.int (u2 + (u1 * u0)))], [], h, 0, 0) Q) : mWp mCd 117 (27, [some (.ref r0), some (.ref r1), some (.int x2), some (.int x3), some (.int x4), none], [.int u0, .int u1, .int u2], h, 0, 0) Q := by
  refine mWp_run 5 (t' := (36, [some (.ref r0), some (.ref r1), some (.int x2), some (.int x3), some (.int x4), some (.int (u2 + (u1 * u0)))], [.int (iZ (-1000)), .int (u2 + (u1 * u0))], h, 0, 0)) rfl ?_
  exact mWp_ic (P := fun x y => x < y) (a := u2 + (u1 * u0)) (b := iZ (-1000)) rfl (fun q => mWp_weak (mLe_n (mLe_n (mLe_n (mLe_n (mLe_n (mLe_n mLe_0)))))) (k1 q)) k2
theorem b117_47 {h : mH} {Q : Option Value → mH → Prop}   (k : Q (some (.int (iZ 0))) h) : mWp mCd 117 (47, [none, none, none, none, none, none], [], h, 0, 0) Q := by
  refine mWp_run 1 (t' := (48, [none, none, none, none, none, none], [.int (iZ 0)], h, 0, 0)) rfl ?_
  exact mWp_r (v := (some (.int (iZ 0)))) rfl k
theorem b117_39 {h : mH} {Q : Option Value → mH → Prop} {r0 : Nat} {r1 : Nat} {x2 : Int32} {x3 : Int32} {x4 : Int32} {x5 : Int32}  (k1 : x5 ≤ (iZ 1000) → mWp mCd 117 (49, [some (.ref r0), some (.ref r1), some (.int x2), some (.int x3), some (.int x4), none], [], h, 0, 0) Q) (k2 : ¬ (x5 ≤ (iZ 1000)) → mWp mCd 117 (47, [none, none, none, none, none, none], [], h, 0, 0) Q) : mWp mCd 117 (39, [some (.ref r0), some (.ref r1), some (.int x2), some (.int x3), some (.int x4), some (.int x5)], [], h, 0, 0) Q := by
  refine mWp_run 2 (t' := (44, [some (.ref r0), some (.ref r1), some (.int x2), some (.int x3), some (.int x4), some (.int x5)], [.int (iZ 1000), .int x5], h, 0, 0)) rfl ?_
  exact mWp_ic (P := fun x y => x ≤ y) (a := x5) (b := iZ 1000) rfl (fun q => mWp_weak (mLe_s (mLe_s (mLe_s (mLe_s (mLe_s (mLe_n mLe_0)))))) (k1 q)) (fun q => mWp_weak (mLe_n (mLe_n (mLe_n (mLe_n (mLe_n (mLe_n mLe_0)))))) (k2 q))
theorem b117_49 {h : mH} {Q : Option Value → mH → Prop} {r0 : Nat} {r1 : Nat} {x2 : Int32} {x3 : Int32} {x4 : Int32}  (k : mWp mCd 117 (3, [some (.ref r0), some (.ref r1), some (.int x2), some (.int x3), some (.int (x4 + iZ 1)), none], [], h, 0, 0) Q) : mWp mCd 117 (49, [some (.ref r0), some (.ref r1), some (.int x2), some (.int x3), some (.int x4), none], [], h, 0, 0) Q := by
  refine mWp_run 2 (t' := (3, [some (.ref r0), some (.ref r1), some (.int x2), some (.int x3), some (.int (x4 + iZ 1)), none], [], h, 0, 0)) rfl ?_
  exact k
theorem b118_0 {h : mH} {Q : Option Value → mH → Prop} {r0 : Nat} {x1 : Int32} {x2 : Int32}  (k : mWp mCd 118 (2, [some (.ref r0), some (.int x1), some (.int x2), some (.int (iZ 0))], [], h, 0, 0) Q) : mWp mCd 118 (0, [some (.ref r0), some (.int x1), some (.int x2), none], [], h, 0, 0) Q := by
  refine mWp_run 2 (t' := (2, [some (.ref r0), some (.int x1), some (.int x2), some (.int (iZ 0))], [], h, 0, 0)) rfl ?_
  exact k
theorem b118_2 {h : mH} {Q : Option Value → mH → Prop} {r0 : Nat} {x1 : Int32} {x2 : Int32} {x3 : Int32}  (k1 : x2 ≤ x3 → mWp mCd 118 (28, [none, none, none, none], [], h, 0, 0) Q) (k2 : ¬ (x2 ≤ x3) → mWp mCd 118 (7, [some (.ref r0), some (.int x1), some (.int x2), some (.int x3)], [], h, 0, 0) Q) : mWp mCd 118 (2, [some (.ref r0), some (.int x1), some (.int x2), some (.int x3)], [], h, 0, 0) Q := by
  refine mWp_run 2 (t' := (4, [some (.ref r0), some (.int x1), some (.int x2), some (.int x3)], [.int x2, .int x3], h, 0, 0)) rfl ?_
  exact mWp_ic (P := fun x y => y ≤ x) (a := x3) (b := x2) rfl (fun q => mWp_weak (mLe_n (mLe_n (mLe_n (mLe_n mLe_0)))) (k1 q)) k2
theorem b118_28 {h : mH} {Q : Option Value → mH → Prop}   (k : Q (some (.int (iZ 1))) h) : mWp mCd 118 (28, [none, none, none, none], [], h, 0, 0) Q := by
  refine mWp_run 1 (t' := (29, [none, none, none, none], [.int (iZ 1)], h, 0, 0)) rfl ?_
  exact mWp_r (v := (some (.int (iZ 1)))) rfl k
theorem b118_7 {h : mH} {Q : Option Value → mH → Prop} {r0 : Nat} {x1 : Int32} {x2 : Int32} {x3 : Int32} {so : Int32} (e1 : h[r0]? = some (oS r0 so)) (k : mCt mCd 35 [.ref r0, .int (x1 + x3)] h (fun rv hv => mWp mCd 118 (14, [some (.ref r0), some (.int x1), some (.int x2), some (.int x3)], rv.toList ++ [], hv, 0, 0) Q)) : mWp mCd 118 (7, [some (.ref r0), some (.int x1), some (.int x2), some (.int x3)], [], h, 0, 0) Q := by
  refine mWp_run 4 (t' := (11, [some (.ref r0), some (.int x1), some (.int x2), some (.int x3)], [.int (x1 + x3), .ref r0], h, 0, 0)) rfl ?_
  exact mWp_iv rfl rfl e1 rfl rfl rfl rfl k
theorem b118_14 {h : mH} {Q : Option Value → mH → Prop} {r0 : Nat} {x1 : Int32} {x2 : Int32} {x3 : Int32} {w0 : Int64}  (k : mCt mCd 120 [.long w0] h (fun rv hv => mWp mCd 118 (17, [some (.ref r0), some (.int x1), some (.int x2), some (.int x3)], rv.toList ++ [], hv, 0, 0) Q)) : mWp mCd 118 (14, [some (.ref r0), some (.int x1), some (.int x2), some (.int x3)], [.long w0], h, 0, 0) Q := by
  exact mWp_is rfl rfl rfl rfl rfl k
theorem b118_17 {h : mH} {Q : Option Value → mH → Prop} {r0 : Nat} {x1 : Int32} {x2 : Int32} {x3 : Int32} {u0 : Int32}  (k1 : ¬ u0 = 0 → mWp mCd 118 (22, [some (.ref r0), some (.int x1), some (.int x2), some (.int x3)], [], h, 0, 0) Q) (k2 : ¬ (¬ u0 = 0) → mWp mCd 118 (20, [none, none, none, none], [], h, 0, 0) Q) : mWp mCd 118 (17, [some (.ref r0), some (.int x1), some (.int x2), some (.int x3)], [.int u0], h, 0, 0) Q := by
  exact mWp_if (P := fun x => ¬ x = 0) (a := u0) rfl k1 (fun q => mWp_weak (mLe_n (mLe_n (mLe_n (mLe_n mLe_0)))) (k2 q))
theorem b118_22 {h : mH} {Q : Option Value → mH → Prop} {r0 : Nat} {x1 : Int32} {x2 : Int32} {x3 : Int32}  (k : mWp mCd 118 (2, [some (.ref r0), some (.int x1), some (.int x2), some (.int (x3 + iZ 1))], [], h, 0, 0) Q) : mWp mCd 118 (22, [some (.ref r0), some (.int x1), some (.int x2), some (.int x3)], [], h, 0, 0) Q := by
  refine mWp_run 2 (t' := (2, [some (.ref r0), some (.int x1), some (.int x2), some (.int (x3 + iZ 1))], [], h, 0, 0)) rfl ?_
  exact k
theorem b118_20 {h : mH} {Q : Option Value → mH → Prop}   (k : Q (some (.int (iZ 0))) h) : mWp mCd 118 (20, [none, none, none, none], [], h, 0, 0) Q := by
  refine mWp_run 1 (t' := (21, [none, none, none, none], [.int (iZ 0)], h, 0, 0)) rfl ?_
  exact mWp_r (v := (some (.int (iZ 0)))) rfl k
theorem b119_0 {h : mH} {Q : Option Value → mH → Prop} {x0 : Int32}  (k1 : x0 < (iZ 1) → mWp mCd 119 (14, [none], [], h, 0, 0) Q) (k2 : ¬ (x0 < (iZ 1)) → mWp mCd 119 (5, [some (.int x0)], [], h, 0, 0) Q) : mWp mCd 119 (0, [some (.int x0)], [], h, 0, 0) Q := by
  refine mWp_run 2 (t' := (2, [some (.int x0)], [.int (iZ 1), .int x0], h, 0, 0)) rfl ?_
  exact mWp_ic (P := fun x y => x < y) (a := x0) (b := iZ 1) rfl (fun q => mWp_weak (mLe_n mLe_0) (k1 q)) k2
theorem b119_14 {h : mH} {Q : Option Value → mH → Prop}   (k : Q (some (.int (iZ 0))) h) : mWp mCd 119 (14, [none], [], h, 0, 0) Q := by
  refine mWp_run 1 (t' := (15, [none], [.int (iZ 0)], h, 0, 0)) rfl ?_
  exact mWp_r (v := (some (.int (iZ 0)))) rfl k
theorem b119_5 {h : mH} {Q : Option Value → mH → Prop} {x0 : Int32}  (k1 : (iZ 4) < x0 → mWp mCd 119 (14, [none], [], h, 0, 0) Q) (k2 : ¬ ((iZ 4) < x0) → mWp mCd 119 (10, [none], [], h, 0, 0) Q) : mWp mCd 119 (5, [some (.int x0)], [], h, 0, 0) Q := by
  refine mWp_run 2 (t' := (7, [some (.int x0)], [.int (iZ 4), .int x0], h, 0, 0)) rfl ?_
  exact mWp_ic (P := fun x y => y < x) (a := x0) (b := iZ 4) rfl (fun q => mWp_weak (mLe_n mLe_0) (k1 q)) (fun q => mWp_weak (mLe_n mLe_0) (k2 q))
theorem b119_10 {h : mH} {Q : Option Value → mH → Prop}   (k : Q (some (.int (iZ 1))) h) : mWp mCd 119 (10, [none], [], h, 0, 0) Q := by
  refine mWp_run 2 (t' := (15, [none], [.int (iZ 1)], h, 0, 0)) rfl ?_
  exact mWp_r (v := (some (.int (iZ 1)))) rfl k
theorem b120_0 {h : mH} {Q : Option Value → mH → Prop} {y0 : Int64}  (k1 : (lg_cmp y0 (lZ (-100))) < 0 → mWp mCd 120 (20, [none, none], [], h, 0, 0) Q) (k2 : ¬ ((lg_cmp y0 (lZ (-100))) < 0) → mWp mCd 120 (8, [some (.long y0), none], [], h, 0, 0) Q) : mWp mCd 120 (0, [some (.long y0), none], [], h, 0, 0) Q := by
  refine mWp_run 3 (t' := (5, [some (.long y0), none], [.int (lg_cmp y0 (lZ (-100)))], h, 0, 0)) rfl ?_
  exact mWp_if (P := fun x => x < 0) (a := lg_cmp y0 (lZ (-100))) rfl (fun q => mWp_weak (mLe_n (mLe_n mLe_0)) (k1 q)) k2
theorem b120_20 {h : mH} {Q : Option Value → mH → Prop}   (k : Q (some (.int (iZ 0))) h) : mWp mCd 120 (20, [none, none], [], h, 0, 0) Q := by
  refine mWp_run 1 (t' := (21, [none, none], [.int (iZ 0)], h, 0, 0)) rfl ?_
  exact mWp_r (v := (some (.int (iZ 0)))) rfl k
theorem b120_8 {h : mH} {Q : Option Value → mH → Prop} {y0 : Int64}  (k1 : 0 < (lg_cmp y0 (lZ 100)) → mWp mCd 120 (20, [none, none], [], h, 0, 0) Q) (k2 : ¬ (0 < (lg_cmp y0 (lZ 100))) → mWp mCd 120 (16, [none, none], [], h, 0, 0) Q) : mWp mCd 120 (8, [some (.long y0), none], [], h, 0, 0) Q := by
  refine mWp_run 3 (t' := (13, [some (.long y0), none], [.int (lg_cmp y0 (lZ 100))], h, 0, 0)) rfl ?_
  exact mWp_if (P := fun x => 0 < x) (a := lg_cmp y0 (lZ 100)) rfl (fun q => mWp_weak (mLe_n (mLe_n mLe_0)) (k1 q)) (fun q => mWp_weak (mLe_n (mLe_n mLe_0)) (k2 q))
theorem b120_16 {h : mH} {Q : Option Value → mH → Prop}   (k : Q (some (.int (iZ 1))) h) : mWp mCd 120 (16, [none, none], [], h, 0, 0) Q := by
  refine mWp_run 2 (t' := (21, [none, none], [.int (iZ 1)], h, 0, 0)) rfl ?_
  exact mWp_r (v := (some (.int (iZ 1)))) rfl k
theorem b121_0 {h : mH} {Q : Option Value → mH → Prop} {x0 : Int32}  (k1 : x0 < (iZ (-3)) → mWp mCd 121 (15, [none], [], h, 0, 0) Q) (k2 : ¬ (x0 < (iZ (-3))) → mWp mCd 121 (6, [some (.int x0)], [], h, 0, 0) Q) : mWp mCd 121 (0, [some (.int x0)], [], h, 0, 0) Q := by
  refine mWp_run 2 (t' := (3, [some (.int x0)], [.int (iZ (-3)), .int x0], h, 0, 0)) rfl ?_
  exact mWp_ic (P := fun x y => x < y) (a := x0) (b := iZ (-3)) rfl (fun q => mWp_weak (mLe_n mLe_0) (k1 q)) k2
theorem b121_15 {h : mH} {Q : Option Value → mH → Prop}   (k : Q (some (.int (iZ 0))) h) : mWp mCd 121 (15, [none], [], h, 0, 0) Q := by
  refine mWp_run 1 (t' := (16, [none], [.int (iZ 0)], h, 0, 0)) rfl ?_
  exact mWp_r (v := (some (.int (iZ 0)))) rfl k
theorem b121_6 {h : mH} {Q : Option Value → mH → Prop} {x0 : Int32}  (k1 : (iZ 3) < x0 → mWp mCd 121 (15, [none], [], h, 0, 0) Q) (k2 : ¬ ((iZ 3) < x0) → mWp mCd 121 (11, [none], [], h, 0, 0) Q) : mWp mCd 121 (6, [some (.int x0)], [], h, 0, 0) Q := by
  refine mWp_run 2 (t' := (8, [some (.int x0)], [.int (iZ 3), .int x0], h, 0, 0)) rfl ?_
  exact mWp_ic (P := fun x y => y < x) (a := x0) (b := iZ 3) rfl (fun q => mWp_weak (mLe_n mLe_0) (k1 q)) (fun q => mWp_weak (mLe_n mLe_0) (k2 q))
theorem b121_11 {h : mH} {Q : Option Value → mH → Prop}   (k : Q (some (.int (iZ 1))) h) : mWp mCd 121 (11, [none], [], h, 0, 0) Q := by
  refine mWp_run 2 (t' := (16, [none], [.int (iZ 1)], h, 0, 0)) rfl ?_
  exact mWp_r (v := (some (.int (iZ 1)))) rfl k
theorem b122_0 {h : mH} {Q : Option Value → mH → Prop} {x0 : Int32}  (k1 : x0 = 0 → mWp mCd 122 (9, [none], [], h, 0, 0) Q) (k2 : ¬ (x0 = 0) → mWp mCd 122 (4, [some (.int x0)], [], h, 0, 0) Q) : mWp mCd 122 (0, [some (.int x0)], [], h, 0, 0) Q := by
  refine mWp_run 1 (t' := (1, [some (.int x0)], [.int x0], h, 0, 0)) rfl ?_
  exact mWp_if (P := fun x => x = 0) (a := x0) rfl (fun q => mWp_weak (mLe_n mLe_0) (k1 q)) k2
theorem b122_9 {h : mH} {Q : Option Value → mH → Prop}   (k : Q (some (.int (iZ 1))) h) : mWp mCd 122 (9, [none], [], h, 0, 0) Q := by
  refine mWp_run 2 (t' := (14, [none], [.int (iZ 1)], h, 0, 0)) rfl ?_
  exact mWp_r (v := (some (.int (iZ 1)))) rfl k
theorem b122_4 {h : mH} {Q : Option Value → mH → Prop} {x0 : Int32}  (k1 : ¬ x0 = (iZ 1) → mWp mCd 122 (13, [none], [], h, 0, 0) Q) (k2 : ¬ (¬ x0 = (iZ 1)) → mWp mCd 122 (9, [none], [], h, 0, 0) Q) : mWp mCd 122 (4, [some (.int x0)], [], h, 0, 0) Q := by
  refine mWp_run 2 (t' := (6, [some (.int x0)], [.int (iZ 1), .int x0], h, 0, 0)) rfl ?_
  exact mWp_ic (P := fun x y => ¬ x = y) (a := x0) (b := iZ 1) rfl (fun q => mWp_weak (mLe_n mLe_0) (k1 q)) (fun q => mWp_weak (mLe_n mLe_0) (k2 q))
theorem b122_13 {h : mH} {Q : Option Value → mH → Prop}   (k : Q (some (.int (iZ 0))) h) : mWp mCd 122 (13, [none], [], h, 0, 0) Q := by
  refine mWp_run 1 (t' := (14, [none], [.int (iZ 0)], h, 0, 0)) rfl ?_
  exact mWp_r (v := (some (.int (iZ 0)))) rfl k
theorem b123_0 {h : mH} {Q : Option Value → mH → Prop} {x1 : Int32}  (k1 : x1 < 0 → mWp mCd 123 (17, [none, none], [], h, 0, 0) Q) (k2 : ¬ (x1 < 0) → mWp mCd 123 (4, [some (.ref 5), some (.int x1)], [], h, 0, 0) Q) : mWp mCd 123 (0, [some (.ref 5), some (.int x1)], [], h, 0, 0) Q := by
  refine mWp_run 1 (t' := (1, [some (.ref 5), some (.int x1)], [.int x1], h, 0, 0)) rfl ?_
  exact mWp_if (P := fun x => x < 0) (a := x1) rfl (fun q => mWp_weak (mLe_n (mLe_n mLe_0)) (k1 q)) k2
theorem b123_17 {h : mH} {Q : Option Value → mH → Prop}   (k : Q (some (.int (iZ 0))) h) : mWp mCd 123 (17, [none, none], [], h, 0, 0) Q := by
  refine mWp_run 1 (t' := (18, [none, none], [.int (iZ 0)], h, 0, 0)) rfl ?_
  exact mWp_r (v := (some (.int (iZ 0)))) rfl k
theorem b123_4 {h : mH} {Q : Option Value → mH → Prop} {x1 : Int32} {vc : Int32} {g101 : Nat → Option Nat} (e1 : h[5]? = some (oJ vc)) (e2 : h[13]? = some (aR 3 4 g101)) (k1 : (Int32.ofNat 4) ≤ x1 → mWp mCd 123 (17, [none, none], [], h, 0, 0) Q) (k2 : ¬ ((Int32.ofNat 4) ≤ x1) → mWp mCd 123 (13, [none, none], [], h, 0, 0) Q) : mWp mCd 123 (4, [some (.ref 5), some (.int x1)], [], h, 0, 0) Q := by
  refine mWp_run 2 (t' := (6, [some (.ref 5), some (.int x1)], [.ref 5, .int x1], h, 0, 0)) rfl ?_
  refine mWp_gf rfl e1 rfl rfl ?_
  refine mWp_aln rfl e2 (by decide) ?_
  exact mWp_ic (P := fun x y => y ≤ x) (a := x1) (b := Int32.ofNat 4) rfl (fun q => mWp_weak (mLe_n (mLe_n mLe_0)) (k1 q)) (fun q => mWp_weak (mLe_n (mLe_n mLe_0)) (k2 q))
theorem b123_13 {h : mH} {Q : Option Value → mH → Prop}   (k : Q (some (.int (iZ 1))) h) : mWp mCd 123 (13, [none, none], [], h, 0, 0) Q := by
  refine mWp_run 2 (t' := (18, [none, none], [.int (iZ 1)], h, 0, 0)) rfl ?_
  exact mWp_r (v := (some (.int (iZ 1)))) rfl k
theorem b124_0 {h : mH} {Q : Option Value → mH → Prop} {x0 : Int32}  (k1 : x0 < 0 → mWp mCd 124 (13, [none], [], h, 0, 0) Q) (k2 : ¬ (x0 < 0) → mWp mCd 124 (4, [some (.int x0)], [], h, 0, 0) Q) : mWp mCd 124 (0, [some (.int x0)], [], h, 0, 0) Q := by
  refine mWp_run 1 (t' := (1, [some (.int x0)], [.int x0], h, 0, 0)) rfl ?_
  exact mWp_if (P := fun x => x < 0) (a := x0) rfl (fun q => mWp_weak (mLe_n mLe_0) (k1 q)) k2
theorem b124_13 {h : mH} {Q : Option Value → mH → Prop}   (k : Q (some (.int (iZ 0))) h) : mWp mCd 124 (13, [none], [], h, 0, 0) Q := by
  refine mWp_run 1 (t' := (14, [none], [.int (iZ 0)], h, 0, 0)) rfl ?_
  exact mWp_r (v := (some (.int (iZ 0)))) rfl k
theorem b124_4 {h : mH} {Q : Option Value → mH → Prop} {x0 : Int32}  (k1 : (iZ 2) < x0 → mWp mCd 124 (13, [none], [], h, 0, 0) Q) (k2 : ¬ ((iZ 2) < x0) → mWp mCd 124 (9, [none], [], h, 0, 0) Q) : mWp mCd 124 (4, [some (.int x0)], [], h, 0, 0) Q := by
  refine mWp_run 2 (t' := (6, [some (.int x0)], [.int (iZ 2), .int x0], h, 0, 0)) rfl ?_
  exact mWp_ic (P := fun x y => y < x) (a := x0) (b := iZ 2) rfl (fun q => mWp_weak (mLe_n mLe_0) (k1 q)) (fun q => mWp_weak (mLe_n mLe_0) (k2 q))
theorem b124_9 {h : mH} {Q : Option Value → mH → Prop}   (k : Q (some (.int (iZ 1))) h) : mWp mCd 124 (9, [none], [], h, 0, 0) Q := by
  refine mWp_run 2 (t' := (14, [none], [.int (iZ 1)], h, 0, 0)) rfl ?_
  exact mWp_r (v := (some (.int (iZ 1)))) rfl k
theorem b125_0 {h : mH} {Q : Option Value → mH → Prop} {x0 : Int32} {x1 : Int32} {x2 : Int32}  (k : mWp mCd 125 (5, [some (.int x0), some (.int x1), some (.int x2), some (.int (iZ 1)), some (.int (iZ 0))], [], h, 0, 0) Q) : mWp mCd 125 (0, [some (.int x0), some (.int x1), some (.int x2), none, none], [], h, 0, 0) Q := by
  refine mWp_run 4 (t' := (5, [some (.int x0), some (.int x1), some (.int x2), some (.int (iZ 1)), some (.int (iZ 0))], [], h, 0, 0)) rfl ?_
  exact k
theorem b125_5 {h : mH} {Q : Option Value → mH → Prop} {x0 : Int32} {x1 : Int32} {x2 : Int32} {x3 : Int32} {x4 : Int32}  (k1 : x2 ≤ x4 → mWp mCd 125 (21, [some (.int x0), none, none, some (.int x3), none], [], h, 0, 0) Q) (k2 : ¬ (x2 ≤ x4) → mWp mCd 125 (11, [some (.int x0), some (.int x1), some (.int x2), some (.int x3), some (.int x4)], [], h, 0, 0) Q) : mWp mCd 125 (5, [some (.int x0), some (.int x1), some (.int x2), some (.int x3), some (.int x4)], [], h, 0, 0) Q := by
  refine mWp_run 2 (t' := (8, [some (.int x0), some (.int x1), some (.int x2), some (.int x3), some (.int x4)], [.int x2, .int x4], h, 0, 0)) rfl ?_
  exact mWp_ic (P := fun x y => y ≤ x) (a := x4) (b := x2) rfl (fun q => mWp_weak (mLe_s (mLe_n (mLe_n (mLe_s (mLe_n mLe_0))))) (k1 q)) k2
theorem b125_21 {h : mH} {Q : Option Value → mH → Prop} {x0 : Int32} {x3 : Int32}  (k1 : x0 < 0 → mWp mCd 125 (34, [none, none, none, none, none], [], h, 0, 0) Q) (k2 : ¬ (x0 < 0) → mWp mCd 125 (25, [some (.int x0), none, none, some (.int x3), none], [], h, 0, 0) Q) : mWp mCd 125 (21, [some (.int x0), none, none, some (.int x3), none], [], h, 0, 0) Q := by
  refine mWp_run 1 (t' := (22, [some (.int x0), none, none, some (.int x3), none], [.int x0], h, 0, 0)) rfl ?_
  exact mWp_if (P := fun x => x < 0) (a := x0) rfl (fun q => mWp_weak (mLe_n (mLe_n (mLe_n (mLe_n (mLe_n mLe_0))))) (k1 q)) k2
theorem b125_11 {h : mH} {Q : Option Value → mH → Prop} {x0 : Int32} {x1 : Int32} {x2 : Int32} {x3 : Int32} {x4 : Int32}  (k : mWp mCd 125 (5, [some (.int x0), some (.int x1), some (.int x2), some (.int (x3 * x1)), some (.int (x4 + iZ 1))], [], h, 0, 0) Q) : mWp mCd 125 (11, [some (.int x0), some (.int x1), some (.int x2), some (.int x3), some (.int x4)], [], h, 0, 0) Q := by
  refine mWp_run 6 (t' := (5, [some (.int x0), some (.int x1), some (.int x2), some (.int (x3 * x1)), some (.int (x4 + iZ 1))], [], h, 0, 0)) rfl ?_
  exact k
theorem b125_34 {h : mH} {Q : Option Value → mH → Prop}   (k : Q (some (.int (iZ 0))) h) : mWp mCd 125 (34, [none, none, none, none, none], [], h, 0, 0) Q := by
  refine mWp_run 1 (t' := (35, [none, none, none, none, none], [.int (iZ 0)], h, 0, 0)) rfl ?_
  exact mWp_r (v := (some (.int (iZ 0)))) rfl k
theorem b125_25 {h : mH} {Q : Option Value → mH → Prop} {x0 : Int32} {x3 : Int32}  (k1 : x3 ≤ x0 → mWp mCd 125 (34, [none, none, none, none, none], [], h, 0, 0) Q) (k2 : ¬ (x3 ≤ x0) → mWp mCd 125 (30, [none, none, none, none, none], [], h, 0, 0) Q) : mWp mCd 125 (25, [some (.int x0), none, none, some (.int x3), none], [], h, 0, 0) Q := by
  refine mWp_run 2 (t' := (27, [some (.int x0), none, none, some (.int x3), none], [.int x3, .int x0], h, 0, 0)) rfl ?_
  exact mWp_ic (P := fun x y => y ≤ x) (a := x0) (b := x3) rfl (fun q => mWp_weak (mLe_n (mLe_n (mLe_n (mLe_n (mLe_n mLe_0))))) (k1 q)) (fun q => mWp_weak (mLe_n (mLe_n (mLe_n (mLe_n (mLe_n mLe_0))))) (k2 q))
theorem b125_30 {h : mH} {Q : Option Value → mH → Prop}   (k : Q (some (.int (iZ 1))) h) : mWp mCd 125 (30, [none, none, none, none, none], [], h, 0, 0) Q := by
  refine mWp_run 2 (t' := (35, [none, none, none, none, none], [.int (iZ 1)], h, 0, 0)) rfl ?_
  exact mWp_r (v := (some (.int (iZ 1)))) rfl k
theorem b126_0 {h : mH} {Q : Option Value → mH → Prop} {x0 : Int32} {x1 : Int32}  (k : Q (some (.int ((x0 >>> (x1 &&& 31)) &&& (iZ 1)))) h) : mWp mCd 126 (0, [some (.int x0), some (.int x1)], [], h, 0, 0) Q := by
  refine mWp_run 5 (t' := (5, [some (.int x0), some (.int x1)], [.int ((x0 >>> (x1 &&& 31)) &&& (iZ 1))], h, 0, 0)) rfl ?_
  exact mWp_r (v := (some (.int ((x0 >>> (x1 &&& 31)) &&& (iZ 1))))) rfl k
theorem b127_0 {h : mH} {Q : Option Value → mH → Prop} {x0 : Int32} {x1 : Int32}  (k : Q (some (.int ((x0 &&& (((iZ 1) <<< (x1 &&& 31)) - (iZ 1))) ||| ((x0 &&& ((x0 &&& (((iZ 1) <<< (x1 &&& 31)) - (iZ 1))) ^^^ (iZ (-1)))) <<< ((iZ 1) &&& 31))))) h) : mWp mCd 127 (0, [some (.int x0), some (.int x1), none], [], h, 0, 0) Q := by
  refine mWp_run 17 (t' := (17, [some (.int x0), some (.int x1), some (.int (x0 &&& (((iZ 1) <<< (x1 &&& 31)) - (iZ 1))))], [.int ((x0 &&& (((iZ 1) <<< (x1 &&& 31)) - (iZ 1))) ||| ((x0 &&& ((x0 &&& (((iZ 1) <<< (x1 &&& 31)) - (iZ 1))) ^^^ (iZ (-1)))) <<< ((iZ 1) &&& 31)))], h, 0, 0)) rfl ?_
  exact mWp_r (v := (some (.int ((x0 &&& (((iZ 1) <<< (x1 &&& 31)) - (iZ 1))) ||| ((x0 &&& ((x0 &&& (((iZ 1) <<< (x1 &&& 31)) - (iZ 1))) ^^^ (iZ (-1)))) <<< ((iZ 1) &&& 31)))))) rfl k
theorem b128_0 {h : mH} {Q : Option Value → mH → Prop} {x0 : Int32}  (k : mWp mCd 128 (4, [some (.int x0), some (.int (iZ 1)), some (.int (iZ 2))], [], h, 0, 0) Q) : mWp mCd 128 (0, [some (.int x0), none, none], [], h, 0, 0) Q := by
  refine mWp_run 4 (t' := (4, [some (.int x0), some (.int (iZ 1)), some (.int (iZ 2))], [], h, 0, 0)) rfl ?_
  exact k
theorem b128_4 {h : mH} {Q : Option Value → mH → Prop} {x0 : Int32} {x1 : Int32} {x2 : Int32}  (k1 : x0 < x2 → mWp mCd 128 (19, [none, some (.int x1), none], [], h, 0, 0) Q) (k2 : ¬ (x0 < x2) → mWp mCd 128 (9, [some (.int x0), some (.int x1), some (.int x2)], [], h, 0, 0) Q) : mWp mCd 128 (4, [some (.int x0), some (.int x1), some (.int x2)], [], h, 0, 0) Q := by
  refine mWp_run 2 (t' := (6, [some (.int x0), some (.int x1), some (.int x2)], [.int x0, .int x2], h, 0, 0)) rfl ?_
  exact mWp_ic (P := fun x y => y < x) (a := x2) (b := x0) rfl (fun q => mWp_weak (mLe_n (mLe_s (mLe_n mLe_0))) (k1 q)) k2
theorem b128_19 {h : mH} {Q : Option Value → mH → Prop} {x1 : Int32}  (k : Q (some (.int x1)) h) : mWp mCd 128 (19, [none, some (.int x1), none], [], h, 0, 0) Q := by
  refine mWp_run 1 (t' := (20, [none, some (.int x1), none], [.int x1], h, 0, 0)) rfl ?_
  exact mWp_r (v := (some (.int x1))) rfl k
theorem b128_9 {h : mH} {Q : Option Value → mH → Prop} {x0 : Int32} {x1 : Int32} {x2 : Int32}  (k : mWp mCd 128 (4, [some (.int x0), some (.int (x1 * x2)), some (.int (x2 + iZ 1))], [], h, 0, 0) Q) : mWp mCd 128 (9, [some (.int x0), some (.int x1), some (.int x2)], [], h, 0, 0) Q := by
  refine mWp_run 6 (t' := (4, [some (.int x0), some (.int (x1 * x2)), some (.int (x2 + iZ 1))], [], h, 0, 0)) rfl ?_
  exact k
theorem b129_0 {h : mH} {Q : Option Value → mH → Prop} {x0 : Int32}  (k1 : (x0.toInt < 2 ∨ 4 < x0.toInt) → mWp mCd 129 (40, [none], [], h, 0, 0) Q) (k2 : ¬ (x0.toInt < 2 ∨ 4 < x0.toInt) → ∃ t, ([28, 32, 36] : List Nat)[(x0.toInt - 2).toNat]? = some t ∧ mWp mCd 129 (t, [none], [], h, 0, 0) Q) : mWp mCd 129 (0, [some (.int x0)], [], h, 0, 0) Q := by
  refine mWp_run 1 (t' := (1, [some (.int x0)], [.int x0], h, 0, 0)) rfl ?_
  refine mWp_weak (L := [none]) (mLe_n mLe_0) ?_
  exact mWp_ts rfl k1 k2
theorem b129_40 {h : mH} {Q : Option Value → mH → Prop}   (k : Q (some (.ref 1)) h) : mWp mCd 129 (40, [none], [], h, 0, 0) Q := by
  refine mWp_run 1 (t' := (43, [none], [.ref 1], h, 0, 0)) rfl ?_
  exact mWp_r (v := (some (.ref 1))) rfl k
theorem b129_28 {h : mH} {Q : Option Value → mH → Prop}   (k : Q (some (.ref 2)) h) : mWp mCd 129 (28, [none], [], h, 0, 0) Q := by
  refine mWp_run 1 (t' := (31, [none], [.ref 2], h, 0, 0)) rfl ?_
  exact mWp_r (v := (some (.ref 2))) rfl k
theorem b129_32 {h : mH} {Q : Option Value → mH → Prop}   (k : Q (some (.ref 3)) h) : mWp mCd 129 (32, [none], [], h, 0, 0) Q := by
  refine mWp_run 1 (t' := (35, [none], [.ref 3], h, 0, 0)) rfl ?_
  exact mWp_r (v := (some (.ref 3))) rfl k
theorem b129_36 {h : mH} {Q : Option Value → mH → Prop}   (k : Q (some (.ref 4)) h) : mWp mCd 129 (36, [none], [], h, 0, 0) Q := by
  refine mWp_run 1 (t' := (39, [none], [.ref 4], h, 0, 0)) rfl ?_
  exact mWp_r (v := (some (.ref 4))) rfl k
theorem b130_0 {h : mH} {Q : Option Value → mH → Prop} {y0 : Int64} {x2 : Int32}  (k : Q (some (.int ((Int64.toInt32 (y0 >>> ((((iZ 8) * x2) + (iZ 4) : Int32).toInt64 &&& 63))) &&& (iZ 15)))) h) : mWp mCd 130 (0, [some (.long y0), none, some (.int x2)], [], h, 0, 0) Q := by
  refine mWp_run 10 (t' := (12, [some (.long y0), none, some (.int x2)], [.int ((Int64.toInt32 (y0 >>> ((((iZ 8) * x2) + (iZ 4) : Int32).toInt64 &&& 63))) &&& (iZ 15))], h, 0, 0)) rfl ?_
  exact mWp_r (v := (some (.int ((Int64.toInt32 (y0 >>> ((((iZ 8) * x2) + (iZ 4) : Int32).toInt64 &&& 63))) &&& (iZ 15))))) rfl k
theorem b131_0 {h : mH} {Q : Option Value → mH → Prop} {y0 : Int64} {x2 : Int32}  (k : Q (some (.int ((Int64.toInt32 (y0 >>> (((iZ 8) * x2 : Int32).toInt64 &&& 63))) &&& (iZ 15)))) h) : mWp mCd 131 (0, [some (.long y0), none, some (.int x2)], [], h, 0, 0) Q := by
  refine mWp_run 8 (t' := (10, [some (.long y0), none, some (.int x2)], [.int ((Int64.toInt32 (y0 >>> (((iZ 8) * x2 : Int32).toInt64 &&& 63))) &&& (iZ 15))], h, 0, 0)) rfl ?_
  exact mWp_r (v := (some (.int ((Int64.toInt32 (y0 >>> (((iZ 8) * x2 : Int32).toInt64 &&& 63))) &&& (iZ 15))))) rfl k
theorem b132_0 {h : mH} {Q : Option Value → mH → Prop} {y0 : Int64} {x2 : Int32}  (k : mWp mCd 132 (2, [some (.long y0), none, some (.int x2), some (.int (iZ 0))], [], h, 0, 0) Q) : mWp mCd 132 (0, [some (.long y0), none, some (.int x2), none], [], h, 0, 0) Q := by
  refine mWp_run 2 (t' := (2, [some (.long y0), none, some (.int x2), some (.int (iZ 0))], [], h, 0, 0)) rfl ?_
  exact k
theorem b132_2 {h : mH} {Q : Option Value → mH → Prop} {y0 : Int64} {x2 : Int32} {x3 : Int32}  (k1 : (iZ 4) ≤ x3 → mWp mCd 132 (28, [none, none, none, none], [], h, 0, 0) Q) (k2 : ¬ ((iZ 4) ≤ x3) → mWp mCd 132 (7, [some (.long y0), none, some (.int x2), some (.int x3)], [], h, 0, 0) Q) : mWp mCd 132 (2, [some (.long y0), none, some (.int x2), some (.int x3)], [], h, 0, 0) Q := by
  refine mWp_run 2 (t' := (4, [some (.long y0), none, some (.int x2), some (.int x3)], [.int (iZ 4), .int x3], h, 0, 0)) rfl ?_
  exact mWp_ic (P := fun x y => y ≤ x) (a := x3) (b := iZ 4) rfl (fun q => mWp_weak (mLe_n (mLe_n (mLe_n (mLe_n mLe_0)))) (k1 q)) k2
theorem b132_28 {h : mH} {Q : Option Value → mH → Prop}   (k : Q (some (.int (iZ 0))) h) : mWp mCd 132 (28, [none, none, none, none], [], h, 0, 0) Q := by
  refine mWp_run 1 (t' := (29, [none, none, none, none], [.int (iZ 0)], h, 0, 0)) rfl ?_
  exact mWp_r (v := (some (.int (iZ 0)))) rfl k
theorem b132_7 {h : mH} {Q : Option Value → mH → Prop} {y0 : Int64} {x2 : Int32} {x3 : Int32}  (k : mCt mCd 130 [.long y0, .int x3] h (fun rv hv => mWp mCd 132 (12, [some (.long y0), none, some (.int x2), some (.int x3)], rv.toList ++ [], hv, 0, 0) Q)) : mWp mCd 132 (7, [some (.long y0), none, some (.int x2), some (.int x3)], [], h, 0, 0) Q := by
  refine mWp_run 2 (t' := (9, [some (.long y0), none, some (.int x2), some (.int x3)], [.int x3, .long y0], h, 0, 0)) rfl ?_
  exact mWp_is rfl rfl rfl rfl rfl k
theorem b132_12 {h : mH} {Q : Option Value → mH → Prop} {y0 : Int64} {x2 : Int32} {x3 : Int32} {u0 : Int32}  (k1 : ¬ u0 = x2 → mWp mCd 132 (22, [some (.long y0), none, some (.int x2), some (.int x3)], [], h, 0, 0) Q) (k2 : ¬ (¬ u0 = x2) → mWp mCd 132 (16, [some (.long y0), none, none, some (.int x3)], [], h, 0, 0) Q) : mWp mCd 132 (12, [some (.long y0), none, some (.int x2), some (.int x3)], [.int u0], h, 0, 0) Q := by
  refine mWp_run 1 (t' := (13, [some (.long y0), none, some (.int x2), some (.int x3)], [.int x2, .int u0], h, 0, 0)) rfl ?_
  exact mWp_ic (P := fun x y => ¬ x = y) (a := u0) (b := x2) rfl k1 (fun q => mWp_weak (mLe_s (mLe_n (mLe_n (mLe_s mLe_0)))) (k2 q))
theorem b132_22 {h : mH} {Q : Option Value → mH → Prop} {y0 : Int64} {x2 : Int32} {x3 : Int32}  (k : mWp mCd 132 (2, [some (.long y0), none, some (.int x2), some (.int (x3 + iZ 1))], [], h, 0, 0) Q) : mWp mCd 132 (22, [some (.long y0), none, some (.int x2), some (.int x3)], [], h, 0, 0) Q := by
  refine mWp_run 2 (t' := (2, [some (.long y0), none, some (.int x2), some (.int (x3 + iZ 1))], [], h, 0, 0)) rfl ?_
  exact k
theorem b132_16 {h : mH} {Q : Option Value → mH → Prop} {y0 : Int64} {x3 : Int32}  (k : mCt mCd 131 [.long y0, .int x3] h (fun rv hv => mWp mCd 132 (21, [none, none, none, none], rv.toList ++ [], hv, 0, 0) Q)) : mWp mCd 132 (16, [some (.long y0), none, none, some (.int x3)], [], h, 0, 0) Q := by
  refine mWp_run 2 (t' := (18, [some (.long y0), none, none, some (.int x3)], [.int x3, .long y0], h, 0, 0)) rfl ?_
  exact mWp_is rfl rfl rfl rfl rfl (mCt_mono k (fun rv hv y => mWp_weak (mLe_n (mLe_n (mLe_n (mLe_n mLe_0)))) y))
theorem b132_21 {h : mH} {Q : Option Value → mH → Prop} {u0 : Int32}  (k : Q (some (.int u0)) h) : mWp mCd 132 (21, [none, none, none, none], [.int u0], h, 0, 0) Q := by
  exact mWp_r (v := (some (.int u0))) rfl k
theorem b133_0 {h : mH} {Q : Option Value → mH → Prop} {y0 : Int64}  (k : mWp mCd 133 (4, [some (.long y0), none, some (.int (iZ 0)), some (.int (iZ 0))], [], h, 0, 0) Q) : mWp mCd 133 (0, [some (.long y0), none, none, none], [], h, 0, 0) Q := by
  refine mWp_run 4 (t' := (4, [some (.long y0), none, some (.int (iZ 0)), some (.int (iZ 0))], [], h, 0, 0)) rfl ?_
  exact k
theorem b133_4 {h : mH} {Q : Option Value → mH → Prop} {y0 : Int64} {x2 : Int32} {x3 : Int32}  (k1 : (iZ 4) ≤ x3 → mWp mCd 133 (23, [none, none, some (.int x2), none], [], h, 0, 0) Q) (k2 : ¬ ((iZ 4) ≤ x3) → mWp mCd 133 (9, [some (.long y0), none, some (.int x2), some (.int x3)], [], h, 0, 0) Q) : mWp mCd 133 (4, [some (.long y0), none, some (.int x2), some (.int x3)], [], h, 0, 0) Q := by
  refine mWp_run 2 (t' := (6, [some (.long y0), none, some (.int x2), some (.int x3)], [.int (iZ 4), .int x3], h, 0, 0)) rfl ?_
  exact mWp_ic (P := fun x y => y ≤ x) (a := x3) (b := iZ 4) rfl (fun q => mWp_weak (mLe_n (mLe_n (mLe_s (mLe_n mLe_0)))) (k1 q)) k2
theorem b133_23 {h : mH} {Q : Option Value → mH → Prop} {x2 : Int32}  (k : Q (some (.int x2)) h) : mWp mCd 133 (23, [none, none, some (.int x2), none], [], h, 0, 0) Q := by
  refine mWp_run 1 (t' := (24, [none, none, some (.int x2), none], [.int x2], h, 0, 0)) rfl ?_
  exact mWp_r (v := (some (.int x2))) rfl k
theorem b133_9 {h : mH} {Q : Option Value → mH → Prop} {y0 : Int64} {x2 : Int32} {x3 : Int32}  (k : mCt mCd 131 [.long y0, .int x3] h (fun rv hv => mWp mCd 133 (15, [some (.long y0), none, none, some (.int x3)], rv.toList ++ [.int x2], hv, 0, 0) Q)) : mWp mCd 133 (9, [some (.long y0), none, some (.int x2), some (.int x3)], [], h, 0, 0) Q := by
  refine mWp_run 3 (t' := (12, [some (.long y0), none, some (.int x2), some (.int x3)], [.int x3, .long y0, .int x2], h, 0, 0)) rfl ?_
  exact mWp_is rfl rfl rfl rfl rfl (mCt_mono k (fun rv hv y => mWp_weak (mLe_s (mLe_n (mLe_n (mLe_s mLe_0)))) y))
theorem b133_15 {h : mH} {Q : Option Value → mH → Prop} {y0 : Int64} {x3 : Int32} {u0 : Int32} {u1 : Int32}  (k : mWp mCd 133 (4, [some (.long y0), none, some (.int (u1 + u0)), some (.int (x3 + iZ 1))], [], h, 0, 0) Q) : mWp mCd 133 (15, [some (.long y0), none, none, some (.int x3)], [.int u0, .int u1], h, 0, 0) Q := by
  refine mWp_run 4 (t' := (4, [some (.long y0), none, some (.int (u1 + u0)), some (.int (x3 + iZ 1))], [], h, 0, 0)) rfl ?_
  exact k
theorem b134_0 {h : mH} {Q : Option Value → mH → Prop} {y0 : Int64} {y2 : Int64} {x4 : Int32}  (k : mCt mCd 218 [.long y0] h (fun rv hv => mWp mCd 134 (4, [some (.long y0), none, some (.long y2), none, some (.int x4), none, none], rv.toList ++ [], hv, 0, 0) Q)) : mWp mCd 134 (0, [some (.long y0), none, some (.long y2), none, some (.int x4), none, none], [], h, 0, 0) Q := by
  refine mWp_run 1 (t' := (1, [some (.long y0), none, some (.long y2), none, some (.int x4), none, none], [.long y0], h, 0, 0)) rfl ?_
  exact mWp_is rfl rfl rfl rfl rfl k
theorem b134_4 {h : mH} {Q : Option Value → mH → Prop} {y0 : Int64} {y2 : Int64} {x4 : Int32} {w0 : Int64}  (k : mCt mCd 135 [.long w0, .long y2] h (fun rv hv => mWp mCd 134 (8, [some (.long y0), none, some (.long y2), none, some (.int x4), none, none], rv.toList ++ [], hv, 0, 0) Q)) : mWp mCd 134 (4, [some (.long y0), none, some (.long y2), none, some (.int x4), none, none], [.long w0], h, 0, 0) Q := by
  refine mWp_run 1 (t' := (5, [some (.long y0), none, some (.long y2), none, some (.int x4), none, none], [.long y2, .long w0], h, 0, 0)) rfl ?_
  exact mWp_is rfl rfl rfl rfl rfl k
theorem b134_8 {h : mH} {Q : Option Value → mH → Prop} {y0 : Int64} {y2 : Int64} {x4 : Int32} {w0 : Int64}  (k1 : (lg_cmp w0 (lZ 1)) < 0 → mWp mCd 134 (28, [none, none, none, none, none, none, none], [], h, 0, 0) Q) (k2 : ¬ ((lg_cmp w0 (lZ 1)) < 0) → mWp mCd 134 (17, [some (.long y0), none, some (.long y2), none, some (.int x4), some (.long w0), none], [], h, 0, 0) Q) : mWp mCd 134 (8, [some (.long y0), none, some (.long y2), none, some (.int x4), none, none], [.long w0], h, 0, 0) Q := by
  refine mWp_run 4 (t' := (14, [some (.long y0), none, some (.long y2), none, some (.int x4), some (.long w0), none], [.int (lg_cmp w0 (lZ 1))], h, 0, 0)) rfl ?_
  exact mWp_if (P := fun x => x < 0) (a := lg_cmp w0 (lZ 1)) rfl (fun q => mWp_weak (mLe_n (mLe_n (mLe_n (mLe_n (mLe_n (mLe_n (mLe_n mLe_0))))))) (k1 q)) k2
theorem b134_28 {h : mH} {Q : Option Value → mH → Prop}   (k : Q (some (.long (lZ (-4611686018427387904)))) h) : mWp mCd 134 (28, [none, none, none, none, none, none, none], [], h, 0, 0) Q := by
  refine mWp_run 1 (t' := (31, [none, none, none, none, none, none, none], [.long (lZ (-4611686018427387904))], h, 0, 0)) rfl ?_
  exact mWp_r (v := (some (.long (lZ (-4611686018427387904))))) rfl k
theorem b134_17 {h : mH} {Q : Option Value → mH → Prop} {y0 : Int64} {y2 : Int64} {x4 : Int32} {y5 : Int64}  (k1 : x4 = 0 → mWp mCd 134 (32, [some (.long y0), none, some (.long y2), none, some (.int x4), some (.long y5), none], [], h, 0, 0) Q) (k2 : ¬ (x4 = 0) → mWp mCd 134 (22, [some (.long y0), none, some (.long y2), none, some (.int x4), some (.long y5), none], [], h, 0, 0) Q) : mWp mCd 134 (17, [some (.long y0), none, some (.long y2), none, some (.int x4), some (.long y5), none], [], h, 0, 0) Q := by
  refine mWp_run 1 (t' := (19, [some (.long y0), none, some (.long y2), none, some (.int x4), some (.long y5), none], [.int x4], h, 0, 0)) rfl ?_
  exact mWp_if (P := fun x => x = 0) (a := x4) rfl k1 k2
theorem b134_32 {h : mH} {Q : Option Value → mH → Prop} {y0 : Int64} {y2 : Int64} {x4 : Int32} {y5 : Int64}  (k1 : ¬ x4 = 0 → mWp mCd 134 (41, [none, none, some (.long y2), none, none, some (.long y5), none], [], h, 0, 0) Q) (k2 : ¬ (¬ x4 = 0) → mWp mCd 134 (37, [some (.long y0), none, none, none, none, some (.long y5), none], [], h, 0, 0) Q) : mWp mCd 134 (32, [some (.long y0), none, some (.long y2), none, some (.int x4), some (.long y5), none], [], h, 0, 0) Q := by
  refine mWp_run 1 (t' := (34, [some (.long y0), none, some (.long y2), none, some (.int x4), some (.long y5), none], [.int x4], h, 0, 0)) rfl ?_
  exact mWp_if (P := fun x => ¬ x = 0) (a := x4) rfl (fun q => mWp_weak (mLe_n (mLe_n (mLe_s (mLe_n (mLe_n (mLe_s (mLe_n mLe_0))))))) (k1 q)) (fun q => mWp_weak (mLe_s (mLe_n (mLe_n (mLe_n (mLe_n (mLe_s (mLe_n mLe_0))))))) (k2 q))
theorem b134_22 {h : mH} {Q : Option Value → mH → Prop} {y0 : Int64} {y2 : Int64} {x4 : Int32} {y5 : Int64}  (k1 : x4 = (iZ 1) → mWp mCd 134 (32, [some (.long y0), none, some (.long y2), none, some (.int x4), some (.long y5), none], [], h, 0, 0) Q) (k2 : ¬ (x4 = (iZ 1)) → mWp mCd 134 (28, [none, none, none, none, none, none, none], [], h, 0, 0) Q) : mWp mCd 134 (22, [some (.long y0), none, some (.long y2), none, some (.int x4), some (.long y5), none], [], h, 0, 0) Q := by
  refine mWp_run 2 (t' := (25, [some (.long y0), none, some (.long y2), none, some (.int x4), some (.long y5), none], [.int (iZ 1), .int x4], h, 0, 0)) rfl ?_
  exact mWp_ic (P := fun x y => x = y) (a := x4) (b := iZ 1) rfl k1 (fun q => mWp_weak (mLe_n (mLe_n (mLe_n (mLe_n (mLe_n (mLe_n (mLe_n mLe_0))))))) (k2 q))
theorem b134_41 {h : mH} {Q : Option Value → mH → Prop} {y2 : Int64} {y5 : Int64} (e1 : ¬ y5 = 0) (k : Q (some (.long (y2 / y5))) h) : mWp mCd 134 (41, [none, none, some (.long y2), none, none, some (.long y5), none], [], h, 0, 0) Q := by
  refine mWp_run 2 (t' := (44, [none, none, some (.long y2), none, none, some (.long y5), none], [.long y5, .long y2], h, 0, 0)) rfl ?_
  refine mWp_ldv (f := fun x y => x / y) rfl e1 ?_
  exact mWp_r (v := (some (.long (y2 / y5)))) rfl k
theorem b134_37 {h : mH} {Q : Option Value → mH → Prop} {y0 : Int64} {y5 : Int64} (e1 : ¬ y5 = 0) (k : Q (some (.long (y0 / y5))) h) : mWp mCd 134 (37, [some (.long y0), none, none, none, none, some (.long y5), none], [], h, 0, 0) Q := by
  refine mWp_run 3 (t' := (44, [some (.long y0), none, none, none, none, some (.long y5), none], [.long y5, .long y0], h, 0, 0)) rfl ?_
  refine mWp_ldv (f := fun x y => x / y) rfl e1 ?_
  exact mWp_r (v := (some (.long (y0 / y5)))) rfl k
theorem b135_0 {h : mH} {Q : Option Value → mH → Prop} {y0 : Int64} {y2 : Int64}  (k : mWp mCd 135 (9, [none, none, none, none, some (.long y0), none, some (.long y2), none, some (.int (iZ 0)), none, none], [], h, 0, 0) Q) : mWp mCd 135 (0, [some (.long y0), none, some (.long y2), none, none, none, none, none, none, none, none], [], h, 0, 0) Q := by
  refine mWp_run 6 (t' := (9, [some (.long y0), none, some (.long y2), none, some (.long y0), none, some (.long y2), none, some (.int (iZ 0)), none, none], [], h, 0, 0)) rfl ?_
  exact mWp_weak (mLe_n (mLe_n (mLe_n (mLe_n (mLe_s (mLe_n (mLe_s (mLe_n (mLe_s (mLe_n (mLe_n mLe_0))))))))))) k
theorem b135_9 {h : mH} {Q : Option Value → mH → Prop} {y4 : Int64} {y6 : Int64} {x8 : Int32}  (k1 : (iZ 128) ≤ x8 → mWp mCd 135 (45, [none, none, none, none, some (.long y4), none, none, none, none, none, none], [], h, 0, 0) Q) (k2 : ¬ ((iZ 128) ≤ x8) → mWp mCd 135 (17, [none, none, none, none, some (.long y4), none, some (.long y6), none, some (.int x8), none, none], [], h, 0, 0) Q) : mWp mCd 135 (9, [none, none, none, none, some (.long y4), none, some (.long y6), none, some (.int x8), none, none], [], h, 0, 0) Q := by
  refine mWp_run 2 (t' := (14, [none, none, none, none, some (.long y4), none, some (.long y6), none, some (.int x8), none, none], [.int (iZ 128), .int x8], h, 0, 0)) rfl ?_
  exact mWp_ic (P := fun x y => y ≤ x) (a := x8) (b := iZ 128) rfl (fun q => mWp_weak (mLe_n (mLe_n (mLe_n (mLe_n (mLe_s (mLe_n (mLe_n (mLe_n (mLe_n (mLe_n (mLe_n mLe_0))))))))))) (k1 q)) k2
theorem b135_45 {h : mH} {Q : Option Value → mH → Prop} {y4 : Int64}  (k : Q (some (.long y4)) h) : mWp mCd 135 (45, [none, none, none, none, some (.long y4), none, none, none, none, none, none], [], h, 0, 0) Q := by
  refine mWp_run 1 (t' := (47, [none, none, none, none, some (.long y4), none, none, none, none, none, none], [.long y4], h, 0, 0)) rfl ?_
  exact mWp_r (v := (some (.long y4))) rfl k
theorem b135_17 {h : mH} {Q : Option Value → mH → Prop} {y4 : Int64} {y6 : Int64} {x8 : Int32}  (k1 : (lg_cmp y6 (lZ 0)) = 0 → mWp mCd 135 (45, [none, none, none, none, some (.long y4), none, none, none, none, none, none], [], h, 0, 0) Q) (k2 : ¬ ((lg_cmp y6 (lZ 0)) = 0) → mWp mCd 135 (24, [none, none, none, none, some (.long y4), none, some (.long y6), none, some (.int x8), none, none], [], h, 0, 0) Q) : mWp mCd 135 (17, [none, none, none, none, some (.long y4), none, some (.long y6), none, some (.int x8), none, none], [], h, 0, 0) Q := by
  refine mWp_run 3 (t' := (21, [none, none, none, none, some (.long y4), none, some (.long y6), none, some (.int x8), none, none], [.int (lg_cmp y6 (lZ 0))], h, 0, 0)) rfl ?_
  exact mWp_if (P := fun x => x = 0) (a := lg_cmp y6 (lZ 0)) rfl (fun q => mWp_weak (mLe_n (mLe_n (mLe_n (mLe_n (mLe_s (mLe_n (mLe_n (mLe_n (mLe_n (mLe_n (mLe_n mLe_0))))))))))) (k1 q)) k2
theorem b135_24 {h : mH} {Q : Option Value → mH → Prop} {y4 : Int64} {y6 : Int64} {x8 : Int32} (e1 : ¬ y6 = 0) (k : mWp mCd 135 (9, [none, none, none, none, some (.long y6), none, some (.long (y4 - y4 / y6 * y6)), none, some (.int (x8 + iZ 1)), none, none], [], h, 0, 0) Q) : mWp mCd 135 (24, [none, none, none, none, some (.long y4), none, some (.long y6), none, some (.int x8), none, none], [], h, 0, 0) Q := by
  refine mWp_run 2 (t' := (28, [none, none, none, none, some (.long y4), none, some (.long y6), none, some (.int x8), none, none], [.long y6, .long y4], h, 0, 0)) rfl ?_
  refine mWp_ldv (f := fun x y => x - x / y * y) rfl e1 ?_
  refine mWp_run 7 (t' := (9, [none, none, none, none, some (.long y6), none, some (.long (y4 - y4 / y6 * y6)), none, some (.int (x8 + iZ 1)), some (.long (y4 - y4 / y6 * y6)), none], [], h, 0, 0)) rfl ?_
  exact mWp_weak (mLe_n (mLe_n (mLe_n (mLe_n (mLe_s (mLe_n (mLe_s (mLe_n (mLe_s (mLe_n (mLe_n mLe_0))))))))))) k
theorem b136_0 {h : mH} {Q : Option Value → mH → Prop} {r0 : Nat} {ci101 : Nat} {fs102 : List Value} (e1 : h[r0]? = some (.inr (ci101, fs102))) (e2 : ([10] : List Nat).contains ci101 = true) (e3 : Nat.blt 0 fs102.length = true) (k : mWp mCd 136 (14, [some (.ref r0)], [.ref (((h.set r0 (.inr (ci101, fs102.set 0 (.int (iZ 0)))))).length), .ref r0], ((h.set r0 (.inr (ci101, fs102.set 0 (.int (iZ 0))))) ++ [aI 11 (fun _ => 0)]), 1, 11) Q) : mWp mCd 136 (0, [some (.ref r0)], [], h, 0, 0) Q := by
  refine mWp_run 1 (t' := (1, [some (.ref r0)], [.ref r0], h, 0, 0)) rfl ?_
  refine mWp_run 3 (t' := (6, [some (.ref r0)], [.int (iZ 0), .ref r0], h, 0, 0)) rfl ?_
  refine mWp_pf rfl e1 e2 rfl e3 ?_
  show mWp mCd 136 (9, [some (.ref r0)], [], (h.set r0 (.inr (ci101, fs102.set 0 (.int (iZ 0))))), 0, 0) Q
  refine mWp_run 2 (t' := (12, [some (.ref r0)], [.int (iZ 11), .ref r0], (h.set r0 (.inr (ci101, fs102.set 0 (.int (iZ 0))))), 0, 0)) rfl ?_
  refine mWp_run 1 (t' := (14, [some (.ref r0)], [.ref (((h.set r0 (.inr (ci101, fs102.set 0 (.int (iZ 0)))))).length), .ref r0], ((h.set r0 (.inr (ci101, fs102.set 0 (.int (iZ 0))))) ++ [aI 11 (fun _ => 0)]), 1, 11)) rfl ?_
  exact k
theorem b136_14 {h : mH} {Q : Option Value → mH → Prop} {r0 : Nat} {q0 : Nat} {q1 : Nat} {ci101 : Nat} {fs102 : List Value} (e1 : h[q1]? = some (.inr (ci101, fs102))) (e2 : ([10] : List Nat).contains ci101 = true) (e3 : Nat.blt 1 fs102.length = true) (k : mWp mCd 136 (22, [some (.ref r0)], [.ref (((h.set q1 (.inr (ci101, fs102.set 1 (.ref q0))))).length), .ref r0], ((h.set q1 (.inr (ci101, fs102.set 1 (.ref q0)))) ++ [aI 11 (fun _ => 0)]), 2, 22) Q) : mWp mCd 136 (14, [some (.ref r0)], [.ref q0, .ref q1], h, 1, 11) Q := by
  refine mWp_pf rfl e1 e2 rfl e3 ?_
  show mWp mCd 136 (17, [some (.ref r0)], [], (h.set q1 (.inr (ci101, fs102.set 1 (.ref q0)))), 1, 11) Q
  refine mWp_run 2 (t' := (20, [some (.ref r0)], [.int (iZ 11), .ref r0], (h.set q1 (.inr (ci101, fs102.set 1 (.ref q0)))), 1, 11)) rfl ?_
  refine mWp_run 1 (t' := (22, [some (.ref r0)], [.ref (((h.set q1 (.inr (ci101, fs102.set 1 (.ref q0))))).length), .ref r0], ((h.set q1 (.inr (ci101, fs102.set 1 (.ref q0)))) ++ [aI 11 (fun _ => 0)]), 2, 22)) rfl ?_
  exact k
theorem b136_22 {h : mH} {Q : Option Value → mH → Prop} {r0 : Nat} {q0 : Nat} {q1 : Nat} {ci101 : Nat} {fs102 : List Value} (e1 : h[q1]? = some (.inr (ci101, fs102))) (e2 : ([10] : List Nat).contains ci101 = true) (e3 : Nat.blt 2 fs102.length = true) (k : mWp mCd 136 (31, [some (.ref r0)], [.ref (((h.set q1 (.inr (ci101, fs102.set 2 (.ref q0))))).length), .ref r0], ((h.set q1 (.inr (ci101, fs102.set 2 (.ref q0)))) ++ [aL 176 (fun _ => 0)]), 3, 198) Q) : mWp mCd 136 (22, [some (.ref r0)], [.ref q0, .ref q1], h, 2, 22) Q := by
  refine mWp_pf rfl e1 e2 rfl e3 ?_
  show mWp mCd 136 (25, [some (.ref r0)], [], (h.set q1 (.inr (ci101, fs102.set 2 (.ref q0)))), 2, 22) Q
  refine mWp_run 2 (t' := (29, [some (.ref r0)], [.int (iZ 176), .ref r0], (h.set q1 (.inr (ci101, fs102.set 2 (.ref q0)))), 2, 22)) rfl ?_
  refine mWp_run 1 (t' := (31, [some (.ref r0)], [.ref (((h.set q1 (.inr (ci101, fs102.set 2 (.ref q0))))).length), .ref r0], ((h.set q1 (.inr (ci101, fs102.set 2 (.ref q0)))) ++ [aL 176 (fun _ => 0)]), 3, 198)) rfl ?_
  exact k
theorem b136_31 {h : mH} {Q : Option Value → mH → Prop} {r0 : Nat} {q0 : Nat} {q1 : Nat} {ci101 : Nat} {fs102 : List Value} (e1 : h[q1]? = some (.inr (ci101, fs102))) (e2 : ([10] : List Nat).contains ci101 = true) (e3 : Nat.blt 3 fs102.length = true) (k : mWp mCd 136 (39, [some (.ref r0)], [.ref (((h.set q1 (.inr (ci101, fs102.set 3 (.ref q0))))).length), .ref r0], ((h.set q1 (.inr (ci101, fs102.set 3 (.ref q0)))) ++ [aL 20 (fun _ => 0)]), 4, 218) Q) : mWp mCd 136 (31, [some (.ref r0)], [.ref q0, .ref q1], h, 3, 198) Q := by
  refine mWp_pf rfl e1 e2 rfl e3 ?_
  show mWp mCd 136 (34, [some (.ref r0)], [], (h.set q1 (.inr (ci101, fs102.set 3 (.ref q0)))), 3, 198) Q
  refine mWp_run 2 (t' := (37, [some (.ref r0)], [.int (iZ 20), .ref r0], (h.set q1 (.inr (ci101, fs102.set 3 (.ref q0)))), 3, 198)) rfl ?_
  refine mWp_run 1 (t' := (39, [some (.ref r0)], [.ref (((h.set q1 (.inr (ci101, fs102.set 3 (.ref q0))))).length), .ref r0], ((h.set q1 (.inr (ci101, fs102.set 3 (.ref q0)))) ++ [aL 20 (fun _ => 0)]), 4, 218)) rfl ?_
  exact k
theorem b136_39 {h : mH} {Q : Option Value → mH → Prop} {r0 : Nat} {q0 : Nat} {q1 : Nat} {ci101 : Nat} {fs102 : List Value} {ci103 : Nat} {fs104 : List Value} (e1 : h[q1]? = some (.inr (ci101, fs102))) (e2 : ([10] : List Nat).contains ci101 = true) (e3 : Nat.blt 4 fs102.length = true) (e4 : h[r0]? = some (.inr (ci103, fs104))) (e5 : q1 ≠ r0) (e6 : ([10] : List Nat).contains ci103 = true) (e7 : Nat.blt 5 fs104.length = true) (k : mWp mCd 136 (53, [some (.ref r0)], [.ref ((((h.set q1 (.inr (ci101, fs102.set 4 (.ref q0)))).set r0 (.inr (ci103, fs104.set 5 (.int (iZ 0)))))).length), .ref r0], (((h.set q1 (.inr (ci101, fs102.set 4 (.ref q0)))).set r0 (.inr (ci103, fs104.set 5 (.int (iZ 0))))) ++ [aL 1600 (fun _ => 0)]), 5, 1818) Q) : mWp mCd 136 (39, [some (.ref r0)], [.ref q0, .ref q1], h, 4, 218) Q := by
  refine mWp_pf rfl e1 e2 rfl e3 ?_
  show mWp mCd 136 (42, [some (.ref r0)], [], (h.set q1 (.inr (ci101, fs102.set 4 (.ref q0)))), 4, 218) Q
  refine mWp_run 2 (t' := (44, [some (.ref r0)], [.int (iZ 0), .ref r0], (h.set q1 (.inr (ci101, fs102.set 4 (.ref q0)))), 4, 218)) rfl ?_
  refine mWp_pf rfl (mGn e5 e4) e6 rfl e7 ?_
  show mWp mCd 136 (47, [some (.ref r0)], [], ((h.set q1 (.inr (ci101, fs102.set 4 (.ref q0)))).set r0 (.inr (ci103, fs104.set 5 (.int (iZ 0))))), 4, 218) Q
  refine mWp_run 2 (t' := (51, [some (.ref r0)], [.int (iZ 1600), .ref r0], ((h.set q1 (.inr (ci101, fs102.set 4 (.ref q0)))).set r0 (.inr (ci103, fs104.set 5 (.int (iZ 0))))), 4, 218)) rfl ?_
  refine mWp_run 1 (t' := (53, [some (.ref r0)], [.ref ((((h.set q1 (.inr (ci101, fs102.set 4 (.ref q0)))).set r0 (.inr (ci103, fs104.set 5 (.int (iZ 0)))))).length), .ref r0], (((h.set q1 (.inr (ci101, fs102.set 4 (.ref q0)))).set r0 (.inr (ci103, fs104.set 5 (.int (iZ 0))))) ++ [aL 1600 (fun _ => 0)]), 5, 1818)) rfl ?_
  exact k
theorem b136_53 {h : mH} {Q : Option Value → mH → Prop} {r0 : Nat} {q0 : Nat} {q1 : Nat} {ci101 : Nat} {fs102 : List Value} (e1 : h[q1]? = some (.inr (ci101, fs102))) (e2 : ([10] : List Nat).contains ci101 = true) (e3 : Nat.blt 6 fs102.length = true) (k : mWp mCd 136 (62, [some (.ref r0)], [.ref (((h.set q1 (.inr (ci101, fs102.set 6 (.ref q0))))).length), .ref r0], ((h.set q1 (.inr (ci101, fs102.set 6 (.ref q0)))) ++ [aL 1600 (fun _ => 0)]), 6, 3418) Q) : mWp mCd 136 (53, [some (.ref r0)], [.ref q0, .ref q1], h, 5, 1818) Q := by
  refine mWp_pf rfl e1 e2 rfl e3 ?_
  show mWp mCd 136 (56, [some (.ref r0)], [], (h.set q1 (.inr (ci101, fs102.set 6 (.ref q0)))), 5, 1818) Q
  refine mWp_run 2 (t' := (60, [some (.ref r0)], [.int (iZ 1600), .ref r0], (h.set q1 (.inr (ci101, fs102.set 6 (.ref q0)))), 5, 1818)) rfl ?_
  refine mWp_run 1 (t' := (62, [some (.ref r0)], [.ref (((h.set q1 (.inr (ci101, fs102.set 6 (.ref q0))))).length), .ref r0], ((h.set q1 (.inr (ci101, fs102.set 6 (.ref q0)))) ++ [aL 1600 (fun _ => 0)]), 6, 3418)) rfl ?_
  exact k
theorem b136_62 {h : mH} {Q : Option Value → mH → Prop} {r0 : Nat} {q0 : Nat} {q1 : Nat} {ci101 : Nat} {fs102 : List Value} {ci103 : Nat} {fs104 : List Value} (e1 : h[q1]? = some (.inr (ci101, fs102))) (e2 : ([10] : List Nat).contains ci101 = true) (e3 : Nat.blt 7 fs102.length = true) (e4 : h[r0]? = some (.inr (ci103, fs104))) (e5 : q1 ≠ r0) (e6 : ([10] : List Nat).contains ci103 = true) (e7 : Nat.blt 8 fs104.length = true) (e8 : ([10] : List Nat).contains ci103 = true) (e9 : Nat.blt 9 (fs104.set 8 (.long (lZ 0))).length = true) (k : mWp mCd 136 (80, [some (.ref r0)], [.ref (((((h.set q1 (.inr (ci101, fs102.set 7 (.ref q0)))).set r0 (.inr (ci103, fs104.set 8 (.long (lZ 0))))).set r0 (.inr (ci103, (fs104.set 8 (.long (lZ 0))).set 9 (.long (lZ 0)))))).length), .ref r0], ((((h.set q1 (.inr (ci101, fs102.set 7 (.ref q0)))).set r0 (.inr (ci103, fs104.set 8 (.long (lZ 0))))).set r0 (.inr (ci103, (fs104.set 8 (.long (lZ 0))).set 9 (.long (lZ 0))))) ++ [aL 16 (fun _ => 0)]), 7, 3434) Q) : mWp mCd 136 (62, [some (.ref r0)], [.ref q0, .ref q1], h, 6, 3418) Q := by
  refine mWp_pf rfl e1 e2 rfl e3 ?_
  show mWp mCd 136 (65, [some (.ref r0)], [], (h.set q1 (.inr (ci101, fs102.set 7 (.ref q0)))), 6, 3418) Q
  refine mWp_run 2 (t' := (67, [some (.ref r0)], [.long (lZ 0), .ref r0], (h.set q1 (.inr (ci101, fs102.set 7 (.ref q0)))), 6, 3418)) rfl ?_
  refine mWp_pf rfl (mGn e5 e4) e6 rfl e7 ?_
  show mWp mCd 136 (70, [some (.ref r0)], [], ((h.set q1 (.inr (ci101, fs102.set 7 (.ref q0)))).set r0 (.inr (ci103, fs104.set 8 (.long (lZ 0))))), 6, 3418) Q
  refine mWp_run 2 (t' := (72, [some (.ref r0)], [.long (lZ 0), .ref r0], ((h.set q1 (.inr (ci101, fs102.set 7 (.ref q0)))).set r0 (.inr (ci103, fs104.set 8 (.long (lZ 0))))), 6, 3418)) rfl ?_
  refine mWp_pf rfl (mGs (mGn e5 e4)) e8 rfl e9 ?_
  show mWp mCd 136 (75, [some (.ref r0)], [], (((h.set q1 (.inr (ci101, fs102.set 7 (.ref q0)))).set r0 (.inr (ci103, fs104.set 8 (.long (lZ 0))))).set r0 (.inr (ci103, (fs104.set 8 (.long (lZ 0))).set 9 (.long (lZ 0))))), 6, 3418) Q
  refine mWp_run 2 (t' := (78, [some (.ref r0)], [.int (iZ 16), .ref r0], (((h.set q1 (.inr (ci101, fs102.set 7 (.ref q0)))).set r0 (.inr (ci103, fs104.set 8 (.long (lZ 0))))).set r0 (.inr (ci103, (fs104.set 8 (.long (lZ 0))).set 9 (.long (lZ 0))))), 6, 3418)) rfl ?_
  refine mWp_run 1 (t' := (80, [some (.ref r0)], [.ref (((((h.set q1 (.inr (ci101, fs102.set 7 (.ref q0)))).set r0 (.inr (ci103, fs104.set 8 (.long (lZ 0))))).set r0 (.inr (ci103, (fs104.set 8 (.long (lZ 0))).set 9 (.long (lZ 0)))))).length), .ref r0], ((((h.set q1 (.inr (ci101, fs102.set 7 (.ref q0)))).set r0 (.inr (ci103, fs104.set 8 (.long (lZ 0))))).set r0 (.inr (ci103, (fs104.set 8 (.long (lZ 0))).set 9 (.long (lZ 0))))) ++ [aL 16 (fun _ => 0)]), 7, 3434)) rfl ?_
  exact k
theorem b136_80 {h : mH} {Q : Option Value → mH → Prop} {r0 : Nat} {q0 : Nat} {q1 : Nat} {ci101 : Nat} {fs102 : List Value} (e1 : h[q1]? = some (.inr (ci101, fs102))) (e2 : ([10] : List Nat).contains ci101 = true) (e3 : Nat.blt 10 fs102.length = true) (k : mWp mCd 136 (88, [some (.ref r0)], [.ref (((h.set q1 (.inr (ci101, fs102.set 10 (.ref q0))))).length), .ref r0], ((h.set q1 (.inr (ci101, fs102.set 10 (.ref q0)))) ++ [aL 16 (fun _ => 0)]), 8, 3450) Q) : mWp mCd 136 (80, [some (.ref r0)], [.ref q0, .ref q1], h, 7, 3434) Q := by
  refine mWp_pf rfl e1 e2 rfl e3 ?_
  show mWp mCd 136 (83, [some (.ref r0)], [], (h.set q1 (.inr (ci101, fs102.set 10 (.ref q0)))), 7, 3434) Q
  refine mWp_run 2 (t' := (86, [some (.ref r0)], [.int (iZ 16), .ref r0], (h.set q1 (.inr (ci101, fs102.set 10 (.ref q0)))), 7, 3434)) rfl ?_
  refine mWp_run 1 (t' := (88, [some (.ref r0)], [.ref (((h.set q1 (.inr (ci101, fs102.set 10 (.ref q0))))).length), .ref r0], ((h.set q1 (.inr (ci101, fs102.set 10 (.ref q0)))) ++ [aL 16 (fun _ => 0)]), 8, 3450)) rfl ?_
  exact k
theorem b136_88 {h : mH} {Q : Option Value → mH → Prop} {r0 : Nat} {q0 : Nat} {q1 : Nat} {ci101 : Nat} {fs102 : List Value} (e1 : h[q1]? = some (.inr (ci101, fs102))) (e2 : ([10] : List Nat).contains ci101 = true) (e3 : Nat.blt 11 fs102.length = true) (k : mWp mCd 136 (96, [some (.ref r0)], [.ref (((h.set q1 (.inr (ci101, fs102.set 11 (.ref q0))))).length), .ref r0], ((h.set q1 (.inr (ci101, fs102.set 11 (.ref q0)))) ++ [aL 32 (fun _ => 0)]), 9, 3482) Q) : mWp mCd 136 (88, [some (.ref r0)], [.ref q0, .ref q1], h, 8, 3450) Q := by
  refine mWp_pf rfl e1 e2 rfl e3 ?_
  show mWp mCd 136 (91, [some (.ref r0)], [], (h.set q1 (.inr (ci101, fs102.set 11 (.ref q0)))), 8, 3450) Q
  refine mWp_run 2 (t' := (94, [some (.ref r0)], [.int (iZ 32), .ref r0], (h.set q1 (.inr (ci101, fs102.set 11 (.ref q0)))), 8, 3450)) rfl ?_
  refine mWp_run 1 (t' := (96, [some (.ref r0)], [.ref (((h.set q1 (.inr (ci101, fs102.set 11 (.ref q0))))).length), .ref r0], ((h.set q1 (.inr (ci101, fs102.set 11 (.ref q0)))) ++ [aL 32 (fun _ => 0)]), 9, 3482)) rfl ?_
  exact k
theorem b136_96 {h : mH} {Q : Option Value → mH → Prop} {r0 : Nat} {q0 : Nat} {q1 : Nat} {ci101 : Nat} {fs102 : List Value} {ci103 : Nat} {fs104 : List Value} (e1 : h[q1]? = some (.inr (ci101, fs102))) (e2 : ([10] : List Nat).contains ci101 = true) (e3 : Nat.blt 12 fs102.length = true) (e4 : h[r0]? = some (.inr (ci103, fs104))) (e5 : q1 ≠ r0) (e6 : ([10] : List Nat).contains ci103 = true) (e7 : Nat.blt 13 fs104.length = true) (k : mWp mCd 136 (109, [some (.ref r0)], [.ref ((((h.set q1 (.inr (ci101, fs102.set 12 (.ref q0)))).set r0 (.inr (ci103, fs104.set 13 (.int (iZ 0)))))).length), .ref r0], (((h.set q1 (.inr (ci101, fs102.set 12 (.ref q0)))).set r0 (.inr (ci103, fs104.set 13 (.int (iZ 0))))) ++ [aL 32 (fun _ => 0)]), 10, 3514) Q) : mWp mCd 136 (96, [some (.ref r0)], [.ref q0, .ref q1], h, 9, 3482) Q := by
  refine mWp_pf rfl e1 e2 rfl e3 ?_
  show mWp mCd 136 (99, [some (.ref r0)], [], (h.set q1 (.inr (ci101, fs102.set 12 (.ref q0)))), 9, 3482) Q
  refine mWp_run 2 (t' := (101, [some (.ref r0)], [.int (iZ 0), .ref r0], (h.set q1 (.inr (ci101, fs102.set 12 (.ref q0)))), 9, 3482)) rfl ?_
  refine mWp_pf rfl (mGn e5 e4) e6 rfl e7 ?_
  show mWp mCd 136 (104, [some (.ref r0)], [], ((h.set q1 (.inr (ci101, fs102.set 12 (.ref q0)))).set r0 (.inr (ci103, fs104.set 13 (.int (iZ 0))))), 9, 3482) Q
  refine mWp_run 2 (t' := (107, [some (.ref r0)], [.int (iZ 32), .ref r0], ((h.set q1 (.inr (ci101, fs102.set 12 (.ref q0)))).set r0 (.inr (ci103, fs104.set 13 (.int (iZ 0))))), 9, 3482)) rfl ?_
  refine mWp_run 1 (t' := (109, [some (.ref r0)], [.ref ((((h.set q1 (.inr (ci101, fs102.set 12 (.ref q0)))).set r0 (.inr (ci103, fs104.set 13 (.int (iZ 0)))))).length), .ref r0], (((h.set q1 (.inr (ci101, fs102.set 12 (.ref q0)))).set r0 (.inr (ci103, fs104.set 13 (.int (iZ 0))))) ++ [aL 32 (fun _ => 0)]), 10, 3514)) rfl ?_
  exact k
theorem b136_109 {h : mH} {Q : Option Value → mH → Prop} {r0 : Nat} {q0 : Nat} {q1 : Nat} {ci101 : Nat} {fs102 : List Value} (e1 : h[q1]? = some (.inr (ci101, fs102))) (e2 : ([10] : List Nat).contains ci101 = true) (e3 : Nat.blt 14 fs102.length = true) (k : mWp mCd 136 (117, [some (.ref r0)], [.ref (((h.set q1 (.inr (ci101, fs102.set 14 (.ref q0))))).length), .ref r0], ((h.set q1 (.inr (ci101, fs102.set 14 (.ref q0)))) ++ [aI 40 (fun _ => 0)]), 11, 3554) Q) : mWp mCd 136 (109, [some (.ref r0)], [.ref q0, .ref q1], h, 10, 3514) Q := by
  refine mWp_pf rfl e1 e2 rfl e3 ?_
  show mWp mCd 136 (112, [some (.ref r0)], [], (h.set q1 (.inr (ci101, fs102.set 14 (.ref q0)))), 10, 3514) Q
  refine mWp_run 2 (t' := (115, [some (.ref r0)], [.int (iZ 40), .ref r0], (h.set q1 (.inr (ci101, fs102.set 14 (.ref q0)))), 10, 3514)) rfl ?_
  refine mWp_run 1 (t' := (117, [some (.ref r0)], [.ref (((h.set q1 (.inr (ci101, fs102.set 14 (.ref q0))))).length), .ref r0], ((h.set q1 (.inr (ci101, fs102.set 14 (.ref q0)))) ++ [aI 40 (fun _ => 0)]), 11, 3554)) rfl ?_
  exact k
