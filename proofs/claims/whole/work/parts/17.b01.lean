theorem b37_26 {h : mH} {Q : Option Value → mH → Prop} {r0 : Nat} {q0 : Nat} {q1 : Nat} {ci101 : Nat} {fs102 : List Value} (e1 : h[q1]? = some (.inr (ci101, fs102))) (e2 : ([1, 2, 4, 6, 8] : List Nat).contains ci101 = true) (e3 : Nat.blt 3 fs102.length = true) (k : mWp mCd 37 (33, [some (.ref r0), none, none], [.ref (((h.set q1 (.inr (ci101, fs102.set 3 (.ref q0))))).length), .ref r0], ((h.set q1 (.inr (ci101, fs102.set 3 (.ref q0)))) ++ [.inr (0, [.int 0, .null, .null, .null, .null, .null, .int 0])]), 3, 27) Q) : mWp mCd 37 (26, [some (.ref r0), none, none], [.ref q0, .ref q1], h, 2, 20) Q := by
  refine mWp_pf rfl e1 e2 rfl e3 ?_
  show mWp mCd 37 (29, [some (.ref r0), none, none], [], (h.set q1 (.inr (ci101, fs102.set 3 (.ref q0)))), 2, 20) Q
  refine mWp_run 1 (t' := (30, [some (.ref r0), none, none], [.ref r0], (h.set q1 (.inr (ci101, fs102.set 3 (.ref q0)))), 2, 20)) rfl ?_
  refine mWp_run 1 (t' := (33, [some (.ref r0), none, none], [.ref (((h.set q1 (.inr (ci101, fs102.set 3 (.ref q0))))).length), .ref r0], ((h.set q1 (.inr (ci101, fs102.set 3 (.ref q0)))) ++ [.inr (0, [.int 0, .null, .null, .null, .null, .null, .int 0])]), 3, 27)) rfl ?_
  exact k
theorem b37_33 {h : mH} {Q : Option Value → mH → Prop} {r0 : Nat} {q0 : Nat} {q1 : Nat}  (k : mCt mCd 0 [.ref q0] h (fun rv hv => mWp mCd 37 (37, [some (.ref r0), none, none], rv.toList ++ [.ref q0, .ref q1], hv, 8, 152) Q)) : mWp mCd 37 (33, [some (.ref r0), none, none], [.ref q0, .ref q1], h, 3, 27) Q := by
  refine mWp_run 1 (t' := (34, [some (.ref r0), none, none], [.ref q0, .ref q0, .ref q1], h, 3, 27)) rfl ?_
  exact mWp_ii rfl rfl rfl rfl rfl k
theorem b37_37 {h : mH} {Q : Option Value → mH → Prop} {r0 : Nat} {q0 : Nat} {q1 : Nat} {ci101 : Nat} {fs102 : List Value} {ci103 : Nat} {fs104 : List Value} (e1 : h[q1]? = some (.inr (ci101, fs102))) (e2 : ([1, 2, 4, 6, 8] : List Nat).contains ci101 = true) (e3 : Nat.blt 4 fs102.length = true) (e4 : h[r0]? = some (.inr (ci103, fs104))) (e5 : q1 ≠ r0) (e6 : ([1, 2, 4, 6, 8] : List Nat).contains ci103 = true) (e7 : Nat.blt 5 fs104.length = true) (k : Q none ((h.set q1 (.inr (ci101, fs102.set 4 (.ref q0)))).set r0 (.inr (ci103, fs104.set 5 (.int (iZ 0)))))) : mWp mCd 37 (37, [some (.ref r0), none, none], [.ref q0, .ref q1], h, 8, 152) Q := by
  refine mWp_pf rfl e1 e2 rfl e3 ?_
  show mWp mCd 37 (40, [some (.ref r0), none, none], [], (h.set q1 (.inr (ci101, fs102.set 4 (.ref q0)))), 8, 152) Q
  refine mWp_run 2 (t' := (42, [some (.ref r0), none, none], [.int (iZ 0), .ref r0], (h.set q1 (.inr (ci101, fs102.set 4 (.ref q0)))), 8, 152)) rfl ?_
  refine mWp_pf rfl (mGn e5 e4) e6 rfl e7 ?_
  show mWp mCd 37 (45, [some (.ref r0), none, none], [], ((h.set q1 (.inr (ci101, fs102.set 4 (.ref q0)))).set r0 (.inr (ci103, fs104.set 5 (.int (iZ 0))))), 8, 152) Q
  exact mWp_r (v := none) rfl k
theorem b38_0 {h : mH} {Q : Option Value → mH → Prop} {r0 : Nat}  (k : Q (some (.int (iZ 0))) h) : mWp mCd 38 (0, [some (.ref r0)], [], h, 0, 0) Q := by
  refine mWp_run 1 (t' := (1, [some (.ref r0)], [.int (iZ 0)], h, 0, 0)) rfl ?_
  exact mWp_r (v := (some (.int (iZ 0)))) rfl k
theorem b39_0 {h : mH} {Q : Option Value → mH → Prop} {r0 : Nat} {x1 : Int32} {r2 : Nat} {ran : Int32} (e1 : h[r2]? = some (oT ran)) (k : mCt mCd 71 [.ref r2, .int (iZ 10)] h (fun rv hv => mWp mCd 39 (6, [some (.ref r0), some (.int x1), none], rv.toList ++ [], hv, 0, 0) Q)) : mWp mCd 39 (0, [some (.ref r0), some (.int x1), some (.ref r2)], [], h, 0, 0) Q := by
  refine mWp_run 2 (t' := (3, [some (.ref r0), some (.int x1), some (.ref r2)], [.int (iZ 10), .ref r2], h, 0, 0)) rfl ?_
  exact mWp_iv rfl rfl e1 rfl rfl rfl rfl (mCt_mono k (fun rv hv y => mWp_weak (mLe_s (mLe_s (mLe_n mLe_0))) y))
theorem b39_6 {h : mH} {Q : Option Value → mH → Prop} {r0 : Nat} {x1 : Int32} {ci : Nat} {num : Int32} {n : Int32} {fd : Int32} (hc : [1, 2, 4, 6, 8].contains ci = true) (e2 : h[r0]? = some (oV ci r0 num n fd)) (k : mCt mCd 42 [.ref r0] h (fun rv hv => mWp mCd 39 (12, [none, none, none], rv.toList ++ [.ref r0, .int x1], hv, 0, 0) Q)) : mWp mCd 39 (6, [some (.ref r0), some (.int x1), none], [], h, 0, 0) Q := by
  refine mWp_run 3 (t' := (9, [some (.ref r0), some (.int x1), none], [.ref r0, .ref r0, .int x1], h, 0, 0)) rfl ?_
  exact mWp_iv rfl rfl e2 (mS5 hc) rfl rfl rfl (mCt_mono k (fun rv hv y => mWp_weak (mLe_n (mLe_n (mLe_n mLe_0))) y))
theorem b39_12 {h : mH} {Q : Option Value → mH → Prop} {u0 : Int32} {q1 : Nat} {u2 : Int32} {ci : Nat} {num : Int32} {n : Int32} {fd : Int32} (hc : [1, 2, 4, 6, 8].contains ci = true) (e2 : h[q1]? = some (oV ci q1 num n fd)) (k : mCt mCd 46 [.ref q1, .int u0] h (fun rv hv => mWp mCd 39 (15, [none, none, none], rv.toList ++ [.int u2], hv, 0, 0) Q)) : mWp mCd 39 (12, [none, none, none], [.int u0, .ref q1, .int u2], h, 0, 0) Q := by
  exact mWp_iv rfl rfl e2 (mS5 hc) rfl rfl rfl k
theorem b39_15 {h : mH} {Q : Option Value → mH → Prop} {u0 : Int32} {u1 : Int32}  (k : Q (some (.int (u1 + u0))) h) : mWp mCd 39 (15, [none, none, none], [.int u0, .int u1], h, 0, 0) Q := by
  refine mWp_run 1 (t' := (16, [none, none, none], [.int (u1 + u0)], h, 0, 0)) rfl ?_
  exact mWp_r (v := (some (.int (u1 + u0)))) rfl k
theorem b40_0 {h : mH} {Q : Option Value → mH → Prop} {r0 : Nat} {x1 : Int32} {r2 : Nat} {ran : Int32} (e1 : h[r2]? = some (oT ran)) (k : mCt mCd 71 [.ref r2, .int (iZ 11)] h (fun rv hv => mWp mCd 40 (6, [some (.ref r0), some (.int x1), some (.ref r2)], rv.toList ++ [], hv, 0, 0) Q)) : mWp mCd 40 (0, [some (.ref r0), some (.int x1), some (.ref r2)], [], h, 0, 0) Q := by
  refine mWp_run 2 (t' := (3, [some (.ref r0), some (.int x1), some (.ref r2)], [.int (iZ 11), .ref r2], h, 0, 0)) rfl ?_
  exact mWp_iv rfl rfl e1 rfl rfl rfl rfl k
theorem b40_6 {h : mH} {Q : Option Value → mH → Prop} {r0 : Nat} {x1 : Int32} {r2 : Nat} {ci : Nat} {num : Int32} {n : Int32} {fd : Int32} {k101 : Nat} (hc : [1, 2, 4, 6, 8].contains ci = true) (e2 : h[r0]? = some (oV ci r0 num n fd)) (e3 : mSel [(1, 39, 0, 0), (2, 19, 0, 0), (4, 39, 0, 0), (6, 39, 0, 0), (8, 76, 0, 0)] ci = some (k101, 0, 0)) (k : mCt mCd k101 [.ref r0, .int x1, .ref r2] h (fun rv hv => mWp mCd 40 (12, [some (.ref r0), none, none], rv.toList ++ [], hv, 0, 0) Q)) : mWp mCd 40 (6, [some (.ref r0), some (.int x1), some (.ref r2)], [], h, 0, 0) Q := by
  refine mWp_run 3 (t' := (9, [some (.ref r0), some (.int x1), some (.ref r2)], [.ref r2, .int x1, .ref r0], h, 0, 0)) rfl ?_
  exact mWp_iv rfl rfl e2 e3 rfl rfl rfl (mCt_mono k (fun rv hv y => mWp_weak (mLe_s (mLe_n (mLe_n mLe_0))) y))
theorem b40_12 {h : mH} {Q : Option Value → mH → Prop} {r0 : Nat} {u0 : Int32} {ci : Nat} {num : Int32} {n : Int32} {fd : Int32} (hc : [1, 2, 4, 6, 8].contains ci = true) (e2 : h[r0]? = some (oV ci r0 num n fd)) (k : Q (some (.int (u0 * n))) h) : mWp mCd 40 (12, [some (.ref r0), none, none], [.int u0], h, 0, 0) Q := by
  refine mWp_run 1 (t' := (13, [some (.ref r0), none, none], [.ref r0, .int u0], h, 0, 0)) rfl ?_
  refine mWp_gf rfl e2 hc rfl ?_
  refine mWp_run 1 (t' := (17, [some (.ref r0), none, none], [.int (u0 * n)], h, 0, 0)) rfl ?_
  exact mWp_r (v := (some (.int (u0 * n)))) rfl k
theorem b41_0 {h : mH} {Q : Option Value → mH → Prop} {r0 : Nat} {x1 : Int32} {r2 : Nat} {ran : Int32} (e1 : h[r2]? = some (oT ran)) (k : mCt mCd 71 [.ref r2, .int (iZ 12)] h (fun rv hv => mWp mCd 41 (6, [some (.ref r0), some (.int x1), some (.ref r2), none], rv.toList ++ [], hv, 0, 0) Q)) : mWp mCd 41 (0, [some (.ref r0), some (.int x1), some (.ref r2), none], [], h, 0, 0) Q := by
  refine mWp_run 2 (t' := (3, [some (.ref r0), some (.int x1), some (.ref r2), none], [.int (iZ 12), .ref r2], h, 0, 0)) rfl ?_
  exact mWp_iv rfl rfl e1 rfl rfl rfl rfl k
theorem b41_6 {h : mH} {Q : Option Value → mH → Prop} {r0 : Nat} {x1 : Int32} {r2 : Nat} {ci : Nat} {num : Int32} {n : Int32} {fd : Int32} {k101 : Nat} (hc : [1, 2, 4, 6, 8].contains ci = true) (e2 : h[r0]? = some (oV ci r0 num n fd)) (e3 : mSel [(1, 40, 0, 0), (2, 20, 0, 0), (4, 32, 0, 0), (6, 40, 0, 0), (8, 40, 0, 0)] ci = some (k101, 0, 0)) (k : mCt mCd k101 [.ref r0, .int x1, .ref r2] h (fun rv hv => mWp mCd 41 (12, [some (.ref r0), some (.int x1), some (.ref r2), none], rv.toList ++ [], hv, 0, 0) Q)) : mWp mCd 41 (6, [some (.ref r0), some (.int x1), some (.ref r2), none], [], h, 0, 0) Q := by
  refine mWp_run 3 (t' := (9, [some (.ref r0), some (.int x1), some (.ref r2), none], [.ref r2, .int x1, .ref r0], h, 0, 0)) rfl ?_
  exact mWp_iv rfl rfl e2 e3 rfl rfl rfl k
theorem b41_12 {h : mH} {Q : Option Value → mH → Prop} {r0 : Nat} {x1 : Int32} {r2 : Nat} {u0 : Int32} {ci : Nat} {num : Int32} {n : Int32} {fd : Int32} {k101 : Nat} (hc : [1, 2, 4, 6, 8].contains ci = true) (e2 : h[r0]? = some (oV ci r0 num n fd)) (e3 : mSel [(1, 39, 0, 0), (2, 19, 0, 0), (4, 39, 0, 0), (6, 39, 0, 0), (8, 76, 0, 0)] ci = some (k101, 0, 0)) (k : mCt mCd k101 [.ref r0, .int (x1 + num), .ref r2] h (fun rv hv => mWp mCd 41 (25, [none, none, none, none], rv.toList ++ [.int u0], hv, 0, 0) Q)) : mWp mCd 41 (12, [some (.ref r0), some (.int x1), some (.ref r2), none], [.int u0], h, 0, 0) Q := by
  refine mWp_run 5 (t' := (17, [some (.ref r0), some (.int x1), some (.ref r2), some (.int u0)], [.ref r0, .int x1, .ref r0, .int u0], h, 0, 0)) rfl ?_
  refine mWp_gf rfl e2 hc rfl ?_
  refine mWp_run 2 (t' := (22, [some (.ref r0), some (.int x1), some (.ref r2), some (.int u0)], [.ref r2, .int (x1 + num), .ref r0, .int u0], h, 0, 0)) rfl ?_
  exact mWp_iv rfl rfl e2 e3 rfl rfl rfl (mCt_mono k (fun rv hv y => mWp_weak (mLe_n (mLe_n (mLe_n (mLe_n mLe_0)))) y))
theorem b41_25 {h : mH} {Q : Option Value → mH → Prop} {u0 : Int32} {u1 : Int32}  (k : Q (some (.int (u1 ^^^ u0))) h) : mWp mCd 41 (25, [none, none, none, none], [.int u0, .int u1], h, 0, 0) Q := by
  refine mWp_run 1 (t' := (26, [none, none, none, none], [.int (u1 ^^^ u0)], h, 0, 0)) rfl ?_
  exact mWp_r (v := (some (.int (u1 ^^^ u0)))) rfl k
theorem b42_0 {h : mH} {Q : Option Value → mH → Prop} {r0 : Nat} {ci : Nat} {num : Int32} {n : Int32} {fd : Int32} (hc : [1, 2, 4, 6, 8].contains ci = true) (e2 : h[r0]? = some (oV ci r0 num n fd)) (k : Q (some (.int (((iZ 1) <<< (n &&& 31)) - (iZ 1)))) h) : mWp mCd 42 (0, [some (.ref r0)], [], h, 0, 0) Q := by
  refine mWp_run 2 (t' := (2, [some (.ref r0)], [.ref r0, .int (iZ 1)], h, 0, 0)) rfl ?_
  refine mWp_gf rfl e2 hc rfl ?_
  refine mWp_run 3 (t' := (8, [some (.ref r0)], [.int (((iZ 1) <<< (n &&& 31)) - (iZ 1))], h, 0, 0)) rfl ?_
  exact mWp_r (v := (some (.int (((iZ 1) <<< (n &&& 31)) - (iZ 1))))) rfl k
theorem b43_0 {h : mH} {Q : Option Value → mH → Prop} {r0 : Nat} {x1 : Int32}  (k1 : x1 < 0 → mWp mCd 43 (16, [none, none], [], h, 0, 0) Q) (k2 : ¬ (x1 < 0) → mWp mCd 43 (4, [some (.ref r0), some (.int x1)], [], h, 0, 0) Q) : mWp mCd 43 (0, [some (.ref r0), some (.int x1)], [], h, 0, 0) Q := by
  refine mWp_run 1 (t' := (1, [some (.ref r0), some (.int x1)], [.int x1], h, 0, 0)) rfl ?_
  exact mWp_if (P := fun x => x < 0) (a := x1) rfl (fun q => mWp_weak (mLe_n (mLe_n mLe_0)) (k1 q)) k2
theorem b43_16 {h : mH} {Q : Option Value → mH → Prop}   (k : Q (some (.int (iZ 0))) h) : mWp mCd 43 (16, [none, none], [], h, 0, 0) Q := by
  refine mWp_run 1 (t' := (17, [none, none], [.int (iZ 0)], h, 0, 0)) rfl ?_
  exact mWp_r (v := (some (.int (iZ 0)))) rfl k
theorem b43_4 {h : mH} {Q : Option Value → mH → Prop} {r0 : Nat} {x1 : Int32} {ci : Nat} {num : Int32} {n : Int32} {fd : Int32} (hc : [1, 2, 4, 6, 8].contains ci = true) (e2 : h[r0]? = some (oV ci r0 num n fd)) (k1 : n ≤ x1 → mWp mCd 43 (16, [none, none], [], h, 0, 0) Q) (k2 : ¬ (n ≤ x1) → mWp mCd 43 (12, [none, none], [], h, 0, 0) Q) : mWp mCd 43 (4, [some (.ref r0), some (.int x1)], [], h, 0, 0) Q := by
  refine mWp_run 2 (t' := (6, [some (.ref r0), some (.int x1)], [.ref r0, .int x1], h, 0, 0)) rfl ?_
  refine mWp_gf rfl e2 hc rfl ?_
  exact mWp_ic (P := fun x y => y ≤ x) (a := x1) (b := n) rfl (fun q => mWp_weak (mLe_n (mLe_n mLe_0)) (k1 q)) (fun q => mWp_weak (mLe_n (mLe_n mLe_0)) (k2 q))
theorem b43_12 {h : mH} {Q : Option Value → mH → Prop}   (k : Q (some (.int (iZ 1))) h) : mWp mCd 43 (12, [none, none], [], h, 0, 0) Q := by
  refine mWp_run 2 (t' := (17, [none, none], [.int (iZ 1)], h, 0, 0)) rfl ?_
  exact mWp_r (v := (some (.int (iZ 1)))) rfl k
theorem b44_0 {h : mH} {Q : Option Value → mH → Prop} {r0 : Nat} {x1 : Int32}  (k1 : x1 < (iZ 1) → mWp mCd 44 (17, [none, none], [], h, 0, 0) Q) (k2 : ¬ (x1 < (iZ 1)) → mWp mCd 44 (5, [some (.ref r0), some (.int x1)], [], h, 0, 0) Q) : mWp mCd 44 (0, [some (.ref r0), some (.int x1)], [], h, 0, 0) Q := by
  refine mWp_run 2 (t' := (2, [some (.ref r0), some (.int x1)], [.int (iZ 1), .int x1], h, 0, 0)) rfl ?_
  exact mWp_ic (P := fun x y => x < y) (a := x1) (b := iZ 1) rfl (fun q => mWp_weak (mLe_n (mLe_n mLe_0)) (k1 q)) k2
theorem b44_17 {h : mH} {Q : Option Value → mH → Prop}   (k : Q (some (.int (iZ 0))) h) : mWp mCd 44 (17, [none, none], [], h, 0, 0) Q := by
  refine mWp_run 1 (t' := (18, [none, none], [.int (iZ 0)], h, 0, 0)) rfl ?_
  exact mWp_r (v := (some (.int (iZ 0)))) rfl k
theorem b44_5 {h : mH} {Q : Option Value → mH → Prop} {r0 : Nat} {x1 : Int32} {ci : Nat} {num : Int32} {n : Int32} {fd : Int32} (hc : [1, 2, 4, 6, 8].contains ci = true) (e2 : h[r0]? = some (oV ci r0 num n fd)) (k : mCt mCd 42 [.ref r0] h (fun rv hv => mWp mCd 44 (10, [none, none], rv.toList ++ [.int x1], hv, 0, 0) Q)) : mWp mCd 44 (5, [some (.ref r0), some (.int x1)], [], h, 0, 0) Q := by
  refine mWp_run 2 (t' := (7, [some (.ref r0), some (.int x1)], [.ref r0, .int x1], h, 0, 0)) rfl ?_
  exact mWp_iv rfl rfl e2 (mS5 hc) rfl rfl rfl (mCt_mono k (fun rv hv y => mWp_weak (mLe_n (mLe_n mLe_0)) y))
theorem b44_10 {h : mH} {Q : Option Value → mH → Prop} {u0 : Int32} {u1 : Int32}  (k1 : u0 < u1 → mWp mCd 44 (17, [none, none], [], h, 0, 0) Q) (k2 : ¬ (u0 < u1) → mWp mCd 44 (13, [none, none], [], h, 0, 0) Q) : mWp mCd 44 (10, [none, none], [.int u0, .int u1], h, 0, 0) Q := by
  exact mWp_ic (P := fun x y => y < x) (a := u1) (b := u0) rfl k1 k2
theorem b44_13 {h : mH} {Q : Option Value → mH → Prop}   (k : Q (some (.int (iZ 1))) h) : mWp mCd 44 (13, [none, none], [], h, 0, 0) Q := by
  refine mWp_run 2 (t' := (18, [none, none], [.int (iZ 1)], h, 0, 0)) rfl ?_
  exact mWp_r (v := (some (.int (iZ 1)))) rfl k
theorem b45_0 {h : mH} {Q : Option Value → mH → Prop} {r0 : Nat} {x1 : Int32}  (k1 : x1 < (iZ 1) → mWp mCd 45 (17, [none, none], [], h, 0, 0) Q) (k2 : ¬ (x1 < (iZ 1)) → mWp mCd 45 (5, [some (.ref r0), some (.int x1)], [], h, 0, 0) Q) : mWp mCd 45 (0, [some (.ref r0), some (.int x1)], [], h, 0, 0) Q := by
  refine mWp_run 2 (t' := (2, [some (.ref r0), some (.int x1)], [.int (iZ 1), .int x1], h, 0, 0)) rfl ?_
  exact mWp_ic (P := fun x y => x < y) (a := x1) (b := iZ 1) rfl (fun q => mWp_weak (mLe_n (mLe_n mLe_0)) (k1 q)) k2
theorem b45_17 {h : mH} {Q : Option Value → mH → Prop}   (k : Q (some (.int (iZ 0))) h) : mWp mCd 45 (17, [none, none], [], h, 0, 0) Q := by
  refine mWp_run 1 (t' := (18, [none, none], [.int (iZ 0)], h, 0, 0)) rfl ?_
  exact mWp_r (v := (some (.int (iZ 0)))) rfl k
theorem b45_5 {h : mH} {Q : Option Value → mH → Prop} {r0 : Nat} {x1 : Int32} {ci : Nat} {num : Int32} {n : Int32} {fd : Int32} (hc : [1, 2, 4, 6, 8].contains ci = true) (e2 : h[r0]? = some (oV ci r0 num n fd)) (k : mCt mCd 42 [.ref r0] h (fun rv hv => mWp mCd 45 (10, [none, none], rv.toList ++ [.int x1], hv, 0, 0) Q)) : mWp mCd 45 (5, [some (.ref r0), some (.int x1)], [], h, 0, 0) Q := by
  refine mWp_run 2 (t' := (7, [some (.ref r0), some (.int x1)], [.ref r0, .int x1], h, 0, 0)) rfl ?_
  exact mWp_iv rfl rfl e2 (mS5 hc) rfl rfl rfl (mCt_mono k (fun rv hv y => mWp_weak (mLe_n (mLe_n mLe_0)) y))
theorem b45_10 {h : mH} {Q : Option Value → mH → Prop} {u0 : Int32} {u1 : Int32}  (k1 : u0 ≤ u1 → mWp mCd 45 (17, [none, none], [], h, 0, 0) Q) (k2 : ¬ (u0 ≤ u1) → mWp mCd 45 (13, [none, none], [], h, 0, 0) Q) : mWp mCd 45 (10, [none, none], [.int u0, .int u1], h, 0, 0) Q := by
  exact mWp_ic (P := fun x y => y ≤ x) (a := u1) (b := u0) rfl k1 k2
theorem b45_13 {h : mH} {Q : Option Value → mH → Prop}   (k : Q (some (.int (iZ 1))) h) : mWp mCd 45 (13, [none, none], [], h, 0, 0) Q := by
  refine mWp_run 2 (t' := (18, [none, none], [.int (iZ 1)], h, 0, 0)) rfl ?_
  exact mWp_r (v := (some (.int (iZ 1)))) rfl k
theorem b46_0 {h : mH} {Q : Option Value → mH → Prop} {r0 : Nat} {x1 : Int32}  (k1 : x1 < 0 → mWp mCd 46 (13, [none, none], [], h, 0, 0) Q) (k2 : ¬ (x1 < 0) → mWp mCd 46 (4, [some (.ref r0), some (.int x1)], [], h, 0, 0) Q) : mWp mCd 46 (0, [some (.ref r0), some (.int x1)], [], h, 0, 0) Q := by
  refine mWp_run 1 (t' := (1, [some (.ref r0), some (.int x1)], [.int x1], h, 0, 0)) rfl ?_
  exact mWp_if (P := fun x => x < 0) (a := x1) rfl (fun q => mWp_weak (mLe_n (mLe_n mLe_0)) (k1 q)) k2
theorem b46_13 {h : mH} {Q : Option Value → mH → Prop}   (k : Q (some (.int (iZ 0))) h) : mWp mCd 46 (13, [none, none], [], h, 0, 0) Q := by
  refine mWp_run 2 (t' := (23, [none, none], [.int (iZ 0)], h, 0, 0)) rfl ?_
  exact mWp_r (v := (some (.int (iZ 0)))) rfl k
theorem b46_4 {h : mH} {Q : Option Value → mH → Prop} {r0 : Nat} {x1 : Int32} {ci : Nat} {num : Int32} {n : Int32} {fd : Int32} {g101 : Nat → Int32} (hc : [1, 2, 4, 6, 8].contains ci = true) (e2 : h[r0]? = some (oV ci r0 num n fd)) (e3 : h[((r0 + 1))]? = some (aI 16 g101)) (k1 : x1 < (Int32.ofNat 16) → mWp mCd 46 (17, [some (.ref r0), some (.int x1)], [], h, 0, 0) Q) (k2 : ¬ (x1 < (Int32.ofNat 16)) → mWp mCd 46 (13, [none, none], [], h, 0, 0) Q) : mWp mCd 46 (4, [some (.ref r0), some (.int x1)], [], h, 0, 0) Q := by
  refine mWp_run 2 (t' := (6, [some (.ref r0), some (.int x1)], [.ref r0, .int x1], h, 0, 0)) rfl ?_
  refine mWp_gf rfl e2 hc rfl ?_
  refine mWp_aln rfl e3 (by decide) ?_
  exact mWp_ic (P := fun x y => x < y) (a := x1) (b := Int32.ofNat 16) rfl k1 (fun q => mWp_weak (mLe_n (mLe_n mLe_0)) (k2 q))
theorem b46_17 {h : mH} {Q : Option Value → mH → Prop} {r0 : Nat} {x1 : Int32} {ci : Nat} {num : Int32} {n : Int32} {fd : Int32} {g101 : Nat → Int32} (hc : [1, 2, 4, 6, 8].contains ci = true) (e2 : h[r0]? = some (oV ci r0 num n fd)) (e3 : h[((r0 + 1))]? = some (aI 16 g101)) (e4 : ¬ (x1 < 0 ∨ 16 ≤ x1.toNatClampNeg)) (k : Q (some (.int (g101 x1.toNatClampNeg))) h) : mWp mCd 46 (17, [some (.ref r0), some (.int x1)], [], h, 0, 0) Q := by
  refine mWp_run 1 (t' := (18, [some (.ref r0), some (.int x1)], [.ref r0], h, 0, 0)) rfl ?_
  refine mWp_gf rfl e2 hc rfl ?_
  refine mWp_run 1 (t' := (22, [some (.ref r0), some (.int x1)], [.int x1, .ref (r0 + 1)], h, 0, 0)) rfl ?_
  refine mWp_ial rfl e3 e4 ?_
  exact mWp_r (v := (some (.int (g101 x1.toNatClampNeg)))) rfl k
theorem b47_0 {h : mH} {Q : Option Value → mH → Prop} {r0 : Nat} {ci : Nat} {num : Int32} {n : Int32} {fd : Int32} (hc : [1, 2, 4, 6, 8].contains ci = true) (e2 : h[r0]? = some (oV ci r0 num n fd)) (k : mCt mCd 42 [.ref r0] h (fun rv hv => mWp mCd 47 (5, [none], rv.toList ++ [.ref r0], hv, 0, 0) Q)) : mWp mCd 47 (0, [some (.ref r0)], [], h, 0, 0) Q := by
  refine mWp_run 2 (t' := (2, [some (.ref r0)], [.ref r0, .ref r0], h, 0, 0)) rfl ?_
  exact mWp_iv rfl rfl e2 (mS5 hc) rfl rfl rfl (mCt_mono k (fun rv hv y => mWp_weak (mLe_n mLe_0) y))
theorem b47_5 {h : mH} {Q : Option Value → mH → Prop} {u0 : Int32} {q1 : Nat} {ci : Nat} {num : Int32} {n : Int32} {fd : Int32} (hc : [1, 2, 4, 6, 8].contains ci = true) (e2 : h[q1]? = some (oV ci q1 num n fd)) (k : mCt mCd 46 [.ref q1, .int u0] h (fun rv hv => mWp mCd 47 (8, [none], rv.toList ++ [], hv, 0, 0) Q)) : mWp mCd 47 (5, [none], [.int u0, .ref q1], h, 0, 0) Q := by
  exact mWp_iv rfl rfl e2 (mS5 hc) rfl rfl rfl k
theorem b47_8 {h : mH} {Q : Option Value → mH → Prop} {u0 : Int32}  (k : Q (some (.int u0)) h) : mWp mCd 47 (8, [none], [.int u0], h, 0, 0) Q := by
  exact mWp_r (v := (some (.int u0))) rfl k
theorem b48_0 {h : mH} {Q : Option Value → mH → Prop} {r0 : Nat} {x1 : Int32} {x2 : Int32} {ci : Nat} {num : Int32} {n : Int32} {fd : Int32} (hc : [1, 2, 4, 6, 8].contains ci = true) (e2 : h[r0]? = some (oV ci r0 num n fd)) (k : mCt mCd 44 [.ref r0, .int x1] h (fun rv hv => mWp mCd 48 (5, [some (.ref r0), some (.int x1), some (.int x2)], rv.toList ++ [], hv, 0, 0) Q)) : mWp mCd 48 (0, [some (.ref r0), some (.int x1), some (.int x2)], [], h, 0, 0) Q := by
  refine mWp_run 2 (t' := (2, [some (.ref r0), some (.int x1), some (.int x2)], [.int x1, .ref r0], h, 0, 0)) rfl ?_
  exact mWp_iv rfl rfl e2 (mS5 hc) rfl rfl rfl k
theorem b48_5 {h : mH} {Q : Option Value → mH → Prop} {r0 : Nat} {x1 : Int32} {x2 : Int32} {u0 : Int32}  (k1 : u0 = 0 → mWp mCd 48 (29, [none, none, none], [], h, 0, 0) Q) (k2 : ¬ (u0 = 0) → mWp mCd 48 (8, [some (.ref r0), some (.int x1), some (.int x2)], [], h, 0, 0) Q) : mWp mCd 48 (5, [some (.ref r0), some (.int x1), some (.int x2)], [.int u0], h, 0, 0) Q := by
  exact mWp_if (P := fun x => x = 0) (a := u0) rfl (fun q => mWp_weak (mLe_n (mLe_n (mLe_n mLe_0))) (k1 q)) k2
theorem b48_29 {h : mH} {Q : Option Value → mH → Prop}   (k : Q none h) : mWp mCd 48 (29, [none, none, none], [], h, 0, 0) Q := by
  exact mWp_r (v := none) rfl k
theorem b48_8 {h : mH} {Q : Option Value → mH → Prop} {r0 : Nat} {x1 : Int32} {x2 : Int32} {ci : Nat} {num : Int32} {n : Int32} {fd : Int32} {g101 : Nat → Int32} (hc : [1, 2, 4, 6, 8].contains ci = true) (e2 : h[r0]? = some (oV ci r0 num n fd)) (e3 : h[((r0 + 1))]? = some (aI 16 g101)) (k1 : (Int32.ofNat 16) ≤ x1 → mWp mCd 48 (29, [none, none, none], [], h, 0, 0) Q) (k2 : ¬ ((Int32.ofNat 16) ≤ x1) → mWp mCd 48 (17, [some (.ref r0), some (.int x1), some (.int x2)], [], h, 0, 0) Q) : mWp mCd 48 (8, [some (.ref r0), some (.int x1), some (.int x2)], [], h, 0, 0) Q := by
  refine mWp_run 2 (t' := (10, [some (.ref r0), some (.int x1), some (.int x2)], [.ref r0, .int x1], h, 0, 0)) rfl ?_
  refine mWp_gf rfl e2 hc rfl ?_
  refine mWp_aln rfl e3 (by decide) ?_
  exact mWp_ic (P := fun x y => y ≤ x) (a := x1) (b := Int32.ofNat 16) rfl (fun q => mWp_weak (mLe_n (mLe_n (mLe_n mLe_0))) (k1 q)) k2
theorem b48_17 {h : mH} {Q : Option Value → mH → Prop} {r0 : Nat} {x1 : Int32} {x2 : Int32} {ci : Nat} {num : Int32} {n : Int32} {fd : Int32} {g101 : Nat → Int32} (hc : [1, 2, 4, 6, 8].contains ci = true) (e2 : h[r0]? = some (oV ci r0 num n fd)) (e3 : h[((r0 + 1))]? = some (aI 16 g101)) (e4 : ¬ (x1 < 0 ∨ 16 ≤ x1.toNatClampNeg)) (e5 : 5 ≤ (r0 + 1)) (k : Q none ((h.set (r0 + 1) (aI 16 (upd g101 (x1.toNatClampNeg) x2))).set r0 (oV ci r0 num n (iZ 0)))) : mWp mCd 48 (17, [some (.ref r0), some (.int x1), some (.int x2)], [], h, 0, 0) Q := by
  refine mWp_run 1 (t' := (18, [some (.ref r0), some (.int x1), some (.int x2)], [.ref r0], h, 0, 0)) rfl ?_
  refine mWp_gf rfl e2 hc rfl ?_
  refine mWp_run 2 (t' := (23, [some (.ref r0), some (.int x1), some (.int x2)], [.int x2, .int x1, .ref (r0 + 1)], h, 0, 0)) rfl ?_
  refine mWp_ias rfl e5 e3 e4 ?_
  show mWp mCd 48 (24, [some (.ref r0), some (.int x1), some (.int x2)], [], (h.set (r0 + 1) (aI 16 (upd g101 (x1.toNatClampNeg) x2))), 0, 0) Q
  refine mWp_run 2 (t' := (26, [some (.ref r0), some (.int x1), some (.int x2)], [.int (iZ 0), .ref r0], (h.set (r0 + 1) (aI 16 (upd g101 (x1.toNatClampNeg) x2))), 0, 0)) rfl ?_
  refine mWp_pf rfl (mGn (by omega) e2) hc rfl rfl ?_
  show mWp mCd 48 (29, [some (.ref r0), some (.int x1), some (.int x2)], [], ((h.set (r0 + 1) (aI 16 (upd g101 (x1.toNatClampNeg) x2))).set r0 (oV ci r0 num n (iZ 0))), 0, 0) Q
  exact mWp_r (v := none) rfl k
theorem b49_0 {h : mH} {Q : Option Value → mH → Prop} {r0 : Nat} {ci : Nat} {num : Int32} {n : Int32} {fd : Int32} (hc : [1, 2, 4, 6, 8].contains ci = true) (e2 : h[r0]? = some (oV ci r0 num n fd)) (k1 : ¬ fd = 0 → mWp mCd 49 (20, [some (.ref r0)], [], h, 0, 0) Q) (k2 : ¬ (¬ fd = 0) → mWp mCd 49 (7, [some (.ref r0)], [], h, 0, 0) Q) : mWp mCd 49 (0, [some (.ref r0)], [], h, 0, 0) Q := by
  refine mWp_run 1 (t' := (1, [some (.ref r0)], [.ref r0], h, 0, 0)) rfl ?_
  refine mWp_gf rfl e2 hc rfl ?_
  exact mWp_if (P := fun x => ¬ x = 0) (a := fd) rfl k1 k2
theorem b49_20 {h : mH} {Q : Option Value → mH → Prop} {r0 : Nat} {ci : Nat} {num : Int32} {n : Int32} {fd : Int32} (hc : [1, 2, 4, 6, 8].contains ci = true) (e2 : h[r0]? = some (oV ci r0 num n fd)) (k : Q (some (.ref (r0 + 3))) h) : mWp mCd 49 (20, [some (.ref r0)], [], h, 0, 0) Q := by
  refine mWp_run 1 (t' := (21, [some (.ref r0)], [.ref r0], h, 0, 0)) rfl ?_
  refine mWp_gf rfl e2 hc rfl ?_
  exact mWp_r (v := (some (.ref (r0 + 3)))) rfl k
theorem b49_7 {h : mH} {Q : Option Value → mH → Prop} {r0 : Nat} {ci : Nat} {num : Int32} {n : Int32} {fd : Int32} {cc1 : Int32} {tw1 : Int32} (hc : [1, 2, 4, 6, 8].contains ci = true) (e2 : h[r0]? = some (oV ci r0 num n fd)) (e3 : h[((r0 + 3))]? = some (oK (r0 + 3) cc1 tw1)) (k : mCt mCd 3 [.ref (r0 + 3), .ref r0] h (fun rv hv => mWp mCd 49 (15, [some (.ref r0)], rv.toList ++ [], hv, 0, 0) Q)) : mWp mCd 49 (7, [some (.ref r0)], [], h, 0, 0) Q := by
  refine mWp_run 1 (t' := (8, [some (.ref r0)], [.ref r0], h, 0, 0)) rfl ?_
  refine mWp_gf rfl e2 hc rfl ?_
  refine mWp_run 1 (t' := (12, [some (.ref r0)], [.ref r0, .ref (r0 + 3)], h, 0, 0)) rfl ?_
  exact mWp_iv rfl rfl e3 rfl rfl rfl rfl k
theorem b49_15 {h : mH} {Q : Option Value → mH → Prop} {r0 : Nat} {ci : Nat} {num : Int32} {n : Int32} {fd : Int32} (hc : [1, 2, 4, 6, 8].contains ci = true) (e2 : h[r0]? = some (oV ci r0 num n fd)) (k : Q (some (.ref (r0 + 3))) (h.set r0 (oV ci r0 num n (iZ 1)))) : mWp mCd 49 (15, [some (.ref r0)], [], h, 0, 0) Q := by
  refine mWp_run 2 (t' := (17, [some (.ref r0)], [.int (iZ 1), .ref r0], h, 0, 0)) rfl ?_
  refine mWp_pf rfl e2 hc rfl rfl ?_
  show mWp mCd 49 (20, [some (.ref r0)], [], (h.set r0 (oV ci r0 num n (iZ 1))), 0, 0) Q
  refine mWp_run 1 (t' := (21, [some (.ref r0)], [.ref r0], (h.set r0 (oV ci r0 num n (iZ 1))), 0, 0)) rfl ?_
  refine mWp_gf rfl (mGs e2) hc rfl ?_
  exact mWp_r (v := (some (.ref (r0 + 3)))) rfl k
theorem b50_0 {h : mH} {Q : Option Value → mH → Prop} {r0 : Nat} {x1 : Int32} {x2 : Int32} {ci : Nat} {num : Int32} {n : Int32} {fd : Int32} (hc : [1, 2, 4, 6, 8].contains ci = true) (e2 : h[r0]? = some (oV ci r0 num n fd)) (k : mCt mCd 46 [.ref r0, .int (x2 ||| ((iZ 1) <<< (x1 &&& 31)))] h (fun rv hv => mWp mCd 50 (9, [some (.ref r0), none, some (.int x2)], rv.toList ++ [], hv, 0, 0) Q)) : mWp mCd 50 (0, [some (.ref r0), some (.int x1), some (.int x2)], [], h, 0, 0) Q := by
  refine mWp_run 6 (t' := (6, [some (.ref r0), some (.int x1), some (.int x2)], [.int (x2 ||| ((iZ 1) <<< (x1 &&& 31))), .ref r0], h, 0, 0)) rfl ?_
  exact mWp_iv rfl rfl e2 (mS5 hc) rfl rfl rfl (mCt_mono k (fun rv hv y => mWp_weak (mLe_s (mLe_n (mLe_s mLe_0))) y))
theorem b50_9 {h : mH} {Q : Option Value → mH → Prop} {r0 : Nat} {x2 : Int32} {u0 : Int32} {ci : Nat} {num : Int32} {n : Int32} {fd : Int32} (hc : [1, 2, 4, 6, 8].contains ci = true) (e2 : h[r0]? = some (oV ci r0 num n fd)) (k : mCt mCd 46 [.ref r0, .int x2] h (fun rv hv => mWp mCd 50 (14, [none, none, none], rv.toList ++ [.int u0], hv, 0, 0) Q)) : mWp mCd 50 (9, [some (.ref r0), none, some (.int x2)], [.int u0], h, 0, 0) Q := by
  refine mWp_run 2 (t' := (11, [some (.ref r0), none, some (.int x2)], [.int x2, .ref r0, .int u0], h, 0, 0)) rfl ?_
  exact mWp_iv rfl rfl e2 (mS5 hc) rfl rfl rfl (mCt_mono k (fun rv hv y => mWp_weak (mLe_n (mLe_n (mLe_n mLe_0))) y))
theorem b50_14 {h : mH} {Q : Option Value → mH → Prop} {u0 : Int32} {u1 : Int32}  (k : Q (some (.int (u1 - u0))) h) : mWp mCd 50 (14, [none, none, none], [.int u0, .int u1], h, 0, 0) Q := by
  refine mWp_run 1 (t' := (15, [none, none, none], [.int (u1 - u0)], h, 0, 0)) rfl ?_
  exact mWp_r (v := (some (.int (u1 - u0)))) rfl k
theorem b51_0 {h : mH} {Q : Option Value → mH → Prop} {r0 : Nat}  (k : mWp mCd 51 (4, [some (.ref r0), some (.int (iZ 0)), some (.int (iZ 0))], [], h, 0, 0) Q) : mWp mCd 51 (0, [some (.ref r0), none, none], [], h, 0, 0) Q := by
  refine mWp_run 4 (t' := (4, [some (.ref r0), some (.int (iZ 0)), some (.int (iZ 0))], [], h, 0, 0)) rfl ?_
  exact k
theorem b51_4 {h : mH} {Q : Option Value → mH → Prop} {r0 : Nat} {x1 : Int32} {x2 : Int32} {ci : Nat} {num : Int32} {n : Int32} {fd : Int32} (hc : [1, 2, 4, 6, 8].contains ci = true) (e2 : h[r0]? = some (oV ci r0 num n fd)) (k1 : n ≤ x2 → mWp mCd 51 (32, [none, some (.int x1), none], [], h, 0, 0) Q) (k2 : ¬ (n ≤ x2) → mWp mCd 51 (12, [some (.ref r0), some (.int x1), some (.int x2)], [], h, 0, 0) Q) : mWp mCd 51 (4, [some (.ref r0), some (.int x1), some (.int x2)], [], h, 0, 0) Q := by
  refine mWp_run 2 (t' := (6, [some (.ref r0), some (.int x1), some (.int x2)], [.ref r0, .int x2], h, 0, 0)) rfl ?_
  refine mWp_gf rfl e2 hc rfl ?_
  exact mWp_ic (P := fun x y => y ≤ x) (a := x2) (b := n) rfl (fun q => mWp_weak (mLe_n (mLe_s (mLe_n mLe_0))) (k1 q)) k2
theorem b51_32 {h : mH} {Q : Option Value → mH → Prop} {x1 : Int32}  (k : Q (some (.int x1)) h) : mWp mCd 51 (32, [none, some (.int x1), none], [], h, 0, 0) Q := by
  refine mWp_run 1 (t' := (33, [none, some (.int x1), none], [.int x1], h, 0, 0)) rfl ?_
  exact mWp_r (v := (some (.int x1))) rfl k
theorem b51_12 {h : mH} {Q : Option Value → mH → Prop} {r0 : Nat} {x1 : Int32} {x2 : Int32} {ci : Nat} {num : Int32} {n : Int32} {fd : Int32} (hc : [1, 2, 4, 6, 8].contains ci = true) (e2 : h[r0]? = some (oV ci r0 num n fd)) (k : mCt mCd 52 [.ref r0, .int x2] h (fun rv hv => mWp mCd 51 (17, [some (.ref r0), some (.int x1), some (.int x2)], rv.toList ++ [], hv, 0, 0) Q)) : mWp mCd 51 (12, [some (.ref r0), some (.int x1), some (.int x2)], [], h, 0, 0) Q := by
  refine mWp_run 2 (t' := (14, [some (.ref r0), some (.int x1), some (.int x2)], [.int x2, .ref r0], h, 0, 0)) rfl ?_
  exact mWp_iv rfl rfl e2 (mS5 hc) rfl rfl rfl k
theorem b51_17 {h : mH} {Q : Option Value → mH → Prop} {r0 : Nat} {x1 : Int32} {x2 : Int32} {u0 : Int32}  (k1 : u0 = 0 → mWp mCd 51 (26, [some (.ref r0), some (.int x1), some (.int x2)], [], h, 0, 0) Q) (k2 : ¬ (u0 = 0) → mWp mCd 51 (20, [some (.ref r0), some (.int x1), some (.int x2)], [], h, 0, 0) Q) : mWp mCd 51 (17, [some (.ref r0), some (.int x1), some (.int x2)], [.int u0], h, 0, 0) Q := by
  exact mWp_if (P := fun x => x = 0) (a := u0) rfl k1 k2
theorem b51_26 {h : mH} {Q : Option Value → mH → Prop} {r0 : Nat} {x1 : Int32} {x2 : Int32}  (k : mWp mCd 51 (4, [some (.ref r0), some (.int x1), some (.int (x2 + iZ 1))], [], h, 0, 0) Q) : mWp mCd 51 (26, [some (.ref r0), some (.int x1), some (.int x2)], [], h, 0, 0) Q := by
  refine mWp_run 2 (t' := (4, [some (.ref r0), some (.int x1), some (.int (x2 + iZ 1))], [], h, 0, 0)) rfl ?_
  exact k
theorem b51_20 {h : mH} {Q : Option Value → mH → Prop} {r0 : Nat} {x1 : Int32} {x2 : Int32}  (k : mWp mCd 51 (26, [some (.ref r0), some (.int (x1 ||| ((iZ 1) <<< (x2 &&& 31)))), some (.int x2)], [], h, 0, 0) Q) : mWp mCd 51 (20, [some (.ref r0), some (.int x1), some (.int x2)], [], h, 0, 0) Q := by
  refine mWp_run 6 (t' := (26, [some (.ref r0), some (.int (x1 ||| ((iZ 1) <<< (x2 &&& 31)))), some (.int x2)], [], h, 0, 0)) rfl ?_
  exact k
theorem b52_0 {h : mH} {Q : Option Value → mH → Prop} {r0 : Nat} {x1 : Int32} {ci : Nat} {num : Int32} {n : Int32} {fd : Int32} (hc : [1, 2, 4, 6, 8].contains ci = true) (e2 : h[r0]? = some (oV ci r0 num n fd)) (k : mCt mCd 46 [.ref r0, .int ((iZ 1) <<< (x1 &&& 31))] h (fun rv hv => mWp mCd 52 (7, [some (.ref r0), some (.int x1), none, none], rv.toList ++ [], hv, 0, 0) Q)) : mWp mCd 52 (0, [some (.ref r0), some (.int x1), none, none], [], h, 0, 0) Q := by
  refine mWp_run 4 (t' := (4, [some (.ref r0), some (.int x1), none, none], [.int ((iZ 1) <<< (x1 &&& 31)), .ref r0], h, 0, 0)) rfl ?_
  exact mWp_iv rfl rfl e2 (mS5 hc) rfl rfl rfl k
theorem b52_7 {h : mH} {Q : Option Value → mH → Prop} {r0 : Nat} {x1 : Int32} {u0 : Int32}  (k : mWp mCd 52 (10, [some (.ref r0), some (.int x1), some (.int u0), some (.int (iZ 0))], [], h, 0, 0) Q) : mWp mCd 52 (7, [some (.ref r0), some (.int x1), none, none], [.int u0], h, 0, 0) Q := by
  refine mWp_run 3 (t' := (10, [some (.ref r0), some (.int x1), some (.int u0), some (.int (iZ 0))], [], h, 0, 0)) rfl ?_
  exact k
theorem b52_10 {h : mH} {Q : Option Value → mH → Prop} {r0 : Nat} {x1 : Int32} {x2 : Int32} {x3 : Int32} {ci : Nat} {num : Int32} {n : Int32} {fd : Int32} (hc : [1, 2, 4, 6, 8].contains ci = true) (e2 : h[r0]? = some (oV ci r0 num n fd)) (k : mCt mCd 42 [.ref r0] h (fun rv hv => mWp mCd 52 (15, [some (.ref r0), some (.int x1), some (.int x2), some (.int x3)], rv.toList ++ [.int x3], hv, 0, 0) Q)) : mWp mCd 52 (10, [some (.ref r0), some (.int x1), some (.int x2), some (.int x3)], [], h, 0, 0) Q := by
  refine mWp_run 2 (t' := (12, [some (.ref r0), some (.int x1), some (.int x2), some (.int x3)], [.ref r0, .int x3], h, 0, 0)) rfl ?_
  exact mWp_iv rfl rfl e2 (mS5 hc) rfl rfl rfl k
theorem b52_15 {h : mH} {Q : Option Value → mH → Prop} {r0 : Nat} {x1 : Int32} {x2 : Int32} {x3 : Int32} {u0 : Int32} {u1 : Int32}  (k1 : u0 < u1 → mWp mCd 52 (44, [none, none, none, none], [], h, 0, 0) Q) (k2 : ¬ (u0 < u1) → mWp mCd 52 (18, [some (.ref r0), some (.int x1), some (.int x2), some (.int x3)], [], h, 0, 0) Q) : mWp mCd 52 (15, [some (.ref r0), some (.int x1), some (.int x2), some (.int x3)], [.int u0, .int u1], h, 0, 0) Q := by
  exact mWp_ic (P := fun x y => y < x) (a := u1) (b := u0) rfl (fun q => mWp_weak (mLe_n (mLe_n (mLe_n (mLe_n mLe_0)))) (k1 q)) k2
theorem b52_44 {h : mH} {Q : Option Value → mH → Prop}   (k : Q (some (.int (iZ 1))) h) : mWp mCd 52 (44, [none, none, none, none], [], h, 0, 0) Q := by
  refine mWp_run 1 (t' := (45, [none, none, none, none], [.int (iZ 1)], h, 0, 0)) rfl ?_
  exact mWp_r (v := (some (.int (iZ 1)))) rfl k
theorem b52_18 {h : mH} {Q : Option Value → mH → Prop} {r0 : Nat} {x1 : Int32} {x2 : Int32} {x3 : Int32}  (k : mCt mCd 126 [.int x3, .int x1] h (fun rv hv => mWp mCd 52 (23, [some (.ref r0), some (.int x1), some (.int x2), some (.int x3)], rv.toList ++ [], hv, 0, 0) Q)) : mWp mCd 52 (18, [some (.ref r0), some (.int x1), some (.int x2), some (.int x3)], [], h, 0, 0) Q := by
  refine mWp_run 2 (t' := (20, [some (.ref r0), some (.int x1), some (.int x2), some (.int x3)], [.int x1, .int x3], h, 0, 0)) rfl ?_
  exact mWp_is rfl rfl rfl rfl rfl k
theorem b52_23 {h : mH} {Q : Option Value → mH → Prop} {r0 : Nat} {x1 : Int32} {x2 : Int32} {x3 : Int32} {u0 : Int32}  (k1 : ¬ u0 = 0 → mWp mCd 52 (38, [some (.ref r0), some (.int x1), some (.int x2), some (.int x3)], [], h, 0, 0) Q) (k2 : ¬ (¬ u0 = 0) → mWp mCd 52 (26, [some (.ref r0), some (.int x1), some (.int x2), some (.int x3)], [], h, 0, 0) Q) : mWp mCd 52 (23, [some (.ref r0), some (.int x1), some (.int x2), some (.int x3)], [.int u0], h, 0, 0) Q := by
  exact mWp_if (P := fun x => ¬ x = 0) (a := u0) rfl k1 k2
theorem b52_38 {h : mH} {Q : Option Value → mH → Prop} {r0 : Nat} {x1 : Int32} {x2 : Int32} {x3 : Int32}  (k : mWp mCd 52 (10, [some (.ref r0), some (.int x1), some (.int x2), some (.int (x3 + iZ 1))], [], h, 0, 0) Q) : mWp mCd 52 (38, [some (.ref r0), some (.int x1), some (.int x2), some (.int x3)], [], h, 0, 0) Q := by
  refine mWp_run 2 (t' := (10, [some (.ref r0), some (.int x1), some (.int x2), some (.int (x3 + iZ 1))], [], h, 0, 0)) rfl ?_
  exact k
theorem b52_26 {h : mH} {Q : Option Value → mH → Prop} {r0 : Nat} {x1 : Int32} {x2 : Int32} {x3 : Int32} {ci : Nat} {num : Int32} {n : Int32} {fd : Int32} (hc : [1, 2, 4, 6, 8].contains ci = true) (e2 : h[r0]? = some (oV ci r0 num n fd)) (k : mCt mCd 50 [.ref r0, .int x1, .int x3] h (fun rv hv => mWp mCd 52 (32, [some (.ref r0), some (.int x1), some (.int x2), some (.int x3)], rv.toList ++ [], hv, 0, 0) Q)) : mWp mCd 52 (26, [some (.ref r0), some (.int x1), some (.int x2), some (.int x3)], [], h, 0, 0) Q := by
  refine mWp_run 3 (t' := (29, [some (.ref r0), some (.int x1), some (.int x2), some (.int x3)], [.int x3, .int x1, .ref r0], h, 0, 0)) rfl ?_
  exact mWp_iv rfl rfl e2 (mS5 hc) rfl rfl rfl k
theorem b52_32 {h : mH} {Q : Option Value → mH → Prop} {r0 : Nat} {x1 : Int32} {x2 : Int32} {x3 : Int32} {u0 : Int32}  (k1 : u0 = x2 → mWp mCd 52 (38, [some (.ref r0), some (.int x1), some (.int x2), some (.int x3)], [], h, 0, 0) Q) (k2 : ¬ (u0 = x2) → mWp mCd 52 (36, [none, none, none, none], [], h, 0, 0) Q) : mWp mCd 52 (32, [some (.ref r0), some (.int x1), some (.int x2), some (.int x3)], [.int u0], h, 0, 0) Q := by
  refine mWp_run 1 (t' := (33, [some (.ref r0), some (.int x1), some (.int x2), some (.int x3)], [.int x2, .int u0], h, 0, 0)) rfl ?_
  exact mWp_ic (P := fun x y => x = y) (a := u0) (b := x2) rfl k1 (fun q => mWp_weak (mLe_n (mLe_n (mLe_n (mLe_n mLe_0)))) (k2 q))
theorem b52_36 {h : mH} {Q : Option Value → mH → Prop}   (k : Q (some (.int (iZ 0))) h) : mWp mCd 52 (36, [none, none, none, none], [], h, 0, 0) Q := by
  refine mWp_run 1 (t' := (37, [none, none, none, none], [.int (iZ 0)], h, 0, 0)) rfl ?_
  exact mWp_r (v := (some (.int (iZ 0)))) rfl k
theorem b53_0 {h : mH} {Q : Option Value → mH → Prop} {r0 : Nat} {x1 : Int32} {x2 : Int32}  (k : mWp mCd 53 (2, [some (.ref r0), some (.int x1), some (.int x2), some (.int (iZ 0))], [], h, 0, 0) Q) : mWp mCd 53 (0, [some (.ref r0), some (.int x1), some (.int x2), none], [], h, 0, 0) Q := by
  refine mWp_run 2 (t' := (2, [some (.ref r0), some (.int x1), some (.int x2), some (.int (iZ 0))], [], h, 0, 0)) rfl ?_
  exact k
theorem b53_2 {h : mH} {Q : Option Value → mH → Prop} {r0 : Nat} {x1 : Int32} {x2 : Int32} {x3 : Int32} {ci : Nat} {num : Int32} {n : Int32} {fd : Int32} (hc : [1, 2, 4, 6, 8].contains ci = true) (e2 : h[r0]? = some (oV ci r0 num n fd)) (k : mCt mCd 42 [.ref r0] h (fun rv hv => mWp mCd 53 (7, [some (.ref r0), some (.int x1), some (.int x2), some (.int x3)], rv.toList ++ [.int x3], hv, 0, 0) Q)) : mWp mCd 53 (2, [some (.ref r0), some (.int x1), some (.int x2), some (.int x3)], [], h, 0, 0) Q := by
  refine mWp_run 2 (t' := (4, [some (.ref r0), some (.int x1), some (.int x2), some (.int x3)], [.ref r0, .int x3], h, 0, 0)) rfl ?_
  exact mWp_iv rfl rfl e2 (mS5 hc) rfl rfl rfl k
theorem b53_7 {h : mH} {Q : Option Value → mH → Prop} {r0 : Nat} {x1 : Int32} {x2 : Int32} {x3 : Int32} {u0 : Int32} {u1 : Int32}  (k1 : u0 < u1 → mWp mCd 53 (49, [none, none, none, none], [], h, 0, 0) Q) (k2 : ¬ (u0 < u1) → mWp mCd 53 (10, [some (.ref r0), some (.int x1), some (.int x2), some (.int x3)], [], h, 0, 0) Q) : mWp mCd 53 (7, [some (.ref r0), some (.int x1), some (.int x2), some (.int x3)], [.int u0, .int u1], h, 0, 0) Q := by
  exact mWp_ic (P := fun x y => y < x) (a := u1) (b := u0) rfl (fun q => mWp_weak (mLe_n (mLe_n (mLe_n (mLe_n mLe_0)))) (k1 q)) k2
theorem b53_49 {h : mH} {Q : Option Value → mH → Prop}   (k : Q (some (.int (iZ 1))) h) : mWp mCd 53 (49, [none, none, none, none], [], h, 0, 0) Q := by
  refine mWp_run 1 (t' := (50, [none, none, none, none], [.int (iZ 1)], h, 0, 0)) rfl ?_
  exact mWp_r (v := (some (.int (iZ 1)))) rfl k
theorem b53_10 {h : mH} {Q : Option Value → mH → Prop} {r0 : Nat} {x1 : Int32} {x2 : Int32} {x3 : Int32}  (k : mCt mCd 126 [.int x3, .int x1] h (fun rv hv => mWp mCd 53 (15, [some (.ref r0), some (.int x1), some (.int x2), some (.int x3)], rv.toList ++ [], hv, 0, 0) Q)) : mWp mCd 53 (10, [some (.ref r0), some (.int x1), some (.int x2), some (.int x3)], [], h, 0, 0) Q := by
  refine mWp_run 2 (t' := (12, [some (.ref r0), some (.int x1), some (.int x2), some (.int x3)], [.int x1, .int x3], h, 0, 0)) rfl ?_
  exact mWp_is rfl rfl rfl rfl rfl k
theorem b53_15 {h : mH} {Q : Option Value → mH → Prop} {r0 : Nat} {x1 : Int32} {x2 : Int32} {x3 : Int32} {u0 : Int32}  (k1 : ¬ u0 = 0 → mWp mCd 53 (43, [some (.ref r0), some (.int x1), some (.int x2), some (.int x3)], [], h, 0, 0) Q) (k2 : ¬ (¬ u0 = 0) → mWp mCd 53 (18, [some (.ref r0), some (.int x1), some (.int x2), some (.int x3)], [], h, 0, 0) Q) : mWp mCd 53 (15, [some (.ref r0), some (.int x1), some (.int x2), some (.int x3)], [.int u0], h, 0, 0) Q := by
  exact mWp_if (P := fun x => ¬ x = 0) (a := u0) rfl k1 k2
theorem b53_43 {h : mH} {Q : Option Value → mH → Prop} {r0 : Nat} {x1 : Int32} {x2 : Int32} {x3 : Int32}  (k : mWp mCd 53 (2, [some (.ref r0), some (.int x1), some (.int x2), some (.int (x3 + iZ 1))], [], h, 0, 0) Q) : mWp mCd 53 (43, [some (.ref r0), some (.int x1), some (.int x2), some (.int x3)], [], h, 0, 0) Q := by
  refine mWp_run 2 (t' := (2, [some (.ref r0), some (.int x1), some (.int x2), some (.int (x3 + iZ 1))], [], h, 0, 0)) rfl ?_
  exact k
theorem b53_18 {h : mH} {Q : Option Value → mH → Prop} {r0 : Nat} {x1 : Int32} {x2 : Int32} {x3 : Int32}  (k : mCt mCd 126 [.int x3, .int x2] h (fun rv hv => mWp mCd 53 (23, [some (.ref r0), some (.int x1), some (.int x2), some (.int x3)], rv.toList ++ [], hv, 0, 0) Q)) : mWp mCd 53 (18, [some (.ref r0), some (.int x1), some (.int x2), some (.int x3)], [], h, 0, 0) Q := by
  refine mWp_run 2 (t' := (20, [some (.ref r0), some (.int x1), some (.int x2), some (.int x3)], [.int x2, .int x3], h, 0, 0)) rfl ?_
  exact mWp_is rfl rfl rfl rfl rfl k
theorem b53_23 {h : mH} {Q : Option Value → mH → Prop} {r0 : Nat} {x1 : Int32} {x2 : Int32} {x3 : Int32} {u0 : Int32}  (k1 : ¬ u0 = 0 → mWp mCd 53 (43, [some (.ref r0), some (.int x1), some (.int x2), some (.int x3)], [], h, 0, 0) Q) (k2 : ¬ (¬ u0 = 0) → mWp mCd 53 (26, [some (.ref r0), some (.int x1), some (.int x2), some (.int x3)], [], h, 0, 0) Q) : mWp mCd 53 (23, [some (.ref r0), some (.int x1), some (.int x2), some (.int x3)], [.int u0], h, 0, 0) Q := by
  exact mWp_if (P := fun x => ¬ x = 0) (a := u0) rfl k1 k2
theorem b53_26 {h : mH} {Q : Option Value → mH → Prop} {r0 : Nat} {x1 : Int32} {x2 : Int32} {x3 : Int32} {ci : Nat} {num : Int32} {n : Int32} {fd : Int32} (hc : [1, 2, 4, 6, 8].contains ci = true) (e2 : h[r0]? = some (oV ci r0 num n fd)) (k : mCt mCd 50 [.ref r0, .int x1, .int x3] h (fun rv hv => mWp mCd 53 (32, [some (.ref r0), some (.int x1), some (.int x2), some (.int x3)], rv.toList ++ [], hv, 0, 0) Q)) : mWp mCd 53 (26, [some (.ref r0), some (.int x1), some (.int x2), some (.int x3)], [], h, 0, 0) Q := by
  refine mWp_run 3 (t' := (29, [some (.ref r0), some (.int x1), some (.int x2), some (.int x3)], [.int x3, .int x1, .ref r0], h, 0, 0)) rfl ?_
  exact mWp_iv rfl rfl e2 (mS5 hc) rfl rfl rfl k
theorem b53_32 {h : mH} {Q : Option Value → mH → Prop} {r0 : Nat} {x1 : Int32} {x2 : Int32} {x3 : Int32} {u0 : Int32} {ci : Nat} {num : Int32} {n : Int32} {fd : Int32} (hc : [1, 2, 4, 6, 8].contains ci = true) (e2 : h[r0]? = some (oV ci r0 num n fd)) (k : mCt mCd 50 [.ref r0, .int x2, .int x3] h (fun rv hv => mWp mCd 53 (38, [some (.ref r0), some (.int x1), some (.int x2), some (.int x3)], rv.toList ++ [.int u0], hv, 0, 0) Q)) : mWp mCd 53 (32, [some (.ref r0), some (.int x1), some (.int x2), some (.int x3)], [.int u0], h, 0, 0) Q := by
  refine mWp_run 3 (t' := (35, [some (.ref r0), some (.int x1), some (.int x2), some (.int x3)], [.int x3, .int x2, .ref r0, .int u0], h, 0, 0)) rfl ?_
  exact mWp_iv rfl rfl e2 (mS5 hc) rfl rfl rfl k
theorem b53_38 {h : mH} {Q : Option Value → mH → Prop} {r0 : Nat} {x1 : Int32} {x2 : Int32} {x3 : Int32} {u0 : Int32} {u1 : Int32}  (k1 : u1 = u0 → mWp mCd 53 (43, [some (.ref r0), some (.int x1), some (.int x2), some (.int x3)], [], h, 0, 0) Q) (k2 : ¬ (u1 = u0) → mWp mCd 53 (41, [none, none, none, none], [], h, 0, 0) Q) : mWp mCd 53 (38, [some (.ref r0), some (.int x1), some (.int x2), some (.int x3)], [.int u0, .int u1], h, 0, 0) Q := by
  exact mWp_ic (P := fun x y => x = y) (a := u1) (b := u0) rfl k1 (fun q => mWp_weak (mLe_n (mLe_n (mLe_n (mLe_n mLe_0)))) (k2 q))
theorem b53_41 {h : mH} {Q : Option Value → mH → Prop}   (k : Q (some (.int (iZ 0))) h) : mWp mCd 53 (41, [none, none, none, none], [], h, 0, 0) Q := by
  refine mWp_run 1 (t' := (42, [none, none, none, none], [.int (iZ 0)], h, 0, 0)) rfl ?_
  exact mWp_r (v := (some (.int (iZ 0)))) rfl k
theorem b54_0 {h : mH} {Q : Option Value → mH → Prop} {r0 : Nat}  (k : mWp mCd 54 (4, [some (.ref r0), some (.int (iZ 0)), some (.int (iZ 0))], [], h, 0, 0) Q) : mWp mCd 54 (0, [some (.ref r0), none, none], [], h, 0, 0) Q := by
  refine mWp_run 4 (t' := (4, [some (.ref r0), some (.int (iZ 0)), some (.int (iZ 0))], [], h, 0, 0)) rfl ?_
  exact k
theorem b54_4 {h : mH} {Q : Option Value → mH → Prop} {r0 : Nat} {x1 : Int32} {x2 : Int32} {ci : Nat} {num : Int32} {n : Int32} {fd : Int32} (hc : [1, 2, 4, 6, 8].contains ci = true) (e2 : h[r0]? = some (oV ci r0 num n fd)) (k1 : n ≤ x2 → mWp mCd 54 (39, [none, some (.int x1), none], [], h, 0, 0) Q) (k2 : ¬ (n ≤ x2) → mWp mCd 54 (12, [some (.ref r0), some (.int x1), some (.int x2)], [], h, 0, 0) Q) : mWp mCd 54 (4, [some (.ref r0), some (.int x1), some (.int x2)], [], h, 0, 0) Q := by
  refine mWp_run 2 (t' := (6, [some (.ref r0), some (.int x1), some (.int x2)], [.ref r0, .int x2], h, 0, 0)) rfl ?_
  refine mWp_gf rfl e2 hc rfl ?_
  exact mWp_ic (P := fun x y => y ≤ x) (a := x2) (b := n) rfl (fun q => mWp_weak (mLe_n (mLe_s (mLe_n mLe_0))) (k1 q)) k2
theorem b54_39 {h : mH} {Q : Option Value → mH → Prop} {x1 : Int32}  (k : Q (some (.int x1)) h) : mWp mCd 54 (39, [none, some (.int x1), none], [], h, 0, 0) Q := by
  refine mWp_run 1 (t' := (40, [none, some (.int x1), none], [.int x1], h, 0, 0)) rfl ?_
  exact mWp_r (v := (some (.int x1))) rfl k
theorem b54_12 {h : mH} {Q : Option Value → mH → Prop} {r0 : Nat} {x1 : Int32} {x2 : Int32} {ci : Nat} {num : Int32} {n : Int32} {fd : Int32} (hc : [1, 2, 4, 6, 8].contains ci = true) (e2 : h[r0]? = some (oV ci r0 num n fd)) (k : mCt mCd 42 [.ref r0] h (fun rv hv => mWp mCd 54 (18, [some (.ref r0), some (.int x1), some (.int x2)], rv.toList ++ [.int x2, .ref r0], hv, 0, 0) Q)) : mWp mCd 54 (12, [some (.ref r0), some (.int x1), some (.int x2)], [], h, 0, 0) Q := by
  refine mWp_run 3 (t' := (15, [some (.ref r0), some (.int x1), some (.int x2)], [.ref r0, .int x2, .ref r0], h, 0, 0)) rfl ?_
  exact mWp_iv rfl rfl e2 (mS5 hc) rfl rfl rfl k
theorem b54_18 {h : mH} {Q : Option Value → mH → Prop} {r0 : Nat} {x1 : Int32} {x2 : Int32} {u0 : Int32} {u1 : Int32} {q2 : Nat} {ci : Nat} {num : Int32} {n : Int32} {fd : Int32} (hc : [1, 2, 4, 6, 8].contains ci = true) (e2 : h[q2]? = some (oV ci q2 num n fd)) (k : mCt mCd 50 [.ref q2, .int u1, .int (u0 &&& (((iZ 1) <<< (x2 &&& 31)) ^^^ (iZ (-1))))] h (fun rv hv => mWp mCd 54 (27, [some (.ref r0), some (.int x1), some (.int x2)], rv.toList ++ [], hv, 0, 0) Q)) : mWp mCd 54 (18, [some (.ref r0), some (.int x1), some (.int x2)], [.int u0, .int u1, .ref q2], h, 0, 0) Q := by
  refine mWp_run 6 (t' := (24, [some (.ref r0), some (.int x1), some (.int x2)], [.int (u0 &&& (((iZ 1) <<< (x2 &&& 31)) ^^^ (iZ (-1)))), .int u1, .ref q2], h, 0, 0)) rfl ?_
  exact mWp_iv rfl rfl e2 (mS5 hc) rfl rfl rfl k
theorem b54_27 {h : mH} {Q : Option Value → mH → Prop} {r0 : Nat} {x1 : Int32} {x2 : Int32} {u0 : Int32}  (k1 : 0 ≤ u0 → mWp mCd 54 (33, [some (.ref r0), some (.int x1), some (.int x2)], [], h, 0, 0) Q) (k2 : ¬ (0 ≤ u0) → mWp mCd 54 (30, [some (.ref r0), some (.int x1), some (.int x2)], [], h, 0, 0) Q) : mWp mCd 54 (27, [some (.ref r0), some (.int x1), some (.int x2)], [.int u0], h, 0, 0) Q := by
  exact mWp_if (P := fun x => 0 ≤ x) (a := u0) rfl k1 k2
theorem b54_33 {h : mH} {Q : Option Value → mH → Prop} {r0 : Nat} {x1 : Int32} {x2 : Int32}  (k : mWp mCd 54 (4, [some (.ref r0), some (.int x1), some (.int (x2 + iZ 1))], [], h, 0, 0) Q) : mWp mCd 54 (33, [some (.ref r0), some (.int x1), some (.int x2)], [], h, 0, 0) Q := by
  refine mWp_run 2 (t' := (4, [some (.ref r0), some (.int x1), some (.int (x2 + iZ 1))], [], h, 0, 0)) rfl ?_
  exact k
theorem b54_30 {h : mH} {Q : Option Value → mH → Prop} {r0 : Nat} {x1 : Int32} {x2 : Int32}  (k : mWp mCd 54 (33, [some (.ref r0), some (.int (x1 + iZ 1)), some (.int x2)], [], h, 0, 0) Q) : mWp mCd 54 (30, [some (.ref r0), some (.int x1), some (.int x2)], [], h, 0, 0) Q := by
  refine mWp_run 1 (t' := (33, [some (.ref r0), some (.int (x1 + iZ 1)), some (.int x2)], [], h, 0, 0)) rfl ?_
  exact k
theorem b55_0 {h : mH} {Q : Option Value → mH → Prop} {r0 : Nat}  (k : mWp mCd 55 (2, [some (.ref r0), some (.int (iZ 0)), none, none], [], h, 0, 0) Q) : mWp mCd 55 (0, [some (.ref r0), none, none, none], [], h, 0, 0) Q := by
  refine mWp_run 2 (t' := (2, [some (.ref r0), some (.int (iZ 0)), none, none], [], h, 0, 0)) rfl ?_
  exact k
theorem b55_2 {h : mH} {Q : Option Value → mH → Prop} {r0 : Nat} {x1 : Int32} {ci : Nat} {num : Int32} {n : Int32} {fd : Int32} (hc : [1, 2, 4, 6, 8].contains ci = true) (e2 : h[r0]? = some (oV ci r0 num n fd)) (k1 : n ≤ x1 → mWp mCd 55 (70, [none, none, none, none], [], h, 0, 0) Q) (k2 : ¬ (n ≤ x1) → mWp mCd 55 (10, [some (.ref r0), some (.int x1), none, none], [], h, 0, 0) Q) : mWp mCd 55 (2, [some (.ref r0), some (.int x1), none, none], [], h, 0, 0) Q := by
  refine mWp_run 2 (t' := (4, [some (.ref r0), some (.int x1), none, none], [.ref r0, .int x1], h, 0, 0)) rfl ?_
  refine mWp_gf rfl e2 hc rfl ?_
  exact mWp_ic (P := fun x y => y ≤ x) (a := x1) (b := n) rfl (fun q => mWp_weak (mLe_n (mLe_n (mLe_n (mLe_n mLe_0)))) (k1 q)) k2
theorem b55_70 {h : mH} {Q : Option Value → mH → Prop}   (k : Q (some (.int (iZ (-1)))) h) : mWp mCd 55 (70, [none, none, none, none], [], h, 0, 0) Q := by
  refine mWp_run 1 (t' := (71, [none, none, none, none], [.int (iZ (-1))], h, 0, 0)) rfl ?_
  exact mWp_r (v := (some (.int (iZ (-1))))) rfl k
theorem b55_10 {h : mH} {Q : Option Value → mH → Prop} {r0 : Nat} {x1 : Int32}  (k : mWp mCd 55 (12, [some (.ref r0), some (.int x1), some (.int (iZ 0)), none], [], h, 0, 0) Q) : mWp mCd 55 (10, [some (.ref r0), some (.int x1), none, none], [], h, 0, 0) Q := by
  refine mWp_run 2 (t' := (12, [some (.ref r0), some (.int x1), some (.int (iZ 0)), none], [], h, 0, 0)) rfl ?_
  exact k
theorem b55_12 {h : mH} {Q : Option Value → mH → Prop} {r0 : Nat} {x1 : Int32} {x2 : Int32} {ci : Nat} {num : Int32} {n : Int32} {fd : Int32} (hc : [1, 2, 4, 6, 8].contains ci = true) (e2 : h[r0]? = some (oV ci r0 num n fd)) (k : mCt mCd 42 [.ref r0] h (fun rv hv => mWp mCd 55 (17, [some (.ref r0), some (.int x1), some (.int x2), none], rv.toList ++ [.int x2], hv, 0, 0) Q)) : mWp mCd 55 (12, [some (.ref r0), some (.int x1), some (.int x2), none], [], h, 0, 0) Q := by
  refine mWp_run 2 (t' := (14, [some (.ref r0), some (.int x1), some (.int x2), none], [.ref r0, .int x2], h, 0, 0)) rfl ?_
  exact mWp_iv rfl rfl e2 (mS5 hc) rfl rfl rfl k
theorem b55_17 {h : mH} {Q : Option Value → mH → Prop} {r0 : Nat} {x1 : Int32} {x2 : Int32} {u0 : Int32} {u1 : Int32}  (k1 : u0 < u1 → mWp mCd 55 (64, [some (.ref r0), some (.int x1), none, none], [], h, 0, 0) Q) (k2 : ¬ (u0 < u1) → mWp mCd 55 (20, [some (.ref r0), some (.int x1), some (.int x2), none], [], h, 0, 0) Q) : mWp mCd 55 (17, [some (.ref r0), some (.int x1), some (.int x2), none], [.int u0, .int u1], h, 0, 0) Q := by
  exact mWp_ic (P := fun x y => y < x) (a := u1) (b := u0) rfl (fun q => mWp_weak (mLe_s (mLe_s (mLe_n (mLe_n mLe_0)))) (k1 q)) k2
theorem b55_64 {h : mH} {Q : Option Value → mH → Prop} {r0 : Nat} {x1 : Int32}  (k : mWp mCd 55 (2, [some (.ref r0), some (.int (x1 + iZ 1)), none, none], [], h, 0, 0) Q) : mWp mCd 55 (64, [some (.ref r0), some (.int x1), none, none], [], h, 0, 0) Q := by
  refine mWp_run 2 (t' := (2, [some (.ref r0), some (.int (x1 + iZ 1)), none, none], [], h, 0, 0)) rfl ?_
  exact k
theorem b55_20 {h : mH} {Q : Option Value → mH → Prop} {r0 : Nat} {x1 : Int32} {x2 : Int32}  (k : mCt mCd 126 [.int x2, .int x1] h (fun rv hv => mWp mCd 55 (25, [some (.ref r0), some (.int x1), some (.int x2), none], rv.toList ++ [], hv, 0, 0) Q)) : mWp mCd 55 (20, [some (.ref r0), some (.int x1), some (.int x2), none], [], h, 0, 0) Q := by
  refine mWp_run 2 (t' := (22, [some (.ref r0), some (.int x1), some (.int x2), none], [.int x1, .int x2], h, 0, 0)) rfl ?_
  exact mWp_is rfl rfl rfl rfl rfl k
theorem b55_25 {h : mH} {Q : Option Value → mH → Prop} {r0 : Nat} {x1 : Int32} {x2 : Int32} {u0 : Int32}  (k1 : ¬ u0 = (iZ 1) → mWp mCd 55 (33, [some (.ref r0), some (.int x1), some (.int x2), none], [], h, 0, 0) Q) (k2 : ¬ (¬ u0 = (iZ 1)) → mWp mCd 55 (29, [some (.ref r0), some (.int x1), some (.int x2), none], [], h, 0, 0) Q) : mWp mCd 55 (25, [some (.ref r0), some (.int x1), some (.int x2), none], [.int u0], h, 0, 0) Q := by
  refine mWp_run 1 (t' := (26, [some (.ref r0), some (.int x1), some (.int x2), none], [.int (iZ 1), .int u0], h, 0, 0)) rfl ?_
  exact mWp_ic (P := fun x y => ¬ x = y) (a := u0) (b := iZ 1) rfl k1 k2
theorem b55_33 {h : mH} {Q : Option Value → mH → Prop} {r0 : Nat} {x1 : Int32} {x2 : Int32} {ci : Nat} {num : Int32} {n : Int32} {fd : Int32} (hc : [1, 2, 4, 6, 8].contains ci = true) (e2 : h[r0]? = some (oV ci r0 num n fd)) (k : mCt mCd 56 [.ref r0, .int x1, .int x2] h (fun rv hv => mWp mCd 55 (39, [some (.ref r0), some (.int x1), some (.int x2), none], rv.toList ++ [], hv, 0, 0) Q)) : mWp mCd 55 (33, [some (.ref r0), some (.int x1), some (.int x2), none], [], h, 0, 0) Q := by
  refine mWp_run 3 (t' := (36, [some (.ref r0), some (.int x1), some (.int x2), none], [.int x2, .int x1, .ref r0], h, 0, 0)) rfl ?_
  exact mWp_iv rfl rfl e2 (mS5 hc) rfl rfl rfl k
theorem b55_29 {h : mH} {Q : Option Value → mH → Prop} {r0 : Nat} {x1 : Int32} {x2 : Int32}  (k : mWp mCd 55 (39, [some (.ref r0), some (.int x1), some (.int x2), none], [.int (iZ (-1))], h, 0, 0) Q) : mWp mCd 55 (29, [some (.ref r0), some (.int x1), some (.int x2), none], [], h, 0, 0) Q := by
  refine mWp_run 2 (t' := (39, [some (.ref r0), some (.int x1), some (.int x2), none], [.int (iZ (-1))], h, 0, 0)) rfl ?_
  exact k
theorem b55_39 {h : mH} {Q : Option Value → mH → Prop} {r0 : Nat} {x1 : Int32} {x2 : Int32} {u0 : Int32}  (k1 : u0 = (iZ (-1)) → mWp mCd 55 (58, [some (.ref r0), some (.int x1), some (.int x2), none], [], h, 0, 0) Q) (k2 : ¬ (u0 = (iZ (-1))) → mWp mCd 55 (45, [none, some (.int x1), some (.int x2), some (.int u0)], [], h, 0, 0) Q) : mWp mCd 55 (39, [some (.ref r0), some (.int x1), some (.int x2), none], [.int u0], h, 0, 0) Q := by
  refine mWp_run 3 (t' := (42, [some (.ref r0), some (.int x1), some (.int x2), some (.int u0)], [.int (iZ (-1)), .int u0], h, 0, 0)) rfl ?_
  exact mWp_ic (P := fun x y => x = y) (a := u0) (b := iZ (-1)) rfl (fun q => mWp_weak (mLe_s (mLe_s (mLe_s (mLe_n mLe_0)))) (k1 q)) (fun q => mWp_weak (mLe_n (mLe_s (mLe_s (mLe_s mLe_0)))) (k2 q))
theorem b55_58 {h : mH} {Q : Option Value → mH → Prop} {r0 : Nat} {x1 : Int32} {x2 : Int32}  (k : mWp mCd 55 (12, [some (.ref r0), some (.int x1), some (.int (x2 + iZ 1)), none], [], h, 0, 0) Q) : mWp mCd 55 (58, [some (.ref r0), some (.int x1), some (.int x2), none], [], h, 0, 0) Q := by
  refine mWp_run 2 (t' := (12, [some (.ref r0), some (.int x1), some (.int (x2 + iZ 1)), none], [], h, 0, 0)) rfl ?_
  exact k
theorem b55_45 {h : mH} {Q : Option Value → mH → Prop} {x1 : Int32} {x2 : Int32} {x3 : Int32}  (k : Q (some (.int ((((iZ 256) * x1) + ((iZ 16) * x2)) + x3))) h) : mWp mCd 55 (45, [none, some (.int x1), some (.int x2), some (.int x3)], [], h, 0, 0) Q := by
  refine mWp_run 9 (t' := (57, [none, some (.int x1), some (.int x2), some (.int x3)], [.int ((((iZ 256) * x1) + ((iZ 16) * x2)) + x3)], h, 0, 0)) rfl ?_
  exact mWp_r (v := (some (.int ((((iZ 256) * x1) + ((iZ 16) * x2)) + x3)))) rfl k
theorem b56_0 {h : mH} {Q : Option Value → mH → Prop} {r0 : Nat} {x1 : Int32} {x2 : Int32} {ci : Nat} {num : Int32} {n : Int32} {fd : Int32} (hc : [1, 2, 4, 6, 8].contains ci = true) (e2 : h[r0]? = some (oV ci r0 num n fd)) (k : mCt mCd 50 [.ref r0, .int x1, .int x2] h (fun rv hv => mWp mCd 56 (6, [some (.ref r0), some (.int x1), some (.int x2), none, none], rv.toList ++ [], hv, 0, 0) Q)) : mWp mCd 56 (0, [some (.ref r0), some (.int x1), some (.int x2), none, none], [], h, 0, 0) Q := by
  refine mWp_run 3 (t' := (3, [some (.ref r0), some (.int x1), some (.int x2), none, none], [.int x2, .int x1, .ref r0], h, 0, 0)) rfl ?_
  exact mWp_iv rfl rfl e2 (mS5 hc) rfl rfl rfl k
theorem b56_6 {h : mH} {Q : Option Value → mH → Prop} {r0 : Nat} {x1 : Int32} {x2 : Int32} {u0 : Int32}  (k : mWp mCd 56 (12, [some (.ref r0), some (.int x1), some (.int x2), some (.int u0), some (.int (x2 + (iZ 1)))], [], h, 0, 0) Q) : mWp mCd 56 (6, [some (.ref r0), some (.int x1), some (.int x2), none, none], [.int u0], h, 0, 0) Q := by
  refine mWp_run 5 (t' := (12, [some (.ref r0), some (.int x1), some (.int x2), some (.int u0), some (.int (x2 + (iZ 1)))], [], h, 0, 0)) rfl ?_
  exact k
theorem b56_12 {h : mH} {Q : Option Value → mH → Prop} {r0 : Nat} {x1 : Int32} {x2 : Int32} {x3 : Int32} {x4 : Int32} {ci : Nat} {num : Int32} {n : Int32} {fd : Int32} (hc : [1, 2, 4, 6, 8].contains ci = true) (e2 : h[r0]? = some (oV ci r0 num n fd)) (k : mCt mCd 42 [.ref r0] h (fun rv hv => mWp mCd 56 (18, [some (.ref r0), some (.int x1), some (.int x2), some (.int x3), some (.int x4)], rv.toList ++ [.int x4], hv, 0, 0) Q)) : mWp mCd 56 (12, [some (.ref r0), some (.int x1), some (.int x2), some (.int x3), some (.int x4)], [], h, 0, 0) Q := by
  refine mWp_run 2 (t' := (15, [some (.ref r0), some (.int x1), some (.int x2), some (.int x3), some (.int x4)], [.ref r0, .int x4], h, 0, 0)) rfl ?_
  exact mWp_iv rfl rfl e2 (mS5 hc) rfl rfl rfl k
theorem b56_18 {h : mH} {Q : Option Value → mH → Prop} {r0 : Nat} {x1 : Int32} {x2 : Int32} {x3 : Int32} {x4 : Int32} {u0 : Int32} {u1 : Int32}  (k1 : u0 < u1 → mWp mCd 56 (58, [none, none, none, none, none], [], h, 0, 0) Q) (k2 : ¬ (u0 < u1) → mWp mCd 56 (21, [some (.ref r0), some (.int x1), some (.int x2), some (.int x3), some (.int x4)], [], h, 0, 0) Q) : mWp mCd 56 (18, [some (.ref r0), some (.int x1), some (.int x2), some (.int x3), some (.int x4)], [.int u0, .int u1], h, 0, 0) Q := by
  exact mWp_ic (P := fun x y => y < x) (a := u1) (b := u0) rfl (fun q => mWp_weak (mLe_n (mLe_n (mLe_n (mLe_n (mLe_n mLe_0))))) (k1 q)) k2
theorem b56_58 {h : mH} {Q : Option Value → mH → Prop}   (k : Q (some (.int (iZ (-1)))) h) : mWp mCd 56 (58, [none, none, none, none, none], [], h, 0, 0) Q := by
  refine mWp_run 1 (t' := (59, [none, none, none, none, none], [.int (iZ (-1))], h, 0, 0)) rfl ?_
  exact mWp_r (v := (some (.int (iZ (-1))))) rfl k
theorem b56_21 {h : mH} {Q : Option Value → mH → Prop} {r0 : Nat} {x1 : Int32} {x2 : Int32} {x3 : Int32} {x4 : Int32}  (k1 : ¬ (x4 &&& x2) = x2 → mWp mCd 56 (52, [some (.ref r0), some (.int x1), some (.int x2), some (.int x3), some (.int x4)], [], h, 0, 0) Q) (k2 : ¬ (¬ (x4 &&& x2) = x2) → mWp mCd 56 (29, [some (.ref r0), some (.int x1), some (.int x2), some (.int x3), some (.int x4)], [], h, 0, 0) Q) : mWp mCd 56 (21, [some (.ref r0), some (.int x1), some (.int x2), some (.int x3), some (.int x4)], [], h, 0, 0) Q := by
  refine mWp_run 4 (t' := (26, [some (.ref r0), some (.int x1), some (.int x2), some (.int x3), some (.int x4)], [.int x2, .int (x4 &&& x2)], h, 0, 0)) rfl ?_
  exact mWp_ic (P := fun x y => ¬ x = y) (a := x4 &&& x2) (b := x2) rfl k1 k2
theorem b56_52 {h : mH} {Q : Option Value → mH → Prop} {r0 : Nat} {x1 : Int32} {x2 : Int32} {x3 : Int32} {x4 : Int32}  (k : mWp mCd 56 (12, [some (.ref r0), some (.int x1), some (.int x2), some (.int x3), some (.int (x4 + iZ 1))], [], h, 0, 0) Q) : mWp mCd 56 (52, [some (.ref r0), some (.int x1), some (.int x2), some (.int x3), some (.int x4)], [], h, 0, 0) Q := by
  refine mWp_run 2 (t' := (12, [some (.ref r0), some (.int x1), some (.int x2), some (.int x3), some (.int (x4 + iZ 1))], [], h, 0, 0)) rfl ?_
  exact k
theorem b56_29 {h : mH} {Q : Option Value → mH → Prop} {r0 : Nat} {x1 : Int32} {x2 : Int32} {x3 : Int32} {x4 : Int32}  (k : mCt mCd 126 [.int x4, .int x1] h (fun rv hv => mWp mCd 56 (35, [some (.ref r0), some (.int x1), some (.int x2), some (.int x3), some (.int x4)], rv.toList ++ [], hv, 0, 0) Q)) : mWp mCd 56 (29, [some (.ref r0), some (.int x1), some (.int x2), some (.int x3), some (.int x4)], [], h, 0, 0) Q := by
  refine mWp_run 2 (t' := (32, [some (.ref r0), some (.int x1), some (.int x2), some (.int x3), some (.int x4)], [.int x1, .int x4], h, 0, 0)) rfl ?_
  exact mWp_is rfl rfl rfl rfl rfl k
theorem b56_35 {h : mH} {Q : Option Value → mH → Prop} {r0 : Nat} {x1 : Int32} {x2 : Int32} {x3 : Int32} {x4 : Int32} {u0 : Int32}  (k1 : ¬ u0 = 0 → mWp mCd 56 (52, [some (.ref r0), some (.int x1), some (.int x2), some (.int x3), some (.int x4)], [], h, 0, 0) Q) (k2 : ¬ (¬ u0 = 0) → mWp mCd 56 (38, [some (.ref r0), some (.int x1), some (.int x2), some (.int x3), some (.int x4)], [], h, 0, 0) Q) : mWp mCd 56 (35, [some (.ref r0), some (.int x1), some (.int x2), some (.int x3), some (.int x4)], [.int u0], h, 0, 0) Q := by
  exact mWp_if (P := fun x => ¬ x = 0) (a := u0) rfl k1 k2
theorem b56_38 {h : mH} {Q : Option Value → mH → Prop} {r0 : Nat} {x1 : Int32} {x2 : Int32} {x3 : Int32} {x4 : Int32} {ci : Nat} {num : Int32} {n : Int32} {fd : Int32} (hc : [1, 2, 4, 6, 8].contains ci = true) (e2 : h[r0]? = some (oV ci r0 num n fd)) (k : mCt mCd 50 [.ref r0, .int x1, .int x4] h (fun rv hv => mWp mCd 56 (45, [some (.ref r0), some (.int x1), some (.int x2), some (.int x3), some (.int x4)], rv.toList ++ [], hv, 0, 0) Q)) : mWp mCd 56 (38, [some (.ref r0), some (.int x1), some (.int x2), some (.int x3), some (.int x4)], [], h, 0, 0) Q := by
  refine mWp_run 3 (t' := (42, [some (.ref r0), some (.int x1), some (.int x2), some (.int x3), some (.int x4)], [.int x4, .int x1, .ref r0], h, 0, 0)) rfl ?_
  exact mWp_iv rfl rfl e2 (mS5 hc) rfl rfl rfl k
theorem b56_45 {h : mH} {Q : Option Value → mH → Prop} {r0 : Nat} {x1 : Int32} {x2 : Int32} {x3 : Int32} {x4 : Int32} {u0 : Int32}  (k1 : x3 ≤ u0 → mWp mCd 56 (52, [some (.ref r0), some (.int x1), some (.int x2), some (.int x3), some (.int x4)], [], h, 0, 0) Q) (k2 : ¬ (x3 ≤ u0) → mWp mCd 56 (49, [none, none, none, none, some (.int x4)], [], h, 0, 0) Q) : mWp mCd 56 (45, [some (.ref r0), some (.int x1), some (.int x2), some (.int x3), some (.int x4)], [.int u0], h, 0, 0) Q := by
  refine mWp_run 1 (t' := (46, [some (.ref r0), some (.int x1), some (.int x2), some (.int x3), some (.int x4)], [.int x3, .int u0], h, 0, 0)) rfl ?_
  exact mWp_ic (P := fun x y => y ≤ x) (a := u0) (b := x3) rfl k1 (fun q => mWp_weak (mLe_n (mLe_n (mLe_n (mLe_n (mLe_s mLe_0))))) (k2 q))
theorem b56_49 {h : mH} {Q : Option Value → mH → Prop} {x4 : Int32}  (k : Q (some (.int x4)) h) : mWp mCd 56 (49, [none, none, none, none, some (.int x4)], [], h, 0, 0) Q := by
  refine mWp_run 1 (t' := (51, [none, none, none, none, some (.int x4)], [.int x4], h, 0, 0)) rfl ?_
  exact mWp_r (v := (some (.int x4))) rfl k
theorem b57_0 {h : mH} {Q : Option Value → mH → Prop} {r0 : Nat} {x1 : Int32}  (k : mCt mCd 217 [.int x1] h (fun rv hv => mWp mCd 57 (4, [some (.ref r0), none, none], rv.toList ++ [], hv, 0, 0) Q)) : mWp mCd 57 (0, [some (.ref r0), some (.int x1), none], [], h, 0, 0) Q := by
  refine mWp_run 1 (t' := (1, [some (.ref r0), some (.int x1), none], [.int x1], h, 0, 0)) rfl ?_
  exact mWp_is rfl rfl rfl rfl rfl (mCt_mono k (fun rv hv y => mWp_weak (mLe_s (mLe_n (mLe_n mLe_0))) y))
theorem b57_4 {h : mH} {Q : Option Value → mH → Prop} {r0 : Nat} {u0 : Int32}  (k : mCt mCd 128 [.int u0] h (fun rv hv => mWp mCd 57 (9, [some (.ref r0), none, some (.int u0)], rv.toList ++ [], hv, 0, 0) Q)) : mWp mCd 57 (4, [some (.ref r0), none, none], [.int u0], h, 0, 0) Q := by
  refine mWp_run 2 (t' := (6, [some (.ref r0), none, some (.int u0)], [.int u0], h, 0, 0)) rfl ?_
  exact mWp_is rfl rfl rfl rfl rfl k
theorem b57_9 {h : mH} {Q : Option Value → mH → Prop} {r0 : Nat} {x2 : Int32} {u0 : Int32} {ci : Nat} {num : Int32} {n : Int32} {fd : Int32} (hc : [1, 2, 4, 6, 8].contains ci = true) (e2 : h[r0]? = some (oV ci r0 num n fd)) (k : mCt mCd 128 [.int ((n - (iZ 1)) - x2)] h (fun rv hv => mWp mCd 57 (20, [none, none, none], rv.toList ++ [.int u0], hv, 0, 0) Q)) : mWp mCd 57 (9, [some (.ref r0), none, some (.int x2)], [.int u0], h, 0, 0) Q := by
  refine mWp_run 1 (t' := (10, [some (.ref r0), none, some (.int x2)], [.ref r0, .int u0], h, 0, 0)) rfl ?_
  refine mWp_gf rfl e2 hc rfl ?_
  refine mWp_run 4 (t' := (17, [some (.ref r0), none, some (.int x2)], [.int ((n - (iZ 1)) - x2), .int u0], h, 0, 0)) rfl ?_
  exact mWp_is rfl rfl rfl rfl rfl (mCt_mono k (fun rv hv y => mWp_weak (mLe_n (mLe_n (mLe_n mLe_0))) y))
theorem b57_20 {h : mH} {Q : Option Value → mH → Prop} {u0 : Int32} {u1 : Int32}  (k : Q (some (.int (u1 * u0))) h) : mWp mCd 57 (20, [none, none, none], [.int u0, .int u1], h, 0, 0) Q := by
  refine mWp_run 1 (t' := (21, [none, none, none], [.int (u1 * u0)], h, 0, 0)) rfl ?_
  exact mWp_r (v := (some (.int (u1 * u0)))) rfl k
theorem b58_0 {h : mH} {Q : Option Value → mH → Prop} {r0 : Nat} {x1 : Int32} {x2 : Int32}  (k : mWp mCd 58 (5, [some (.ref r0), some (.int x1), some (.int x2), some (.int (iZ 0)), some (.int (iZ 0))], [], h, 0, 0) Q) : mWp mCd 58 (0, [some (.ref r0), some (.int x1), some (.int x2), none, none], [], h, 0, 0) Q := by
  refine mWp_run 4 (t' := (5, [some (.ref r0), some (.int x1), some (.int x2), some (.int (iZ 0)), some (.int (iZ 0))], [], h, 0, 0)) rfl ?_
  exact k
theorem b58_5 {h : mH} {Q : Option Value → mH → Prop} {r0 : Nat} {x1 : Int32} {x2 : Int32} {x3 : Int32} {x4 : Int32} {ci : Nat} {num : Int32} {n : Int32} {fd : Int32} (hc : [1, 2, 4, 6, 8].contains ci = true) (e2 : h[r0]? = some (oV ci r0 num n fd)) (k : mCt mCd 42 [.ref r0] h (fun rv hv => mWp mCd 58 (11, [some (.ref r0), some (.int x1), some (.int x2), some (.int x3), some (.int x4)], rv.toList ++ [.int x4], hv, 0, 0) Q)) : mWp mCd 58 (5, [some (.ref r0), some (.int x1), some (.int x2), some (.int x3), some (.int x4)], [], h, 0, 0) Q := by
  refine mWp_run 2 (t' := (8, [some (.ref r0), some (.int x1), some (.int x2), some (.int x3), some (.int x4)], [.ref r0, .int x4], h, 0, 0)) rfl ?_
  exact mWp_iv rfl rfl e2 (mS5 hc) rfl rfl rfl k
theorem b58_11 {h : mH} {Q : Option Value → mH → Prop} {r0 : Nat} {x1 : Int32} {x2 : Int32} {x3 : Int32} {x4 : Int32} {u0 : Int32} {u1 : Int32}  (k1 : u0 < u1 → mWp mCd 58 (66, [none, none, none, some (.int x3), none], [], h, 0, 0) Q) (k2 : ¬ (u0 < u1) → mWp mCd 58 (14, [some (.ref r0), some (.int x1), some (.int x2), some (.int x3), some (.int x4)], [], h, 0, 0) Q) : mWp mCd 58 (11, [some (.ref r0), some (.int x1), some (.int x2), some (.int x3), some (.int x4)], [.int u0, .int u1], h, 0, 0) Q := by
  exact mWp_ic (P := fun x y => y < x) (a := u1) (b := u0) rfl (fun q => mWp_weak (mLe_n (mLe_n (mLe_n (mLe_s (mLe_n mLe_0))))) (k1 q)) k2
theorem b58_66 {h : mH} {Q : Option Value → mH → Prop} {x3 : Int32}  (k : Q (some (.int x3)) h) : mWp mCd 58 (66, [none, none, none, some (.int x3), none], [], h, 0, 0) Q := by
  refine mWp_run 1 (t' := (67, [none, none, none, some (.int x3), none], [.int x3], h, 0, 0)) rfl ?_
  exact mWp_r (v := (some (.int x3))) rfl k
theorem b58_14 {h : mH} {Q : Option Value → mH → Prop} {r0 : Nat} {x1 : Int32} {x2 : Int32} {x3 : Int32} {x4 : Int32}  (k : mCt mCd 126 [.int x4, .int x1] h (fun rv hv => mWp mCd 58 (20, [some (.ref r0), some (.int x1), some (.int x2), some (.int x3), some (.int x4)], rv.toList ++ [], hv, 0, 0) Q)) : mWp mCd 58 (14, [some (.ref r0), some (.int x1), some (.int x2), some (.int x3), some (.int x4)], [], h, 0, 0) Q := by
  refine mWp_run 2 (t' := (17, [some (.ref r0), some (.int x1), some (.int x2), some (.int x3), some (.int x4)], [.int x1, .int x4], h, 0, 0)) rfl ?_
  exact mWp_is rfl rfl rfl rfl rfl k
theorem b58_20 {h : mH} {Q : Option Value → mH → Prop} {r0 : Nat} {x1 : Int32} {x2 : Int32} {x3 : Int32} {x4 : Int32} {u0 : Int32}  (k1 : ¬ u0 = 0 → mWp mCd 58 (60, [some (.ref r0), some (.int x1), some (.int x2), some (.int x3), some (.int x4)], [], h, 0, 0) Q) (k2 : ¬ (¬ u0 = 0) → mWp mCd 58 (23, [some (.ref r0), some (.int x1), some (.int x2), some (.int x3), some (.int x4)], [], h, 0, 0) Q) : mWp mCd 58 (20, [some (.ref r0), some (.int x1), some (.int x2), some (.int x3), some (.int x4)], [.int u0], h, 0, 0) Q := by
  exact mWp_if (P := fun x => ¬ x = 0) (a := u0) rfl k1 k2
theorem b58_60 {h : mH} {Q : Option Value → mH → Prop} {r0 : Nat} {x1 : Int32} {x2 : Int32} {x3 : Int32} {x4 : Int32}  (k : mWp mCd 58 (5, [some (.ref r0), some (.int x1), some (.int x2), some (.int x3), some (.int (x4 + iZ 1))], [], h, 0, 0) Q) : mWp mCd 58 (60, [some (.ref r0), some (.int x1), some (.int x2), some (.int x3), some (.int x4)], [], h, 0, 0) Q := by
  refine mWp_run 2 (t' := (5, [some (.ref r0), some (.int x1), some (.int x2), some (.int x3), some (.int (x4 + iZ 1))], [], h, 0, 0)) rfl ?_
  exact k
theorem b58_23 {h : mH} {Q : Option Value → mH → Prop} {r0 : Nat} {x1 : Int32} {x2 : Int32} {x3 : Int32} {x4 : Int32} {ci : Nat} {num : Int32} {n : Int32} {fd : Int32} (hc : [1, 2, 4, 6, 8].contains ci = true) (e2 : h[r0]? = some (oV ci r0 num n fd)) (k : mCt mCd 46 [.ref r0, .int x4] h (fun rv hv => mWp mCd 58 (29, [some (.ref r0), some (.int x1), some (.int x2), some (.int x3), some (.int x4)], rv.toList ++ [], hv, 0, 0) Q)) : mWp mCd 58 (23, [some (.ref r0), some (.int x1), some (.int x2), some (.int x3), some (.int x4)], [], h, 0, 0) Q := by
  refine mWp_run 2 (t' := (26, [some (.ref r0), some (.int x1), some (.int x2), some (.int x3), some (.int x4)], [.int x4, .ref r0], h, 0, 0)) rfl ?_
  exact mWp_iv rfl rfl e2 (mS5 hc) rfl rfl rfl k
theorem b58_29 {h : mH} {Q : Option Value → mH → Prop} {r0 : Nat} {x1 : Int32} {x2 : Int32} {x3 : Int32} {x4 : Int32} {u0 : Int32}  (k1 : ¬ u0 = 0 → mWp mCd 58 (60, [some (.ref r0), some (.int x1), some (.int x2), some (.int x3), some (.int x4)], [], h, 0, 0) Q) (k2 : ¬ (¬ u0 = 0) → mWp mCd 58 (32, [some (.ref r0), some (.int x1), some (.int x2), some (.int x3), some (.int x4)], [], h, 0, 0) Q) : mWp mCd 58 (29, [some (.ref r0), some (.int x1), some (.int x2), some (.int x3), some (.int x4)], [.int u0], h, 0, 0) Q := by
  exact mWp_if (P := fun x => ¬ x = 0) (a := u0) rfl k1 k2
theorem b58_32 {h : mH} {Q : Option Value → mH → Prop} {r0 : Nat} {x1 : Int32} {x2 : Int32} {x3 : Int32} {x4 : Int32} {ci : Nat} {num : Int32} {n : Int32} {fd : Int32} (hc : [1, 2, 4, 6, 8].contains ci = true) (e2 : h[r0]? = some (oV ci r0 num n fd)) (k : mCt mCd 50 [.ref r0, .int x1, .int x4] h (fun rv hv => mWp mCd 58 (39, [some (.ref r0), some (.int x1), some (.int x2), some (.int x3), some (.int x4)], rv.toList ++ [], hv, 0, 0) Q)) : mWp mCd 58 (32, [some (.ref r0), some (.int x1), some (.int x2), some (.int x3), some (.int x4)], [], h, 0, 0) Q := by
  refine mWp_run 3 (t' := (36, [some (.ref r0), some (.int x1), some (.int x2), some (.int x3), some (.int x4)], [.int x4, .int x1, .ref r0], h, 0, 0)) rfl ?_
  exact mWp_iv rfl rfl e2 (mS5 hc) rfl rfl rfl k
theorem b58_39 {h : mH} {Q : Option Value → mH → Prop} {r0 : Nat} {x1 : Int32} {x2 : Int32} {x3 : Int32} {x4 : Int32} {u0 : Int32}  (k1 : ¬ u0 = (iZ 1) → mWp mCd 58 (60, [some (.ref r0), some (.int x1), some (.int x2), some (.int x3), some (.int x4)], [], h, 0, 0) Q) (k2 : ¬ (¬ u0 = (iZ 1)) → mWp mCd 58 (43, [some (.ref r0), some (.int x1), some (.int x2), some (.int x3), some (.int x4)], [], h, 0, 0) Q) : mWp mCd 58 (39, [some (.ref r0), some (.int x1), some (.int x2), some (.int x3), some (.int x4)], [.int u0], h, 0, 0) Q := by
  refine mWp_run 1 (t' := (40, [some (.ref r0), some (.int x1), some (.int x2), some (.int x3), some (.int x4)], [.int (iZ 1), .int u0], h, 0, 0)) rfl ?_
  exact mWp_ic (P := fun x y => ¬ x = y) (a := u0) (b := iZ 1) rfl k1 k2
theorem b58_43 {h : mH} {Q : Option Value → mH → Prop} {r0 : Nat} {x1 : Int32} {x2 : Int32} {x3 : Int32} {x4 : Int32}  (k1 : x2 = 0 → mWp mCd 58 (57, [some (.ref r0), some (.int x1), some (.int x2), none, some (.int x4)], [.int x3], h, 0, 0) Q) (k2 : ¬ (x2 = 0) → mWp mCd 58 (48, [some (.ref r0), some (.int x1), some (.int x2), none, some (.int x4)], [.int x3], h, 0, 0) Q) : mWp mCd 58 (43, [some (.ref r0), some (.int x1), some (.int x2), some (.int x3), some (.int x4)], [], h, 0, 0) Q := by
  refine mWp_run 2 (t' := (45, [some (.ref r0), some (.int x1), some (.int x2), some (.int x3), some (.int x4)], [.int x2, .int x3], h, 0, 0)) rfl ?_
  exact mWp_if (P := fun x => x = 0) (a := x2) rfl (fun q => mWp_weak (mLe_s (mLe_s (mLe_s (mLe_n (mLe_s mLe_0))))) (k1 q)) (fun q => mWp_weak (mLe_s (mLe_s (mLe_s (mLe_n (mLe_s mLe_0))))) (k2 q))
theorem b58_57 {h : mH} {Q : Option Value → mH → Prop} {r0 : Nat} {x1 : Int32} {x2 : Int32} {x4 : Int32} {u0 : Int32}  (k : mWp mCd 58 (58, [some (.ref r0), some (.int x1), some (.int x2), none, some (.int x4)], [.int (iZ 1), .int u0], h, 0, 0) Q) : mWp mCd 58 (57, [some (.ref r0), some (.int x1), some (.int x2), none, some (.int x4)], [.int u0], h, 0, 0) Q := by
  refine mWp_run 1 (t' := (58, [some (.ref r0), some (.int x1), some (.int x2), none, some (.int x4)], [.int (iZ 1), .int u0], h, 0, 0)) rfl ?_
  exact k
theorem b58_48 {h : mH} {Q : Option Value → mH → Prop} {r0 : Nat} {x1 : Int32} {x2 : Int32} {x4 : Int32} {u0 : Int32} {ci : Nat} {num : Int32} {n : Int32} {fd : Int32} (hc : [1, 2, 4, 6, 8].contains ci = true) (e2 : h[r0]? = some (oV ci r0 num n fd)) (k : mCt mCd 57 [.ref r0, .int x4] h (fun rv hv => mWp mCd 58 (54, [some (.ref r0), some (.int x1), some (.int x2), none, some (.int x4)], rv.toList ++ [.int u0], hv, 0, 0) Q)) : mWp mCd 58 (48, [some (.ref r0), some (.int x1), some (.int x2), none, some (.int x4)], [.int u0], h, 0, 0) Q := by
  refine mWp_run 2 (t' := (51, [some (.ref r0), some (.int x1), some (.int x2), none, some (.int x4)], [.int x4, .ref r0, .int u0], h, 0, 0)) rfl ?_
  exact mWp_iv rfl rfl e2 (mS5 hc) rfl rfl rfl k
theorem b58_58 {h : mH} {Q : Option Value → mH → Prop} {r0 : Nat} {x1 : Int32} {x2 : Int32} {x4 : Int32} {u0 : Int32} {u1 : Int32}  (k : mWp mCd 58 (60, [some (.ref r0), some (.int x1), some (.int x2), some (.int (u1 + u0)), some (.int x4)], [], h, 0, 0) Q) : mWp mCd 58 (58, [some (.ref r0), some (.int x1), some (.int x2), none, some (.int x4)], [.int u0, .int u1], h, 0, 0) Q := by
  refine mWp_run 2 (t' := (60, [some (.ref r0), some (.int x1), some (.int x2), some (.int (u1 + u0)), some (.int x4)], [], h, 0, 0)) rfl ?_
  exact k
theorem b58_54 {h : mH} {Q : Option Value → mH → Prop} {r0 : Nat} {x1 : Int32} {x2 : Int32} {x4 : Int32} {u0 : Int32} {u1 : Int32}  (k : mWp mCd 58 (58, [some (.ref r0), some (.int x1), some (.int x2), none, some (.int x4)], [.int u0, .int u1], h, 0, 0) Q) : mWp mCd 58 (54, [some (.ref r0), some (.int x1), some (.int x2), none, some (.int x4)], [.int u0, .int u1], h, 0, 0) Q := by
  refine mWp_run 1 (t' := (58, [some (.ref r0), some (.int x1), some (.int x2), none, some (.int x4)], [.int u0, .int u1], h, 0, 0)) rfl ?_
  exact k
theorem b59_0 {h : mH} {Q : Option Value → mH → Prop} {r0 : Nat} {x1 : Int32}  (k1 : ¬ x1 = 0 → mWp mCd 59 (14, [some (.ref r0), none], [], h, 0, 0) Q) (k2 : ¬ (¬ x1 = 0) → mWp mCd 59 (4, [some (.ref r0), none], [], h, 0, 0) Q) : mWp mCd 59 (0, [some (.ref r0), some (.int x1)], [], h, 0, 0) Q := by
  refine mWp_run 1 (t' := (1, [some (.ref r0), some (.int x1)], [.int x1], h, 0, 0)) rfl ?_
  exact mWp_if (P := fun x => ¬ x = 0) (a := x1) rfl (fun q => mWp_weak (mLe_s (mLe_n mLe_0)) (k1 q)) (fun q => mWp_weak (mLe_s (mLe_n mLe_0)) (k2 q))
theorem b59_14 {h : mH} {Q : Option Value → mH → Prop} {r0 : Nat} {ci : Nat} {num : Int32} {n : Int32} {fd : Int32} (hc : [1, 2, 4, 6, 8].contains ci = true) (e2 : h[r0]? = some (oV ci r0 num n fd)) (k : Q (some (.int n)) h) : mWp mCd 59 (14, [some (.ref r0), none], [], h, 0, 0) Q := by
  refine mWp_run 1 (t' := (15, [some (.ref r0), none], [.ref r0], h, 0, 0)) rfl ?_
  refine mWp_gf rfl e2 hc rfl ?_
  exact mWp_r (v := (some (.int n))) rfl k
theorem b59_4 {h : mH} {Q : Option Value → mH → Prop} {r0 : Nat} {ci : Nat} {num : Int32} {n : Int32} {fd : Int32} (hc : [1, 2, 4, 6, 8].contains ci = true) (e2 : h[r0]? = some (oV ci r0 num n fd)) (k : mCt mCd 128 [.int n] h (fun rv hv => mWp mCd 59 (11, [none, none], rv.toList ++ [], hv, 0, 0) Q)) : mWp mCd 59 (4, [some (.ref r0), none], [], h, 0, 0) Q := by
  refine mWp_run 1 (t' := (5, [some (.ref r0), none], [.ref r0], h, 0, 0)) rfl ?_
  refine mWp_gf rfl e2 hc rfl ?_
  exact mWp_is rfl rfl rfl rfl rfl (mCt_mono k (fun rv hv y => mWp_weak (mLe_n (mLe_n mLe_0)) y))
theorem b59_11 {h : mH} {Q : Option Value → mH → Prop} {u0 : Int32}  (k : Q (some (.int u0)) h) : mWp mCd 59 (11, [none, none], [.int u0], h, 0, 0) Q := by
  refine mWp_run 1 (t' := (18, [none, none], [.int u0], h, 0, 0)) rfl ?_
  exact mWp_r (v := (some (.int u0))) rfl k
theorem b60_0 {h : mH} {Q : Option Value → mH → Prop} {r0 : Nat} {x1 : Int32} {x2 : Int32}  (k1 : ¬ x1 = 0 → mWp mCd 60 (12, [some (.ref r0), none, some (.int x2)], [], h, 0, 0) Q) (k2 : ¬ (¬ x1 = 0) → mWp mCd 60 (4, [some (.ref r0), none, some (.int x2)], [], h, 0, 0) Q) : mWp mCd 60 (0, [some (.ref r0), some (.int x1), some (.int x2)], [], h, 0, 0) Q := by
  refine mWp_run 1 (t' := (1, [some (.ref r0), some (.int x1), some (.int x2)], [.int x1], h, 0, 0)) rfl ?_
  exact mWp_if (P := fun x => ¬ x = 0) (a := x1) rfl (fun q => mWp_weak (mLe_s (mLe_n (mLe_s mLe_0))) (k1 q)) (fun q => mWp_weak (mLe_s (mLe_n (mLe_s mLe_0))) (k2 q))
theorem b60_12 {h : mH} {Q : Option Value → mH → Prop} {r0 : Nat} {x2 : Int32} {ci : Nat} {num : Int32} {n : Int32} {fd : Int32} (hc : [1, 2, 4, 6, 8].contains ci = true) (e2 : h[r0]? = some (oV ci r0 num n fd)) (k : mCt mCd 62 [.ref r0, .int x2] h (fun rv hv => mWp mCd 60 (17, [none, none, none], rv.toList ++ [], hv, 0, 0) Q)) : mWp mCd 60 (12, [some (.ref r0), none, some (.int x2)], [], h, 0, 0) Q := by
  refine mWp_run 2 (t' := (14, [some (.ref r0), none, some (.int x2)], [.int x2, .ref r0], h, 0, 0)) rfl ?_
  exact mWp_iv rfl rfl e2 (mS5 hc) rfl rfl rfl (mCt_mono k (fun rv hv y => mWp_weak (mLe_n (mLe_n (mLe_n mLe_0))) y))
theorem b60_4 {h : mH} {Q : Option Value → mH → Prop} {r0 : Nat} {x2 : Int32} {ci : Nat} {num : Int32} {n : Int32} {fd : Int32} (hc : [1, 2, 4, 6, 8].contains ci = true) (e2 : h[r0]? = some (oV ci r0 num n fd)) (k : mCt mCd 61 [.ref r0, .int x2] h (fun rv hv => mWp mCd 60 (9, [none, none, none], rv.toList ++ [], hv, 0, 0) Q)) : mWp mCd 60 (4, [some (.ref r0), none, some (.int x2)], [], h, 0, 0) Q := by
  refine mWp_run 2 (t' := (6, [some (.ref r0), none, some (.int x2)], [.int x2, .ref r0], h, 0, 0)) rfl ?_
  exact mWp_iv rfl rfl e2 (mS5 hc) rfl rfl rfl (mCt_mono k (fun rv hv y => mWp_weak (mLe_n (mLe_n (mLe_n mLe_0))) y))
theorem b60_17 {h : mH} {Q : Option Value → mH → Prop} {u0 : Int32}  (k : Q (some (.int u0)) h) : mWp mCd 60 (17, [none, none, none], [.int u0], h, 0, 0) Q := by
  exact mWp_r (v := (some (.int u0))) rfl k
theorem b60_9 {h : mH} {Q : Option Value → mH → Prop} {u0 : Int32}  (k : Q (some (.int u0)) h) : mWp mCd 60 (9, [none, none, none], [.int u0], h, 0, 0) Q := by
  refine mWp_run 1 (t' := (17, [none, none, none], [.int u0], h, 0, 0)) rfl ?_
  exact mWp_r (v := (some (.int u0))) rfl k
theorem b61_0 {h : mH} {Q : Option Value → mH → Prop} {r0 : Nat} {x1 : Int32}  (k : mWp mCd 61 (4, [some (.ref r0), some (.int x1), some (.int (iZ 0)), some (.int (iZ 0))], [], h, 0, 0) Q) : mWp mCd 61 (0, [some (.ref r0), some (.int x1), none, none], [], h, 0, 0) Q := by
  refine mWp_run 4 (t' := (4, [some (.ref r0), some (.int x1), some (.int (iZ 0)), some (.int (iZ 0))], [], h, 0, 0)) rfl ?_
  exact k
theorem b61_4 {h : mH} {Q : Option Value → mH → Prop} {r0 : Nat} {x1 : Int32} {x2 : Int32} {x3 : Int32} {ci : Nat} {num : Int32} {n : Int32} {fd : Int32} (hc : [1, 2, 4, 6, 8].contains ci = true) (e2 : h[r0]? = some (oV ci r0 num n fd)) (k : mCt mCd 42 [.ref r0] h (fun rv hv => mWp mCd 61 (9, [some (.ref r0), some (.int x1), some (.int x2), some (.int x3)], rv.toList ++ [.int x3], hv, 0, 0) Q)) : mWp mCd 61 (4, [some (.ref r0), some (.int x1), some (.int x2), some (.int x3)], [], h, 0, 0) Q := by
  refine mWp_run 2 (t' := (6, [some (.ref r0), some (.int x1), some (.int x2), some (.int x3)], [.ref r0, .int x3], h, 0, 0)) rfl ?_
  exact mWp_iv rfl rfl e2 (mS5 hc) rfl rfl rfl k
theorem b61_9 {h : mH} {Q : Option Value → mH → Prop} {r0 : Nat} {x1 : Int32} {x2 : Int32} {x3 : Int32} {u0 : Int32} {u1 : Int32}  (k1 : u0 < u1 → mWp mCd 61 (41, [none, none, some (.int x2), none], [], h, 0, 0) Q) (k2 : ¬ (u0 < u1) → mWp mCd 61 (12, [some (.ref r0), some (.int x1), some (.int x2), some (.int x3)], [], h, 0, 0) Q) : mWp mCd 61 (9, [some (.ref r0), some (.int x1), some (.int x2), some (.int x3)], [.int u0, .int u1], h, 0, 0) Q := by
  exact mWp_ic (P := fun x y => y < x) (a := u1) (b := u0) rfl (fun q => mWp_weak (mLe_n (mLe_n (mLe_s (mLe_n mLe_0)))) (k1 q)) k2
theorem b61_41 {h : mH} {Q : Option Value → mH → Prop} {x2 : Int32}  (k : Q (some (.int x2)) h) : mWp mCd 61 (41, [none, none, some (.int x2), none], [], h, 0, 0) Q := by
  refine mWp_run 1 (t' := (42, [none, none, some (.int x2), none], [.int x2], h, 0, 0)) rfl ?_
  exact mWp_r (v := (some (.int x2))) rfl k
theorem b61_12 {h : mH} {Q : Option Value → mH → Prop} {r0 : Nat} {x1 : Int32} {x2 : Int32} {x3 : Int32}  (k : mCt mCd 126 [.int x3, .int x1] h (fun rv hv => mWp mCd 61 (17, [some (.ref r0), some (.int x1), some (.int x2), some (.int x3)], rv.toList ++ [], hv, 0, 0) Q)) : mWp mCd 61 (12, [some (.ref r0), some (.int x1), some (.int x2), some (.int x3)], [], h, 0, 0) Q := by
  refine mWp_run 2 (t' := (14, [some (.ref r0), some (.int x1), some (.int x2), some (.int x3)], [.int x1, .int x3], h, 0, 0)) rfl ?_
  exact mWp_is rfl rfl rfl rfl rfl k
theorem b61_17 {h : mH} {Q : Option Value → mH → Prop} {r0 : Nat} {x1 : Int32} {x2 : Int32} {x3 : Int32} {u0 : Int32}  (k1 : ¬ u0 = 0 → mWp mCd 61 (35, [some (.ref r0), some (.int x1), some (.int x2), some (.int x3)], [], h, 0, 0) Q) (k2 : ¬ (¬ u0 = 0) → mWp mCd 61 (20, [some (.ref r0), some (.int x1), some (.int x2), some (.int x3)], [], h, 0, 0) Q) : mWp mCd 61 (17, [some (.ref r0), some (.int x1), some (.int x2), some (.int x3)], [.int u0], h, 0, 0) Q := by
  exact mWp_if (P := fun x => ¬ x = 0) (a := u0) rfl k1 k2
theorem b61_35 {h : mH} {Q : Option Value → mH → Prop} {r0 : Nat} {x1 : Int32} {x2 : Int32} {x3 : Int32}  (k : mWp mCd 61 (4, [some (.ref r0), some (.int x1), some (.int x2), some (.int (x3 + iZ 1))], [], h, 0, 0) Q) : mWp mCd 61 (35, [some (.ref r0), some (.int x1), some (.int x2), some (.int x3)], [], h, 0, 0) Q := by
  refine mWp_run 2 (t' := (4, [some (.ref r0), some (.int x1), some (.int x2), some (.int (x3 + iZ 1))], [], h, 0, 0)) rfl ?_
  exact k
theorem b61_20 {h : mH} {Q : Option Value → mH → Prop} {r0 : Nat} {x1 : Int32} {x2 : Int32} {x3 : Int32} {ci : Nat} {num : Int32} {n : Int32} {fd : Int32} (hc : [1, 2, 4, 6, 8].contains ci = true) (e2 : h[r0]? = some (oV ci r0 num n fd)) (k : mCt mCd 57 [.ref r0, .int x3] h (fun rv hv => mWp mCd 61 (26, [some (.ref r0), some (.int x1), none, some (.int x3)], rv.toList ++ [.int x2], hv, 0, 0) Q)) : mWp mCd 61 (20, [some (.ref r0), some (.int x1), some (.int x2), some (.int x3)], [], h, 0, 0) Q := by
  refine mWp_run 3 (t' := (23, [some (.ref r0), some (.int x1), some (.int x2), some (.int x3)], [.int x3, .ref r0, .int x2], h, 0, 0)) rfl ?_
  exact mWp_iv rfl rfl e2 (mS5 hc) rfl rfl rfl (mCt_mono k (fun rv hv y => mWp_weak (mLe_s (mLe_s (mLe_n (mLe_s mLe_0)))) y))
theorem b61_26 {h : mH} {Q : Option Value → mH → Prop} {r0 : Nat} {x1 : Int32} {x3 : Int32} {u0 : Int32} {u1 : Int32} {ci : Nat} {num : Int32} {n : Int32} {fd : Int32} (hc : [1, 2, 4, 6, 8].contains ci = true) (e2 : h[r0]? = some (oV ci r0 num n fd)) (k : mCt mCd 50 [.ref r0, .int x1, .int x3] h (fun rv hv => mWp mCd 61 (32, [some (.ref r0), some (.int x1), none, some (.int x3)], rv.toList ++ [.int u0, .int u1], hv, 0, 0) Q)) : mWp mCd 61 (26, [some (.ref r0), some (.int x1), none, some (.int x3)], [.int u0, .int u1], h, 0, 0) Q := by
  refine mWp_run 3 (t' := (29, [some (.ref r0), some (.int x1), none, some (.int x3)], [.int x3, .int x1, .ref r0, .int u0, .int u1], h, 0, 0)) rfl ?_
  exact mWp_iv rfl rfl e2 (mS5 hc) rfl rfl rfl k
theorem b61_32 {h : mH} {Q : Option Value → mH → Prop} {r0 : Nat} {x1 : Int32} {x3 : Int32} {u0 : Int32} {u1 : Int32} {u2 : Int32}  (k : mWp mCd 61 (35, [some (.ref r0), some (.int x1), some (.int (u2 + (u1 * u0))), some (.int x3)], [], h, 0, 0) Q) : mWp mCd 61 (32, [some (.ref r0), some (.int x1), none, some (.int x3)], [.int u0, .int u1, .int u2], h, 0, 0) Q := by
  refine mWp_run 3 (t' := (35, [some (.ref r0), some (.int x1), some (.int (u2 + (u1 * u0))), some (.int x3)], [], h, 0, 0)) rfl ?_
  exact k
theorem b62_0 {h : mH} {Q : Option Value → mH → Prop} {r0 : Nat} {x1 : Int32} {ci : Nat} {num : Int32} {n : Int32} {fd : Int32} (hc : [1, 2, 4, 6, 8].contains ci = true) (e2 : h[r0]? = some (oV ci r0 num n fd)) (k : mCt mCd 47 [.ref r0] h (fun rv hv => mWp mCd 62 (4, [some (.ref r0), some (.int x1), none, none], rv.toList ++ [], hv, 0, 0) Q)) : mWp mCd 62 (0, [some (.ref r0), some (.int x1), none, none], [], h, 0, 0) Q := by
  refine mWp_run 1 (t' := (1, [some (.ref r0), some (.int x1), none, none], [.ref r0], h, 0, 0)) rfl ?_
  exact mWp_iv rfl rfl e2 (mS5 hc) rfl rfl rfl k
theorem b62_4 {h : mH} {Q : Option Value → mH → Prop} {r0 : Nat} {x1 : Int32} {u0 : Int32}  (k : mWp mCd 62 (7, [some (.ref r0), some (.int x1), some (.int u0), some (.int (iZ 0))], [], h, 0, 0) Q) : mWp mCd 62 (4, [some (.ref r0), some (.int x1), none, none], [.int u0], h, 0, 0) Q := by
  refine mWp_run 3 (t' := (7, [some (.ref r0), some (.int x1), some (.int u0), some (.int (iZ 0))], [], h, 0, 0)) rfl ?_
  exact k
theorem b62_7 {h : mH} {Q : Option Value → mH → Prop} {r0 : Nat} {x1 : Int32} {x2 : Int32} {x3 : Int32} {ci : Nat} {num : Int32} {n : Int32} {fd : Int32} (hc : [1, 2, 4, 6, 8].contains ci = true) (e2 : h[r0]? = some (oV ci r0 num n fd)) (k1 : n ≤ x3 → mWp mCd 62 (31, [some (.ref r0), some (.int x1), some (.int x2), none], [], h, 0, 0) Q) (k2 : ¬ (n ≤ x3) → mWp mCd 62 (15, [some (.ref r0), some (.int x1), some (.int x2), some (.int x3)], [], h, 0, 0) Q) : mWp mCd 62 (7, [some (.ref r0), some (.int x1), some (.int x2), some (.int x3)], [], h, 0, 0) Q := by
  refine mWp_run 2 (t' := (9, [some (.ref r0), some (.int x1), some (.int x2), some (.int x3)], [.ref r0, .int x3], h, 0, 0)) rfl ?_
  refine mWp_gf rfl e2 hc rfl ?_
  exact mWp_ic (P := fun x y => y ≤ x) (a := x3) (b := n) rfl (fun q => mWp_weak (mLe_s (mLe_s (mLe_s (mLe_n mLe_0)))) (k1 q)) k2
theorem b62_31 {h : mH} {Q : Option Value → mH → Prop} {r0 : Nat} {x1 : Int32} {x2 : Int32} {ci : Nat} {num : Int32} {n : Int32} {fd : Int32} (hc : [1, 2, 4, 6, 8].contains ci = true) (e2 : h[r0]? = some (oV ci r0 num n fd)) (k : mCt mCd 46 [.ref r0, .int ((iZ 1) <<< (x1 &&& 31))] h (fun rv hv => mWp mCd 62 (42, [none, none, some (.int x2), none], rv.toList ++ [.int n], hv, 0, 0) Q)) : mWp mCd 62 (31, [some (.ref r0), some (.int x1), some (.int x2), none], [], h, 0, 0) Q := by
  refine mWp_run 1 (t' := (32, [some (.ref r0), some (.int x1), some (.int x2), none], [.ref r0], h, 0, 0)) rfl ?_
  refine mWp_gf rfl e2 hc rfl ?_
  refine mWp_run 4 (t' := (39, [some (.ref r0), some (.int x1), some (.int x2), none], [.int ((iZ 1) <<< (x1 &&& 31)), .ref r0, .int n], h, 0, 0)) rfl ?_
  exact mWp_iv rfl rfl e2 (mS5 hc) rfl rfl rfl (mCt_mono k (fun rv hv y => mWp_weak (mLe_n (mLe_n (mLe_s (mLe_n mLe_0)))) y))
theorem b62_15 {h : mH} {Q : Option Value → mH → Prop} {r0 : Nat} {x1 : Int32} {x2 : Int32} {x3 : Int32} {ci : Nat} {num : Int32} {n : Int32} {fd : Int32} (hc : [1, 2, 4, 6, 8].contains ci = true) (e2 : h[r0]? = some (oV ci r0 num n fd)) (k : mCt mCd 46 [.ref r0, .int ((iZ 1) <<< (x3 &&& 31))] h (fun rv hv => mWp mCd 62 (23, [some (.ref r0), some (.int x1), none, some (.int x3)], rv.toList ++ [.int x2], hv, 0, 0) Q)) : mWp mCd 62 (15, [some (.ref r0), some (.int x1), some (.int x2), some (.int x3)], [], h, 0, 0) Q := by
  refine mWp_run 5 (t' := (20, [some (.ref r0), some (.int x1), some (.int x2), some (.int x3)], [.int ((iZ 1) <<< (x3 &&& 31)), .ref r0, .int x2], h, 0, 0)) rfl ?_
  exact mWp_iv rfl rfl e2 (mS5 hc) rfl rfl rfl (mCt_mono k (fun rv hv y => mWp_weak (mLe_s (mLe_s (mLe_n (mLe_s mLe_0)))) y))
theorem b62_42 {h : mH} {Q : Option Value → mH → Prop} {x2 : Int32} {u0 : Int32} {u1 : Int32}  (k : Q (some (.int ((u1 * u0) + x2))) h) : mWp mCd 62 (42, [none, none, some (.int x2), none], [.int u0, .int u1], h, 0, 0) Q := by
  refine mWp_run 3 (t' := (45, [none, none, some (.int x2), none], [.int ((u1 * u0) + x2)], h, 0, 0)) rfl ?_
  exact mWp_r (v := (some (.int ((u1 * u0) + x2)))) rfl k
theorem b62_23 {h : mH} {Q : Option Value → mH → Prop} {r0 : Nat} {x1 : Int32} {x3 : Int32} {u0 : Int32} {u1 : Int32}  (k : mWp mCd 62 (7, [some (.ref r0), some (.int x1), some (.int (u1 - u0)), some (.int (x3 + iZ 1))], [], h, 0, 0) Q) : mWp mCd 62 (23, [some (.ref r0), some (.int x1), none, some (.int x3)], [.int u0, .int u1], h, 0, 0) Q := by
  refine mWp_run 4 (t' := (7, [some (.ref r0), some (.int x1), some (.int (u1 - u0)), some (.int (x3 + iZ 1))], [], h, 0, 0)) rfl ?_
  exact k
theorem b63_0 {h : mH} {Q : Option Value → mH → Prop} {r0 : Nat} {x1 : Int32} {x2 : Int32} {ci : Nat} {num : Int32} {n : Int32} {fd : Int32} (hc : [1, 2, 4, 6, 8].contains ci = true) (e2 : h[r0]? = some (oV ci r0 num n fd)) (k : mCt mCd 64 [.ref r0, .int x1] h (fun rv hv => mWp mCd 63 (5, [some (.ref r0), some (.int x1), some (.int x2)], rv.toList ++ [], hv, 0, 0) Q)) : mWp mCd 63 (0, [some (.ref r0), some (.int x1), some (.int x2)], [], h, 0, 0) Q := by
  refine mWp_run 2 (t' := (2, [some (.ref r0), some (.int x1), some (.int x2)], [.int x1, .ref r0], h, 0, 0)) rfl ?_
  exact mWp_iv rfl rfl e2 (mS5 hc) rfl rfl rfl k
theorem b63_5 {h : mH} {Q : Option Value → mH → Prop} {r0 : Nat} {x1 : Int32} {x2 : Int32} {ci : Nat} {num : Int32} {n : Int32} {fd : Int32} (hc : [1, 2, 4, 6, 8].contains ci = true) (e2 : h[r0]? = some (oV ci r0 num n fd)) (k : mCt mCd 65 [.ref r0, .int x1, .int x2] h (fun rv hv => mWp mCd 63 (11, [none, none, none], rv.toList ++ [], hv, 0, 0) Q)) : mWp mCd 63 (5, [some (.ref r0), some (.int x1), some (.int x2)], [], h, 0, 0) Q := by
  refine mWp_run 3 (t' := (8, [some (.ref r0), some (.int x1), some (.int x2)], [.int x2, .int x1, .ref r0], h, 0, 0)) rfl ?_
  exact mWp_iv rfl rfl e2 (mS5 hc) rfl rfl rfl (mCt_mono k (fun rv hv y => mWp_weak (mLe_n (mLe_n (mLe_n mLe_0))) y))
theorem b63_11 {h : mH} {Q : Option Value → mH → Prop} {u0 : Int32}  (k : Q (some (.int u0)) h) : mWp mCd 63 (11, [none, none, none], [.int u0], h, 0, 0) Q := by
  exact mWp_r (v := (some (.int u0))) rfl k
theorem b64_0 {h : mH} {Q : Option Value → mH → Prop} {r0 : Nat} {x1 : Int32}  (k : mWp mCd 64 (2, [some (.ref r0), some (.int x1), some (.int (iZ 0))], [], h, 0, 0) Q) : mWp mCd 64 (0, [some (.ref r0), some (.int x1), none], [], h, 0, 0) Q := by
  refine mWp_run 2 (t' := (2, [some (.ref r0), some (.int x1), some (.int (iZ 0))], [], h, 0, 0)) rfl ?_
  exact k
theorem b64_2 {h : mH} {Q : Option Value → mH → Prop} {r0 : Nat} {x1 : Int32} {x2 : Int32} {ci : Nat} {num : Int32} {n : Int32} {fd : Int32} (hc : [1, 2, 4, 6, 8].contains ci = true) (e2 : h[r0]? = some (oV ci r0 num n fd)) (k1 : n ≤ x2 → mWp mCd 64 (37, [none, none, none], [], h, 0, 0) Q) (k2 : ¬ (n ≤ x2) → mWp mCd 64 (10, [some (.ref r0), some (.int x1), some (.int x2)], [], h, 0, 0) Q) : mWp mCd 64 (2, [some (.ref r0), some (.int x1), some (.int x2)], [], h, 0, 0) Q := by
  refine mWp_run 2 (t' := (4, [some (.ref r0), some (.int x1), some (.int x2)], [.ref r0, .int x2], h, 0, 0)) rfl ?_
  refine mWp_gf rfl e2 hc rfl ?_
  exact mWp_ic (P := fun x y => y ≤ x) (a := x2) (b := n) rfl (fun q => mWp_weak (mLe_n (mLe_n (mLe_n mLe_0))) (k1 q)) k2
theorem b64_37 {h : mH} {Q : Option Value → mH → Prop}   (k : Q none h) : mWp mCd 64 (37, [none, none, none], [], h, 0, 0) Q := by
  exact mWp_r (v := none) rfl k
theorem b64_10 {h : mH} {Q : Option Value → mH → Prop} {r0 : Nat} {x1 : Int32} {x2 : Int32} {ci : Nat} {num : Int32} {n : Int32} {fd : Int32} {g101 : Nat → Int32} (hc : [1, 2, 4, 6, 8].contains ci = true) (e2 : h[r0]? = some (oV ci r0 num n fd)) (e3 : h[((r0 + 2))]? = some (aI 4 g101)) (k1 : (Int32.ofNat 4) ≤ x2 → mWp mCd 64 (37, [none, none, none], [], h, 0, 0) Q) (k2 : ¬ ((Int32.ofNat 4) ≤ x2) → mWp mCd 64 (19, [some (.ref r0), some (.int x1), some (.int x2)], [], h, 0, 0) Q) : mWp mCd 64 (10, [some (.ref r0), some (.int x1), some (.int x2)], [], h, 0, 0) Q := by
  refine mWp_run 2 (t' := (12, [some (.ref r0), some (.int x1), some (.int x2)], [.ref r0, .int x2], h, 0, 0)) rfl ?_
  refine mWp_gf rfl e2 hc rfl ?_
  refine mWp_aln rfl e3 (by decide) ?_
  exact mWp_ic (P := fun x y => y ≤ x) (a := x2) (b := Int32.ofNat 4) rfl (fun q => mWp_weak (mLe_n (mLe_n (mLe_n mLe_0))) (k1 q)) k2
theorem b64_19 {h : mH} {Q : Option Value → mH → Prop} {r0 : Nat} {x1 : Int32} {x2 : Int32} {ci : Nat} {num : Int32} {n : Int32} {fd : Int32} (hc : [1, 2, 4, 6, 8].contains ci = true) (e2 : h[r0]? = some (oV ci r0 num n fd)) (k : mCt mCd 60 [.ref r0, .int x1, .int x2] h (fun rv hv => mWp mCd 64 (30, [some (.ref r0), some (.int x1), some (.int x2)], rv.toList ++ [.int x2, .ref (r0 + 2)], hv, 0, 0) Q)) : mWp mCd 64 (19, [some (.ref r0), some (.int x1), some (.int x2)], [], h, 0, 0) Q := by
  refine mWp_run 1 (t' := (20, [some (.ref r0), some (.int x1), some (.int x2)], [.ref r0], h, 0, 0)) rfl ?_
  refine mWp_gf rfl e2 hc rfl ?_
  refine mWp_run 4 (t' := (27, [some (.ref r0), some (.int x1), some (.int x2)], [.int x2, .int x1, .ref r0, .int x2, .ref (r0 + 2)], h, 0, 0)) rfl ?_
  exact mWp_iv rfl rfl e2 (mS5 hc) rfl rfl rfl k
theorem b64_30 {h : mH} {Q : Option Value → mH → Prop} {r0 : Nat} {x1 : Int32} {x2 : Int32} {u0 : Int32} {u1 : Int32} {q2 : Nat} {g101 : Nat → Int32} (e1 : h[q2]? = some (aI 4 g101)) (e2 : ¬ (u1 < 0 ∨ 4 ≤ u1.toNatClampNeg)) (e3 : 5 ≤ q2) (k : mWp mCd 64 (2, [some (.ref r0), some (.int x1), some (.int (x2 + iZ 1))], [], (h.set q2 (aI 4 (upd g101 (u1.toNatClampNeg) u0))), 0, 0) Q) : mWp mCd 64 (30, [some (.ref r0), some (.int x1), some (.int x2)], [.int u0, .int u1, .ref q2], h, 0, 0) Q := by
  refine mWp_ias rfl e3 e1 e2 ?_
  show mWp mCd 64 (31, [some (.ref r0), some (.int x1), some (.int x2)], [], (h.set q2 (aI 4 (upd g101 (u1.toNatClampNeg) u0))), 0, 0) Q
  refine mWp_run 2 (t' := (2, [some (.ref r0), some (.int x1), some (.int (x2 + iZ 1))], [], (h.set q2 (aI 4 (upd g101 (u1.toNatClampNeg) u0))), 0, 0)) rfl ?_
  exact k
theorem b65_0 {h : mH} {Q : Option Value → mH → Prop} {r0 : Nat} {x1 : Int32} {x2 : Int32} {ci : Nat} {num : Int32} {n : Int32} {fd : Int32} (hc : [1, 2, 4, 6, 8].contains ci = true) (e2 : h[r0]? = some (oV ci r0 num n fd)) (k : mCt mCd 46 [.ref r0, .int x2] h (fun rv hv => mWp mCd 65 (5, [some (.ref r0), some (.int x1), some (.int x2), none, none], rv.toList ++ [], hv, 0, 0) Q)) : mWp mCd 65 (0, [some (.ref r0), some (.int x1), some (.int x2), none, none], [], h, 0, 0) Q := by
  refine mWp_run 2 (t' := (2, [some (.ref r0), some (.int x1), some (.int x2), none, none], [.int x2, .ref r0], h, 0, 0)) rfl ?_
  exact mWp_iv rfl rfl e2 (mS5 hc) rfl rfl rfl k
theorem b65_5 {h : mH} {Q : Option Value → mH → Prop} {r0 : Nat} {x1 : Int32} {x2 : Int32} {u0 : Int32} {ci : Nat} {num : Int32} {n : Int32} {fd : Int32} (hc : [1, 2, 4, 6, 8].contains ci = true) (e2 : h[r0]? = some (oV ci r0 num n fd)) (k : mCt mCd 59 [.ref r0, .int x1] h (fun rv hv => mWp mCd 65 (10, [some (.ref r0), none, some (.int x2), none, none], rv.toList ++ [.int u0], hv, 0, 0) Q)) : mWp mCd 65 (5, [some (.ref r0), some (.int x1), some (.int x2), none, none], [.int u0], h, 0, 0) Q := by
  refine mWp_run 2 (t' := (7, [some (.ref r0), some (.int x1), some (.int x2), none, none], [.int x1, .ref r0, .int u0], h, 0, 0)) rfl ?_
  exact mWp_iv rfl rfl e2 (mS5 hc) rfl rfl rfl (mCt_mono k (fun rv hv y => mWp_weak (mLe_s (mLe_n (mLe_s (mLe_n (mLe_n mLe_0))))) y))
theorem b65_10 {h : mH} {Q : Option Value → mH → Prop} {r0 : Nat} {x2 : Int32} {u0 : Int32} {u1 : Int32}  (k : mWp mCd 65 (15, [some (.ref r0), none, some (.int x2), some (.int (u1 * u0)), some (.int (iZ 0))], [], h, 0, 0) Q) : mWp mCd 65 (10, [some (.ref r0), none, some (.int x2), none, none], [.int u0, .int u1], h, 0, 0) Q := by
  refine mWp_run 4 (t' := (15, [some (.ref r0), none, some (.int x2), some (.int (u1 * u0)), some (.int (iZ 0))], [], h, 0, 0)) rfl ?_
  exact k
theorem b65_15 {h : mH} {Q : Option Value → mH → Prop} {r0 : Nat} {x2 : Int32} {x3 : Int32} {x4 : Int32} {ci : Nat} {num : Int32} {n : Int32} {fd : Int32} (hc : [1, 2, 4, 6, 8].contains ci = true) (e2 : h[r0]? = some (oV ci r0 num n fd)) (k1 : n ≤ x4 → mWp mCd 65 (57, [none, none, none, some (.int x3), none], [], h, 0, 0) Q) (k2 : ¬ (n ≤ x4) → mWp mCd 65 (24, [some (.ref r0), none, some (.int x2), some (.int x3), some (.int x4)], [], h, 0, 0) Q) : mWp mCd 65 (15, [some (.ref r0), none, some (.int x2), some (.int x3), some (.int x4)], [], h, 0, 0) Q := by
  refine mWp_run 2 (t' := (18, [some (.ref r0), none, some (.int x2), some (.int x3), some (.int x4)], [.ref r0, .int x4], h, 0, 0)) rfl ?_
  refine mWp_gf rfl e2 hc rfl ?_
  exact mWp_ic (P := fun x y => y ≤ x) (a := x4) (b := n) rfl (fun q => mWp_weak (mLe_n (mLe_n (mLe_n (mLe_s (mLe_n mLe_0))))) (k1 q)) k2
theorem b65_57 {h : mH} {Q : Option Value → mH → Prop} {x3 : Int32}  (k : Q (some (.int x3)) h) : mWp mCd 65 (57, [none, none, none, some (.int x3), none], [], h, 0, 0) Q := by
  refine mWp_run 1 (t' := (58, [none, none, none, some (.int x3), none], [.int x3], h, 0, 0)) rfl ?_
  exact mWp_r (v := (some (.int x3))) rfl k
theorem b65_24 {h : mH} {Q : Option Value → mH → Prop} {r0 : Nat} {x2 : Int32} {x3 : Int32} {x4 : Int32} {ci : Nat} {num : Int32} {n : Int32} {fd : Int32} {g101 : Nat → Int32} (hc : [1, 2, 4, 6, 8].contains ci = true) (e2 : h[r0]? = some (oV ci r0 num n fd)) (e3 : h[((r0 + 2))]? = some (aI 4 g101)) (k1 : (Int32.ofNat 4) ≤ x4 → mWp mCd 65 (57, [none, none, none, some (.int x3), none], [], h, 0, 0) Q) (k2 : ¬ ((Int32.ofNat 4) ≤ x4) → mWp mCd 65 (34, [some (.ref r0), none, some (.int x2), some (.int x3), some (.int x4)], [], h, 0, 0) Q) : mWp mCd 65 (24, [some (.ref r0), none, some (.int x2), some (.int x3), some (.int x4)], [], h, 0, 0) Q := by
  refine mWp_run 2 (t' := (27, [some (.ref r0), none, some (.int x2), some (.int x3), some (.int x4)], [.ref r0, .int x4], h, 0, 0)) rfl ?_
  refine mWp_gf rfl e2 hc rfl ?_
  refine mWp_aln rfl e3 (by decide) ?_
  exact mWp_ic (P := fun x y => y ≤ x) (a := x4) (b := Int32.ofNat 4) rfl (fun q => mWp_weak (mLe_n (mLe_n (mLe_n (mLe_s (mLe_n mLe_0))))) (k1 q)) k2
theorem b65_34 {h : mH} {Q : Option Value → mH → Prop} {r0 : Nat} {x2 : Int32} {x3 : Int32} {x4 : Int32}  (k : mCt mCd 126 [.int x2, .int x4] h (fun rv hv => mWp mCd 65 (41, [some (.ref r0), none, some (.int x2), none, some (.int x4)], rv.toList ++ [.int x3], hv, 0, 0) Q)) : mWp mCd 65 (34, [some (.ref r0), none, some (.int x2), some (.int x3), some (.int x4)], [], h, 0, 0) Q := by
  refine mWp_run 3 (t' := (38, [some (.ref r0), none, some (.int x2), some (.int x3), some (.int x4)], [.int x4, .int x2, .int x3], h, 0, 0)) rfl ?_
  exact mWp_is rfl rfl rfl rfl rfl (mCt_mono k (fun rv hv y => mWp_weak (mLe_s (mLe_n (mLe_s (mLe_n (mLe_s mLe_0))))) y))
theorem b65_41 {h : mH} {Q : Option Value → mH → Prop} {r0 : Nat} {x2 : Int32} {x4 : Int32} {u0 : Int32} {u1 : Int32} {ci : Nat} {num : Int32} {n : Int32} {fd : Int32} {g101 : Nat → Int32} (hc : [1, 2, 4, 6, 8].contains ci = true) (e2 : h[r0]? = some (oV ci r0 num n fd)) (e3 : h[((r0 + 2))]? = some (aI 4 g101)) (e4 : ¬ (x4 < 0 ∨ 4 ≤ x4.toNatClampNeg)) (k : mWp mCd 65 (15, [some (.ref r0), none, some (.int x2), some (.int (u1 - (u0 * (g101 x4.toNatClampNeg)))), some (.int (x4 + iZ 1))], [], h, 0, 0) Q) : mWp mCd 65 (41, [some (.ref r0), none, some (.int x2), none, some (.int x4)], [.int u0, .int u1], h, 0, 0) Q := by
  refine mWp_run 1 (t' := (42, [some (.ref r0), none, some (.int x2), none, some (.int x4)], [.ref r0, .int u0, .int u1], h, 0, 0)) rfl ?_
  refine mWp_gf rfl e2 hc rfl ?_
  refine mWp_run 1 (t' := (47, [some (.ref r0), none, some (.int x2), none, some (.int x4)], [.int x4, .ref (r0 + 2), .int u0, .int u1], h, 0, 0)) rfl ?_
  refine mWp_ial rfl e3 e4 ?_
  refine mWp_run 5 (t' := (15, [some (.ref r0), none, some (.int x2), some (.int (u1 - (u0 * (g101 x4.toNatClampNeg)))), some (.int (x4 + iZ 1))], [], h, 0, 0)) rfl ?_
  exact k
theorem b66_0 {h : mH} {Q : Option Value → mH → Prop} {r0 : Nat} {x1 : Int32} {ci : Nat} {num : Int32} {n : Int32} {fd : Int32} (hc : [1, 2, 4, 6, 8].contains ci = true) (e2 : h[r0]? = some (oV ci r0 num n fd)) (k : mCt mCd 64 [.ref r0, .int x1] h (fun rv hv => mWp mCd 66 (5, [some (.ref r0), some (.int x1), none, none, none, none], rv.toList ++ [], hv, 0, 0) Q)) : mWp mCd 66 (0, [some (.ref r0), some (.int x1), none, none, none, none], [], h, 0, 0) Q := by
  refine mWp_run 2 (t' := (2, [some (.ref r0), some (.int x1), none, none, none, none], [.int x1, .ref r0], h, 0, 0)) rfl ?_
  exact mWp_iv rfl rfl e2 (mS5 hc) rfl rfl rfl k
theorem b66_5 {h : mH} {Q : Option Value → mH → Prop} {r0 : Nat} {x1 : Int32}  (k : mWp mCd 66 (12, [some (.ref r0), some (.int x1), some (.int (iZ (-1))), some (.int (iZ 0)), some (.int (iZ 1)), none], [], h, 0, 0) Q) : mWp mCd 66 (5, [some (.ref r0), some (.int x1), none, none, none, none], [], h, 0, 0) Q := by
  refine mWp_run 6 (t' := (12, [some (.ref r0), some (.int x1), some (.int (iZ (-1))), some (.int (iZ 0)), some (.int (iZ 1)), none], [], h, 0, 0)) rfl ?_
  exact k
theorem b66_12 {h : mH} {Q : Option Value → mH → Prop} {r0 : Nat} {x1 : Int32} {x2 : Int32} {x3 : Int32} {x4 : Int32} {ci : Nat} {num : Int32} {n : Int32} {fd : Int32} (hc : [1, 2, 4, 6, 8].contains ci = true) (e2 : h[r0]? = some (oV ci r0 num n fd)) (k : mCt mCd 42 [.ref r0] h (fun rv hv => mWp mCd 66 (18, [some (.ref r0), some (.int x1), some (.int x2), some (.int x3), some (.int x4), none], rv.toList ++ [.int x4], hv, 0, 0) Q)) : mWp mCd 66 (12, [some (.ref r0), some (.int x1), some (.int x2), some (.int x3), some (.int x4), none], [], h, 0, 0) Q := by
  refine mWp_run 2 (t' := (15, [some (.ref r0), some (.int x1), some (.int x2), some (.int x3), some (.int x4), none], [.ref r0, .int x4], h, 0, 0)) rfl ?_
  exact mWp_iv rfl rfl e2 (mS5 hc) rfl rfl rfl k
theorem b66_18 {h : mH} {Q : Option Value → mH → Prop} {r0 : Nat} {x1 : Int32} {x2 : Int32} {x3 : Int32} {x4 : Int32} {u0 : Int32} {u1 : Int32}  (k1 : u0 ≤ u1 → mWp mCd 66 (53, [none, none, some (.int x2), none, none, none], [], h, 0, 0) Q) (k2 : ¬ (u0 ≤ u1) → mWp mCd 66 (21, [some (.ref r0), some (.int x1), some (.int x2), some (.int x3), some (.int x4), none], [], h, 0, 0) Q) : mWp mCd 66 (18, [some (.ref r0), some (.int x1), some (.int x2), some (.int x3), some (.int x4), none], [.int u0, .int u1], h, 0, 0) Q := by
  exact mWp_ic (P := fun x y => y ≤ x) (a := u1) (b := u0) rfl (fun q => mWp_weak (mLe_n (mLe_n (mLe_s (mLe_n (mLe_n (mLe_n mLe_0)))))) (k1 q)) k2
theorem b66_53 {h : mH} {Q : Option Value → mH → Prop} {x2 : Int32}  (k : Q (some (.int x2)) h) : mWp mCd 66 (53, [none, none, some (.int x2), none, none, none], [], h, 0, 0) Q := by
  refine mWp_run 1 (t' := (54, [none, none, some (.int x2), none, none, none], [.int x2], h, 0, 0)) rfl ?_
  exact mWp_r (v := (some (.int x2))) rfl k
theorem b66_21 {h : mH} {Q : Option Value → mH → Prop} {r0 : Nat} {x1 : Int32} {x2 : Int32} {x3 : Int32} {x4 : Int32} {ci : Nat} {num : Int32} {n : Int32} {fd : Int32} (hc : [1, 2, 4, 6, 8].contains ci = true) (e2 : h[r0]? = some (oV ci r0 num n fd)) (k : mCt mCd 65 [.ref r0, .int x1, .int x4] h (fun rv hv => mWp mCd 66 (28, [some (.ref r0), some (.int x1), some (.int x2), some (.int x3), some (.int x4), none], rv.toList ++ [], hv, 0, 0) Q)) : mWp mCd 66 (21, [some (.ref r0), some (.int x1), some (.int x2), some (.int x3), some (.int x4), none], [], h, 0, 0) Q := by
  refine mWp_run 3 (t' := (25, [some (.ref r0), some (.int x1), some (.int x2), some (.int x3), some (.int x4), none], [.int x4, .int x1, .ref r0], h, 0, 0)) rfl ?_
  exact mWp_iv rfl rfl e2 (mS5 hc) rfl rfl rfl k
theorem b66_28 {h : mH} {Q : Option Value → mH → Prop} {r0 : Nat} {x1 : Int32} {x2 : Int32} {x3 : Int32} {x4 : Int32} {u0 : Int32}  (k1 : x2 = (iZ (-1)) → mWp mCd 66 (41, [some (.ref r0), some (.int x1), none, none, some (.int x4), some (.int u0)], [], h, 0, 0) Q) (k2 : ¬ (x2 = (iZ (-1))) → mWp mCd 66 (35, [some (.ref r0), some (.int x1), some (.int x2), some (.int x3), some (.int x4), some (.int u0)], [], h, 0, 0) Q) : mWp mCd 66 (28, [some (.ref r0), some (.int x1), some (.int x2), some (.int x3), some (.int x4), none], [.int u0], h, 0, 0) Q := by
  refine mWp_run 3 (t' := (32, [some (.ref r0), some (.int x1), some (.int x2), some (.int x3), some (.int x4), some (.int u0)], [.int (iZ (-1)), .int x2], h, 0, 0)) rfl ?_
  exact mWp_ic (P := fun x y => x = y) (a := x2) (b := iZ (-1)) rfl (fun q => mWp_weak (mLe_s (mLe_s (mLe_n (mLe_n (mLe_s (mLe_s mLe_0)))))) (k1 q)) k2
theorem b66_41 {h : mH} {Q : Option Value → mH → Prop} {r0 : Nat} {x1 : Int32} {x4 : Int32} {x5 : Int32}  (k : mWp mCd 66 (47, [some (.ref r0), some (.int x1), some (.int x4), some (.int x5), some (.int x4), none], [], h, 0, 0) Q) : mWp mCd 66 (41, [some (.ref r0), some (.int x1), none, none, some (.int x4), some (.int x5)], [], h, 0, 0) Q := by
  refine mWp_run 4 (t' := (47, [some (.ref r0), some (.int x1), some (.int x4), some (.int x5), some (.int x4), some (.int x5)], [], h, 0, 0)) rfl ?_
  exact mWp_weak (mLe_s (mLe_s (mLe_s (mLe_s (mLe_s (mLe_n mLe_0)))))) k
theorem b66_35 {h : mH} {Q : Option Value → mH → Prop} {r0 : Nat} {x1 : Int32} {x2 : Int32} {x3 : Int32} {x4 : Int32} {x5 : Int32}  (k1 : x5 ≤ x3 → mWp mCd 66 (47, [some (.ref r0), some (.int x1), some (.int x2), some (.int x3), some (.int x4), none], [], h, 0, 0) Q) (k2 : ¬ (x5 ≤ x3) → mWp mCd 66 (41, [some (.ref r0), some (.int x1), none, none, some (.int x4), some (.int x5)], [], h, 0, 0) Q) : mWp mCd 66 (35, [some (.ref r0), some (.int x1), some (.int x2), some (.int x3), some (.int x4), some (.int x5)], [], h, 0, 0) Q := by
  refine mWp_run 2 (t' := (38, [some (.ref r0), some (.int x1), some (.int x2), some (.int x3), some (.int x4), some (.int x5)], [.int x3, .int x5], h, 0, 0)) rfl ?_
  exact mWp_ic (P := fun x y => x ≤ y) (a := x5) (b := x3) rfl (fun q => mWp_weak (mLe_s (mLe_s (mLe_s (mLe_s (mLe_s (mLe_n mLe_0)))))) (k1 q)) (fun q => mWp_weak (mLe_s (mLe_s (mLe_n (mLe_n (mLe_s (mLe_s mLe_0)))))) (k2 q))
theorem b66_47 {h : mH} {Q : Option Value → mH → Prop} {r0 : Nat} {x1 : Int32} {x2 : Int32} {x3 : Int32} {x4 : Int32}  (k : mWp mCd 66 (12, [some (.ref r0), some (.int x1), some (.int x2), some (.int x3), some (.int (x4 + iZ 1)), none], [], h, 0, 0) Q) : mWp mCd 66 (47, [some (.ref r0), some (.int x1), some (.int x2), some (.int x3), some (.int x4), none], [], h, 0, 0) Q := by
  refine mWp_run 2 (t' := (12, [some (.ref r0), some (.int x1), some (.int x2), some (.int x3), some (.int (x4 + iZ 1)), none], [], h, 0, 0)) rfl ?_
  exact k
theorem b67_0 {h : mH} {Q : Option Value → mH → Prop} {r0 : Nat} {ci : Nat} {num : Int32} {n : Int32} {fd : Int32} (hc : [1, 2, 4, 6, 8].contains ci = true) (e2 : h[r0]? = some (oV ci r0 num n fd)) (k : mCt mCd 129 [.int n] h (fun rv hv => mWp mCd 67 (7, [some (.ref r0), none, none, none, none, none, none, none, none, none, none, none, none], rv.toList ++ [], hv, 0, 0) Q)) : mWp mCd 67 (0, [some (.ref r0), none, none, none, none, none, none, none, none, none, none, none, none], [], h, 0, 0) Q := by
  refine mWp_run 1 (t' := (1, [some (.ref r0), none, none, none, none, none, none, none, none, none, none, none, none], [.ref r0], h, 0, 0)) rfl ?_
  refine mWp_gf rfl e2 hc rfl ?_
  exact mWp_is rfl rfl rfl rfl rfl k
theorem b67_7 {h : mH} {Q : Option Value → mH → Prop} {r0 : Nat} {q0 : Nat}  (k : mWp mCd 67 (19, [some (.ref r0), some (.ref q0), some (.long (lZ 0)), none, some (.long (lZ 0)), none, some (.long (lZ 0)), none, some (.int (iZ 0)), none, none, none, none], [], h, 0, 0) Q) : mWp mCd 67 (7, [some (.ref r0), none, none, none, none, none, none, none, none, none, none, none, none], [.ref q0], h, 0, 0) Q := by
  refine mWp_run 9 (t' := (19, [some (.ref r0), some (.ref q0), some (.long (lZ 0)), none, some (.long (lZ 0)), none, some (.long (lZ 0)), none, some (.int (iZ 0)), none, none, none, none], [], h, 0, 0)) rfl ?_
  exact k
theorem b67_19 {h : mH} {Q : Option Value → mH → Prop} {r0 : Nat} {r1 : Nat} {y2 : Int64} {y4 : Int64} {y6 : Int64} {x8 : Int32} {len101 : Nat} {g102 : Nat → Int64} (e1 : h[r1]? = some (aL len101 g102)) (k1 : (Int32.ofNat len101) ≤ x8 → mWp mCd 67 (85, [none, none, some (.long y2), none, none, none, none, none, none, none, none, none, none], [], h, 0, 0) Q) (k2 : ¬ ((Int32.ofNat len101) ≤ x8) → mWp mCd 67 (26, [some (.ref r0), some (.ref r1), some (.long y2), none, some (.long y4), none, some (.long y6), none, some (.int x8), none, none, none, none], [], h, 0, 0) Q) : mWp mCd 67 (19, [some (.ref r0), some (.ref r1), some (.long y2), none, some (.long y4), none, some (.long y6), none, some (.int x8), none, none, none, none], [], h, 0, 0) Q := by
  refine mWp_run 2 (t' := (22, [some (.ref r0), some (.ref r1), some (.long y2), none, some (.long y4), none, some (.long y6), none, some (.int x8), none, none, none, none], [.ref r1, .int x8], h, 0, 0)) rfl ?_
  refine mWp_aln rfl e1 (by decide) ?_
  exact mWp_ic (P := fun x y => y ≤ x) (a := x8) (b := Int32.ofNat len101) rfl (fun q => mWp_weak (mLe_n (mLe_n (mLe_s (mLe_n (mLe_n (mLe_n (mLe_n (mLe_n (mLe_n (mLe_n (mLe_n (mLe_n (mLe_n mLe_0))))))))))))) (k1 q)) k2
theorem b67_85 {h : mH} {Q : Option Value → mH → Prop} {y2 : Int64}  (k : Q (some (.long y2)) h) : mWp mCd 67 (85, [none, none, some (.long y2), none, none, none, none, none, none, none, none, none, none], [], h, 0, 0) Q := by
  refine mWp_run 1 (t' := (86, [none, none, some (.long y2), none, none, none, none, none, none, none, none, none, none], [.long y2], h, 0, 0)) rfl ?_
  exact mWp_r (v := (some (.long y2))) rfl k
theorem b67_26 {h : mH} {Q : Option Value → mH → Prop} {r0 : Nat} {r1 : Nat} {y2 : Int64} {y4 : Int64} {y6 : Int64} {x8 : Int32} {len101 : Nat} {g102 : Nat → Int64} {ci : Nat} {num : Int32} {n : Int32} {fd : Int32} (e1 : h[r1]? = some (aL len101 g102)) (e2 : ¬ (x8 < 0 ∨ len101 ≤ x8.toNatClampNeg)) (hc : [1, 2, 4, 6, 8].contains ci = true) (e4 : h[r0]? = some (oV ci r0 num n fd)) (k : mCt mCd 68 [.ref r0, .long (g102 x8.toNatClampNeg)] h (fun rv hv => mWp mCd 67 (34, [some (.ref r0), some (.ref r1), some (.long y2), none, some (.long y4), none, some (.long y6), none, some (.int x8), none, none, none, none], rv.toList ++ [], hv, 0, 0) Q)) : mWp mCd 67 (26, [some (.ref r0), some (.ref r1), some (.long y2), none, some (.long y4), none, some (.long y6), none, some (.int x8), none, none, none, none], [], h, 0, 0) Q := by
  refine mWp_run 3 (t' := (30, [some (.ref r0), some (.ref r1), some (.long y2), none, some (.long y4), none, some (.long y6), none, some (.int x8), none, none, none, none], [.int x8, .ref r1, .ref r0], h, 0, 0)) rfl ?_
  refine mWp_lal rfl e1 e2 ?_
  exact mWp_iv rfl rfl e4 (mS5 hc) rfl rfl rfl k
theorem b67_34 {h : mH} {Q : Option Value → mH → Prop} {r0 : Nat} {r1 : Nat} {y2 : Int64} {y4 : Int64} {y6 : Int64} {x8 : Int32} {u0 : Int32} {len101 : Nat} {g102 : Nat → Int64} (e1 : h[r1]? = some (aL len101 g102)) (e2 : ¬ (x8 < 0 ∨ len101 ≤ x8.toNatClampNeg)) (k : mCt mCd 133 [.long (g102 x8.toNatClampNeg)] h (fun rv hv => mWp mCd 67 (44, [some (.ref r0), some (.ref r1), some (.long y2), none, some (.long y4), none, some (.long y6), none, some (.int x8), some (.long (Int32.toInt64 u0)), none, none, none], rv.toList ++ [], hv, 0, 0) Q)) : mWp mCd 67 (34, [some (.ref r0), some (.ref r1), some (.long y2), none, some (.long y4), none, some (.long y6), none, some (.int x8), none, none, none, none], [.int u0], h, 0, 0) Q := by
  refine mWp_run 4 (t' := (40, [some (.ref r0), some (.ref r1), some (.long y2), none, some (.long y4), none, some (.long y6), none, some (.int x8), some (.long (Int32.toInt64 u0)), none, none, none], [.int x8, .ref r1], h, 0, 0)) rfl ?_
  refine mWp_lal rfl e1 e2 ?_
  exact mWp_is rfl rfl rfl rfl rfl k
theorem b67_44 {h : mH} {Q : Option Value → mH → Prop} {r0 : Nat} {r1 : Nat} {y2 : Int64} {y4 : Int64} {y6 : Int64} {x8 : Int32} {y9 : Int64} {u0 : Int32}  (k1 : x8 = 0 → mWp mCd 67 (66, [some (.ref r0), some (.ref r1), none, none, none, none, none, none, some (.int x8), some (.long y9), none, some (.long (Int32.toInt64 u0)), none], [], h, 0, 0) Q) (k2 : ¬ (x8 = 0) → mWp mCd 67 (52, [some (.ref r0), some (.ref r1), some (.long y2), none, some (.long y4), none, some (.long y6), none, some (.int x8), some (.long y9), none, some (.long (Int32.toInt64 u0)), none], [], h, 0, 0) Q) : mWp mCd 67 (44, [some (.ref r0), some (.ref r1), some (.long y2), none, some (.long y4), none, some (.long y6), none, some (.int x8), some (.long y9), none, none, none], [.int u0], h, 0, 0) Q := by
  refine mWp_run 3 (t' := (49, [some (.ref r0), some (.ref r1), some (.long y2), none, some (.long y4), none, some (.long y6), none, some (.int x8), some (.long y9), none, some (.long (Int32.toInt64 u0)), none], [.int x8], h, 0, 0)) rfl ?_
  exact mWp_if (P := fun x => x = 0) (a := x8) rfl (fun q => mWp_weak (mLe_s (mLe_s (mLe_n (mLe_n (mLe_n (mLe_n (mLe_n (mLe_n (mLe_s (mLe_s (mLe_n (mLe_s (mLe_n mLe_0))))))))))))) (k1 q)) k2
theorem b67_66 {h : mH} {Q : Option Value → mH → Prop} {r0 : Nat} {r1 : Nat} {x8 : Int32} {y9 : Int64} {y11 : Int64} {len101 : Nat} {g102 : Nat → Int64} (e1 : h[r1]? = some (aL len101 g102)) (e2 : ¬ (x8 < 0 ∨ len101 ≤ x8.toNatClampNeg)) (k : mWp mCd 67 (79, [some (.ref r0), some (.ref r1), some (.long (g102 x8.toNatClampNeg)), none, some (.long y9), none, some (.long y11), none, some (.int x8), none, none, none, none], [], h, 0, 0) Q) : mWp mCd 67 (66, [some (.ref r0), some (.ref r1), none, none, none, none, none, none, some (.int x8), some (.long y9), none, some (.long y11), none], [], h, 0, 0) Q := by
  refine mWp_run 2 (t' := (69, [some (.ref r0), some (.ref r1), none, none, none, none, none, none, some (.int x8), some (.long y9), none, some (.long y11), none], [.int x8, .ref r1], h, 0, 0)) rfl ?_
  refine mWp_lal rfl e1 e2 ?_
  refine mWp_run 5 (t' := (79, [some (.ref r0), some (.ref r1), some (.long (g102 x8.toNatClampNeg)), none, some (.long y9), none, some (.long y11), none, some (.int x8), some (.long y9), none, some (.long y11), none], [], h, 0, 0)) rfl ?_
  exact mWp_weak (mLe_s (mLe_s (mLe_s (mLe_n (mLe_s (mLe_n (mLe_s (mLe_n (mLe_s (mLe_n (mLe_n (mLe_n (mLe_n mLe_0))))))))))))) k
theorem b67_52 {h : mH} {Q : Option Value → mH → Prop} {r0 : Nat} {r1 : Nat} {y2 : Int64} {y4 : Int64} {y6 : Int64} {x8 : Int32} {y9 : Int64} {y11 : Int64}  (k1 : (lg_cmp (y9 * y6) (y4 * y11)) ≤ 0 → mWp mCd 67 (79, [some (.ref r0), some (.ref r1), some (.long y2), none, some (.long y4), none, some (.long y6), none, some (.int x8), none, none, none, none], [], h, 0, 0) Q) (k2 : ¬ ((lg_cmp (y9 * y6) (y4 * y11)) ≤ 0) → mWp mCd 67 (66, [some (.ref r0), some (.ref r1), none, none, none, none, none, none, some (.int x8), some (.long y9), none, some (.long y11), none], [], h, 0, 0) Q) : mWp mCd 67 (52, [some (.ref r0), some (.ref r1), some (.long y2), none, some (.long y4), none, some (.long y6), none, some (.int x8), some (.long y9), none, some (.long y11), none], [], h, 0, 0) Q := by
  refine mWp_run 7 (t' := (63, [some (.ref r0), some (.ref r1), some (.long y2), none, some (.long y4), none, some (.long y6), none, some (.int x8), some (.long y9), none, some (.long y11), none], [.int (lg_cmp (y9 * y6) (y4 * y11))], h, 0, 0)) rfl ?_
  exact mWp_if (P := fun x => x ≤ 0) (a := lg_cmp (y9 * y6) (y4 * y11)) rfl (fun q => mWp_weak (mLe_s (mLe_s (mLe_s (mLe_n (mLe_s (mLe_n (mLe_s (mLe_n (mLe_s (mLe_n (mLe_n (mLe_n (mLe_n mLe_0))))))))))))) (k1 q)) (fun q => mWp_weak (mLe_s (mLe_s (mLe_n (mLe_n (mLe_n (mLe_n (mLe_n (mLe_n (mLe_s (mLe_s (mLe_n (mLe_s (mLe_n mLe_0))))))))))))) (k2 q))
theorem b67_79 {h : mH} {Q : Option Value → mH → Prop} {r0 : Nat} {r1 : Nat} {y2 : Int64} {y4 : Int64} {y6 : Int64} {x8 : Int32}  (k : mWp mCd 67 (19, [some (.ref r0), some (.ref r1), some (.long y2), none, some (.long y4), none, some (.long y6), none, some (.int (x8 + iZ 1)), none, none, none, none], [], h, 0, 0) Q) : mWp mCd 67 (79, [some (.ref r0), some (.ref r1), some (.long y2), none, some (.long y4), none, some (.long y6), none, some (.int x8), none, none, none, none], [], h, 0, 0) Q := by
  refine mWp_run 2 (t' := (19, [some (.ref r0), some (.ref r1), some (.long y2), none, some (.long y4), none, some (.long y6), none, some (.int (x8 + iZ 1)), none, none, none, none], [], h, 0, 0)) rfl ?_
  exact k
theorem b68_0 {h : mH} {Q : Option Value → mH → Prop} {r0 : Nat} {y1 : Int64} {ci : Nat} {num : Int32} {n : Int32} {fd : Int32} (hc : [1, 2, 4, 6, 8].contains ci = true) (e2 : h[r0]? = some (oV ci r0 num n fd)) (k : mCt mCd 47 [.ref r0] h (fun rv hv => mWp mCd 68 (6, [some (.ref r0), some (.long y1), none, none, none], rv.toList ++ [.int (iZ (-6))], hv, 0, 0) Q)) : mWp mCd 68 (0, [some (.ref r0), some (.long y1), none, none, none], [], h, 0, 0) Q := by
  refine mWp_run 2 (t' := (3, [some (.ref r0), some (.long y1), none, none, none], [.ref r0, .int (iZ (-6))], h, 0, 0)) rfl ?_
  exact mWp_iv rfl rfl e2 (mS5 hc) rfl rfl rfl k
theorem b68_6 {h : mH} {Q : Option Value → mH → Prop} {r0 : Nat} {y1 : Int64} {u0 : Int32} {u1 : Int32}  (k : mWp mCd 68 (11, [some (.ref r0), some (.long y1), none, some (.int (u1 * u0)), some (.int (iZ 0))], [], h, 0, 0) Q) : mWp mCd 68 (6, [some (.ref r0), some (.long y1), none, none, none], [.int u0, .int u1], h, 0, 0) Q := by
  refine mWp_run 4 (t' := (11, [some (.ref r0), some (.long y1), none, some (.int (u1 * u0)), some (.int (iZ 0))], [], h, 0, 0)) rfl ?_
  exact k
theorem b68_11 {h : mH} {Q : Option Value → mH → Prop} {r0 : Nat} {y1 : Int64} {x3 : Int32} {x4 : Int32}  (k1 : (iZ 4) ≤ x4 → mWp mCd 68 (43, [none, none, none, some (.int x3), none], [], h, 0, 0) Q) (k2 : ¬ ((iZ 4) ≤ x4) → mWp mCd 68 (17, [some (.ref r0), some (.long y1), none, some (.int x3), some (.int x4)], [], h, 0, 0) Q) : mWp mCd 68 (11, [some (.ref r0), some (.long y1), none, some (.int x3), some (.int x4)], [], h, 0, 0) Q := by
  refine mWp_run 2 (t' := (14, [some (.ref r0), some (.long y1), none, some (.int x3), some (.int x4)], [.int (iZ 4), .int x4], h, 0, 0)) rfl ?_
  exact mWp_ic (P := fun x y => y ≤ x) (a := x4) (b := iZ 4) rfl (fun q => mWp_weak (mLe_n (mLe_n (mLe_n (mLe_s (mLe_n mLe_0))))) (k1 q)) k2
theorem b68_43 {h : mH} {Q : Option Value → mH → Prop} {x3 : Int32}  (k : Q (some (.int x3)) h) : mWp mCd 68 (43, [none, none, none, some (.int x3), none], [], h, 0, 0) Q := by
  refine mWp_run 1 (t' := (44, [none, none, none, some (.int x3), none], [.int x3], h, 0, 0)) rfl ?_
  exact mWp_r (v := (some (.int x3))) rfl k
theorem b68_17 {h : mH} {Q : Option Value → mH → Prop} {r0 : Nat} {y1 : Int64} {x3 : Int32} {x4 : Int32}  (k : mCt mCd 131 [.long y1, .int x4] h (fun rv hv => mWp mCd 68 (24, [some (.ref r0), some (.long y1), none, none, some (.int x4)], rv.toList ++ [.int x3], hv, 0, 0) Q)) : mWp mCd 68 (17, [some (.ref r0), some (.long y1), none, some (.int x3), some (.int x4)], [], h, 0, 0) Q := by
  refine mWp_run 3 (t' := (21, [some (.ref r0), some (.long y1), none, some (.int x3), some (.int x4)], [.int x4, .long y1, .int x3], h, 0, 0)) rfl ?_
  exact mWp_is rfl rfl rfl rfl rfl (mCt_mono k (fun rv hv y => mWp_weak (mLe_s (mLe_s (mLe_n (mLe_n (mLe_s mLe_0))))) y))
theorem b68_24 {h : mH} {Q : Option Value → mH → Prop} {r0 : Nat} {y1 : Int64} {x4 : Int32} {u0 : Int32} {u1 : Int32}  (k : mCt mCd 130 [.long y1, .int x4] h (fun rv hv => mWp mCd 68 (31, [some (.ref r0), some (.long y1), none, none, some (.int x4)], rv.toList ++ [.ref r0, .int u0, .int u1], hv, 0, 0) Q)) : mWp mCd 68 (24, [some (.ref r0), some (.long y1), none, none, some (.int x4)], [.int u0, .int u1], h, 0, 0) Q := by
  refine mWp_run 3 (t' := (28, [some (.ref r0), some (.long y1), none, none, some (.int x4)], [.int x4, .long y1, .ref r0, .int u0, .int u1], h, 0, 0)) rfl ?_
  exact mWp_is rfl rfl rfl rfl rfl k
theorem b68_31 {h : mH} {Q : Option Value → mH → Prop} {r0 : Nat} {y1 : Int64} {x4 : Int32} {u0 : Int32} {q1 : Nat} {u2 : Int32} {u3 : Int32} {ci : Nat} {num : Int32} {n : Int32} {fd : Int32} (hc : [1, 2, 4, 6, 8].contains ci = true) (e2 : h[q1]? = some (oV ci q1 num n fd)) (k : mCt mCd 46 [.ref q1, .int u0] h (fun rv hv => mWp mCd 68 (34, [some (.ref r0), some (.long y1), none, none, some (.int x4)], rv.toList ++ [.int u2, .int u3], hv, 0, 0) Q)) : mWp mCd 68 (31, [some (.ref r0), some (.long y1), none, none, some (.int x4)], [.int u0, .ref q1, .int u2, .int u3], h, 0, 0) Q := by
  exact mWp_iv rfl rfl e2 (mS5 hc) rfl rfl rfl k
theorem b68_34 {h : mH} {Q : Option Value → mH → Prop} {r0 : Nat} {y1 : Int64} {x4 : Int32} {u0 : Int32} {u1 : Int32} {u2 : Int32}  (k : mWp mCd 68 (11, [some (.ref r0), some (.long y1), none, some (.int (u2 + (u1 * u0))), some (.int (x4 + iZ 1))], [], h, 0, 0) Q) : mWp mCd 68 (34, [some (.ref r0), some (.long y1), none, none, some (.int x4)], [.int u0, .int u1, .int u2], h, 0, 0) Q := by
  refine mWp_run 5 (t' := (11, [some (.ref r0), some (.long y1), none, some (.int (u2 + (u1 * u0))), some (.int (x4 + iZ 1))], [], h, 0, 0)) rfl ?_
  exact k
theorem b69_0 {h : mH} {Q : Option Value → mH → Prop} {r0 : Nat} {ci101 : Nat} {fs102 : List Value} (e1 : h[r0]? = some (.inr (ci101, fs102))) (e2 : ([7] : List Nat).contains ci101 = true) (e3 : Nat.blt 0 fs102.length = true) (k : mWp mCd 69 (14, [none], [.ref (((h.set r0 (.inr (ci101, fs102.set 0 (.int (iZ 0)))))).length), .ref r0], ((h.set r0 (.inr (ci101, fs102.set 0 (.int (iZ 0))))) ++ [aI 40 (fun _ => 0)]), 1, 40) Q) : mWp mCd 69 (0, [some (.ref r0)], [], h, 0, 0) Q := by
  refine mWp_run 1 (t' := (1, [some (.ref r0)], [.ref r0], h, 0, 0)) rfl ?_
  refine mWp_run 3 (t' := (6, [some (.ref r0)], [.int (iZ 0), .ref r0], h, 0, 0)) rfl ?_
  refine mWp_pf rfl e1 e2 rfl e3 ?_
  show mWp mCd 69 (9, [some (.ref r0)], [], (h.set r0 (.inr (ci101, fs102.set 0 (.int (iZ 0))))), 0, 0) Q
  refine mWp_run 2 (t' := (12, [some (.ref r0)], [.int (iZ 40), .ref r0], (h.set r0 (.inr (ci101, fs102.set 0 (.int (iZ 0))))), 0, 0)) rfl ?_
  refine mWp_run 1 (t' := (14, [some (.ref r0)], [.ref (((h.set r0 (.inr (ci101, fs102.set 0 (.int (iZ 0)))))).length), .ref r0], ((h.set r0 (.inr (ci101, fs102.set 0 (.int (iZ 0))))) ++ [aI 40 (fun _ => 0)]), 1, 40)) rfl ?_
  exact mWp_weak (mLe_n mLe_0) k
theorem b69_14 {h : mH} {Q : Option Value → mH → Prop} {q0 : Nat} {q1 : Nat} {ci101 : Nat} {fs102 : List Value} (e1 : h[q1]? = some (.inr (ci101, fs102))) (e2 : ([7] : List Nat).contains ci101 = true) (e3 : Nat.blt 1 fs102.length = true) (k : Q none (h.set q1 (.inr (ci101, fs102.set 1 (.ref q0))))) : mWp mCd 69 (14, [none], [.ref q0, .ref q1], h, 1, 40) Q := by
  refine mWp_pf rfl e1 e2 rfl e3 ?_
  show mWp mCd 69 (17, [none], [], (h.set q1 (.inr (ci101, fs102.set 1 (.ref q0)))), 1, 40) Q
  exact mWp_r (v := none) rfl k
theorem b70_0 {h : mH} {Q : Option Value → mH → Prop} {ran : Int32} (e1 : h[11]? = some (oT ran)) (k : Q none (h.set 11 (oT (iZ 0)))) : mWp mCd 70 (0, [some (.ref 11)], [], h, 0, 0) Q := by
  refine mWp_run 2 (t' := (2, [some (.ref 11)], [.int (iZ 0), .ref 11], h, 0, 0)) rfl ?_
  refine mWp_pf rfl e1 rfl rfl rfl ?_
  show mWp mCd 70 (5, [some (.ref 11)], [], (h.set 11 (oT (iZ 0))), 0, 0) Q
  exact mWp_r (v := none) rfl k
theorem b71_0 {h : mH} {Q : Option Value → mH → Prop} {x1 : Int32} {ran : Int32} (e1 : h[11]? = some (oT ran)) (k1 : ran < 0 → mWp mCd 71 (29, [some (.ref 11), none], [], h, 0, 0) Q) (k2 : ¬ (ran < 0) → mWp mCd 71 (7, [some (.ref 11), some (.int x1)], [], h, 0, 0) Q) : mWp mCd 71 (0, [some (.ref 11), some (.int x1)], [], h, 0, 0) Q := by
  refine mWp_run 1 (t' := (1, [some (.ref 11), some (.int x1)], [.ref 11], h, 0, 0)) rfl ?_
  refine mWp_gf rfl e1 rfl rfl ?_
  exact mWp_if (P := fun x => x < 0) (a := ran) rfl (fun q => mWp_weak (mLe_s (mLe_n mLe_0)) (k1 q)) k2
theorem b71_29 {h : mH} {Q : Option Value → mH → Prop} {ran : Int32} (e1 : h[11]? = some (oT ran)) (k : Q none (h.set 11 (oT (ran + (iZ 1))))) : mWp mCd 71 (29, [some (.ref 11), none], [], h, 0, 0) Q := by
  refine mWp_run 2 (t' := (31, [some (.ref 11), none], [.ref 11, .ref 11], h, 0, 0)) rfl ?_
  refine mWp_gf rfl e1 rfl rfl ?_
  refine mWp_run 2 (t' := (36, [some (.ref 11), none], [.int (ran + (iZ 1)), .ref 11], h, 0, 0)) rfl ?_
  refine mWp_pf rfl e1 rfl rfl rfl ?_
  show mWp mCd 71 (39, [some (.ref 11), none], [], (h.set 11 (oT (ran + (iZ 1)))), 0, 0) Q
  exact mWp_r (v := none) rfl k
theorem b71_7 {h : mH} {Q : Option Value → mH → Prop} {x1 : Int32} {ran : Int32} {g101 : Nat → Int32} (e1 : h[11]? = some (oT ran)) (e2 : h[12]? = some (aI 40 g101)) (k1 : (Int32.ofNat 40) ≤ ran → mWp mCd 71 (29, [some (.ref 11), none], [], h, 0, 0) Q) (k2 : ¬ ((Int32.ofNat 40) ≤ ran) → mWp mCd 71 (19, [some (.ref 11), some (.int x1)], [], h, 0, 0) Q) : mWp mCd 71 (7, [some (.ref 11), some (.int x1)], [], h, 0, 0) Q := by
  refine mWp_run 1 (t' := (8, [some (.ref 11), some (.int x1)], [.ref 11], h, 0, 0)) rfl ?_
  refine mWp_gf rfl e1 rfl rfl ?_
  refine mWp_run 1 (t' := (12, [some (.ref 11), some (.int x1)], [.ref 11, .int ran], h, 0, 0)) rfl ?_
  refine mWp_gf rfl e1 rfl rfl ?_
  refine mWp_aln rfl e2 (by decide) ?_
  exact mWp_ic (P := fun x y => y ≤ x) (a := ran) (b := Int32.ofNat 40) rfl (fun q => mWp_weak (mLe_s (mLe_n mLe_0)) (k1 q)) k2
theorem b71_19 {h : mH} {Q : Option Value → mH → Prop} {x1 : Int32} {ran : Int32} {g101 : Nat → Int32} (e1 : h[11]? = some (oT ran)) (e2 : h[12]? = some (aI 40 g101)) (e3 : ¬ (ran < 0 ∨ 40 ≤ ran.toNatClampNeg)) (k : mWp mCd 71 (29, [some (.ref 11), none], [], (h.set 12 (aI 40 (upd g101 (ran.toNatClampNeg) x1))), 0, 0) Q) : mWp mCd 71 (19, [some (.ref 11), some (.int x1)], [], h, 0, 0) Q := by
  refine mWp_run 1 (t' := (20, [some (.ref 11), some (.int x1)], [.ref 11], h, 0, 0)) rfl ?_
  refine mWp_gf rfl e1 rfl rfl ?_
  refine mWp_run 1 (t' := (24, [some (.ref 11), some (.int x1)], [.ref 11, .ref 12], h, 0, 0)) rfl ?_
  refine mWp_gf rfl e1 rfl rfl ?_
  refine mWp_run 1 (t' := (28, [some (.ref 11), some (.int x1)], [.int x1, .int ran, .ref 12], h, 0, 0)) rfl ?_
  refine mWp_ias rfl (by decide) e2 e3 ?_
  show mWp mCd 71 (29, [some (.ref 11), some (.int x1)], [], (h.set 12 (aI 40 (upd g101 (ran.toNatClampNeg) x1))), 0, 0) Q
  exact mWp_weak (mLe_s (mLe_n mLe_0)) k
theorem b72_0 {h : mH} {Q : Option Value → mH → Prop} {x1 : Int32}  (k1 : x1 < 0 → mWp mCd 72 (21, [none, none], [], h, 0, 0) Q) (k2 : ¬ (x1 < 0) → mWp mCd 72 (4, [some (.ref 11), some (.int x1)], [], h, 0, 0) Q) : mWp mCd 72 (0, [some (.ref 11), some (.int x1)], [], h, 0, 0) Q := by
  refine mWp_run 1 (t' := (1, [some (.ref 11), some (.int x1)], [.int x1], h, 0, 0)) rfl ?_
  exact mWp_if (P := fun x => x < 0) (a := x1) rfl (fun q => mWp_weak (mLe_n (mLe_n mLe_0)) (k1 q)) k2
theorem b72_21 {h : mH} {Q : Option Value → mH → Prop}   (k : Q (some (.int (iZ (-1)))) h) : mWp mCd 72 (21, [none, none], [], h, 0, 0) Q := by
  refine mWp_run 2 (t' := (31, [none, none], [.int (iZ (-1))], h, 0, 0)) rfl ?_
  exact mWp_r (v := (some (.int (iZ (-1))))) rfl k
theorem b72_4 {h : mH} {Q : Option Value → mH → Prop} {x1 : Int32} {ran : Int32} (e1 : h[11]? = some (oT ran)) (k1 : ran ≤ x1 → mWp mCd 72 (21, [none, none], [], h, 0, 0) Q) (k2 : ¬ (ran ≤ x1) → mWp mCd 72 (12, [some (.ref 11), some (.int x1)], [], h, 0, 0) Q) : mWp mCd 72 (4, [some (.ref 11), some (.int x1)], [], h, 0, 0) Q := by
  refine mWp_run 2 (t' := (6, [some (.ref 11), some (.int x1)], [.ref 11, .int x1], h, 0, 0)) rfl ?_
  refine mWp_gf rfl e1 rfl rfl ?_
  exact mWp_ic (P := fun x y => y ≤ x) (a := x1) (b := ran) rfl (fun q => mWp_weak (mLe_n (mLe_n mLe_0)) (k1 q)) k2
theorem b72_12 {h : mH} {Q : Option Value → mH → Prop} {x1 : Int32} {ran : Int32} {g101 : Nat → Int32} (e1 : h[11]? = some (oT ran)) (e2 : h[12]? = some (aI 40 g101)) (k1 : x1 < (Int32.ofNat 40) → mWp mCd 72 (25, [some (.ref 11), some (.int x1)], [], h, 0, 0) Q) (k2 : ¬ (x1 < (Int32.ofNat 40)) → mWp mCd 72 (21, [none, none], [], h, 0, 0) Q) : mWp mCd 72 (12, [some (.ref 11), some (.int x1)], [], h, 0, 0) Q := by
  refine mWp_run 2 (t' := (14, [some (.ref 11), some (.int x1)], [.ref 11, .int x1], h, 0, 0)) rfl ?_
  refine mWp_gf rfl e1 rfl rfl ?_
  refine mWp_aln rfl e2 (by decide) ?_
  exact mWp_ic (P := fun x y => x < y) (a := x1) (b := Int32.ofNat 40) rfl k1 (fun q => mWp_weak (mLe_n (mLe_n mLe_0)) (k2 q))
theorem b72_25 {h : mH} {Q : Option Value → mH → Prop} {x1 : Int32} {ran : Int32} {g101 : Nat → Int32} (e1 : h[11]? = some (oT ran)) (e2 : h[12]? = some (aI 40 g101)) (e3 : ¬ (x1 < 0 ∨ 40 ≤ x1.toNatClampNeg)) (k : Q (some (.int (g101 x1.toNatClampNeg))) h) : mWp mCd 72 (25, [some (.ref 11), some (.int x1)], [], h, 0, 0) Q := by
  refine mWp_run 1 (t' := (26, [some (.ref 11), some (.int x1)], [.ref 11], h, 0, 0)) rfl ?_
  refine mWp_gf rfl e1 rfl rfl ?_
  refine mWp_run 1 (t' := (30, [some (.ref 11), some (.int x1)], [.int x1, .ref 12], h, 0, 0)) rfl ?_
  refine mWp_ial rfl e2 e3 ?_
  exact mWp_r (v := (some (.int (g101 x1.toNatClampNeg)))) rfl k
theorem b73_0 {h : mH} {Q : Option Value → mH → Prop} {r0 : Nat} {x1 : Int32} {x2 : Int32} {x3 : Int32} {x4 : Int32}  (k : mCt mCd 37 [.ref r0, .int x1, .int x2] h (fun rv hv => mWp mCd 73 (6, [some (.ref r0), none, none, some (.int x3), some (.int x4), none], rv.toList ++ [], hv, 8, 152) Q)) : mWp mCd 73 (0, [some (.ref r0), some (.int x1), some (.int x2), some (.int x3), some (.int x4), none], [], h, 0, 0) Q := by
  refine mWp_run 3 (t' := (3, [some (.ref r0), some (.int x1), some (.int x2), some (.int x3), some (.int x4), none], [.int x2, .int x1, .ref r0], h, 0, 0)) rfl ?_
  exact mWp_ii rfl rfl rfl rfl rfl (mCt_mono k (fun rv hv y => mWp_weak (mLe_s (mLe_n (mLe_n (mLe_s (mLe_s (mLe_n mLe_0)))))) y))
theorem b73_6 {h : mH} {Q : Option Value → mH → Prop} {r0 : Nat} {x3 : Int32} {x4 : Int32}  (k : mWp mCd 73 (9, [some (.ref r0), none, none, some (.int x3), some (.int x4), some (.int (iZ 1))], [], h, 8, 152) Q) : mWp mCd 73 (6, [some (.ref r0), none, none, some (.int x3), some (.int x4), none], [], h, 8, 152) Q := by
  refine mWp_run 2 (t' := (9, [some (.ref r0), none, none, some (.int x3), some (.int x4), some (.int (iZ 1))], [], h, 8, 152)) rfl ?_
  exact k
theorem b73_9 {h : mH} {Q : Option Value → mH → Prop} {r0 : Nat} {x3 : Int32} {x4 : Int32} {x5 : Int32} {ci101 : Nat} {fs102 : List Value} (e1 : h[r0]? = some (.inr (ci101, fs102))) (e2 : ci101 = 8) (k : mCt mCd 42 [.ref r0] h (fun rv hv => mWp mCd 73 (15, [some (.ref r0), none, none, some (.int x3), some (.int x4), some (.int x5)], rv.toList ++ [.int x5], hv, 8, 152) Q)) : mWp mCd 73 (9, [some (.ref r0), none, none, some (.int x3), some (.int x4), some (.int x5)], [], h, 8, 152) Q := by
  refine mWp_run 2 (t' := (12, [some (.ref r0), none, none, some (.int x3), some (.int x4), some (.int x5)], [.ref r0, .int x5], h, 8, 152)) rfl ?_
  exact mWp_iv rfl rfl e1 (by rw [e2]; rfl) rfl rfl rfl k
theorem b73_15 {h : mH} {Q : Option Value → mH → Prop} {r0 : Nat} {x3 : Int32} {x4 : Int32} {x5 : Int32} {u0 : Int32} {u1 : Int32}  (k1 : u0 < u1 → mWp mCd 73 (46, [none, none, none, none, none, none], [], h, 8, 152) Q) (k2 : ¬ (u0 < u1) → mWp mCd 73 (18, [some (.ref r0), none, none, some (.int x3), some (.int x4), some (.int x5)], [], h, 8, 152) Q) : mWp mCd 73 (15, [some (.ref r0), none, none, some (.int x3), some (.int x4), some (.int x5)], [.int u0, .int u1], h, 8, 152) Q := by
  exact mWp_ic (P := fun x y => y < x) (a := u1) (b := u0) rfl (fun q => mWp_weak (mLe_n (mLe_n (mLe_n (mLe_n (mLe_n (mLe_n mLe_0)))))) (k1 q)) k2
theorem b73_46 {h : mH} {Q : Option Value → mH → Prop}   (k : Q none h) : mWp mCd 73 (46, [none, none, none, none, none, none], [], h, 8, 152) Q := by
  exact mWp_r (v := none) rfl k
theorem b73_18 {h : mH} {Q : Option Value → mH → Prop} {r0 : Nat} {x3 : Int32} {x4 : Int32} {x5 : Int32}  (k : mCt mCd 74 [.int x5, .int x3] h (fun rv hv => mWp mCd 73 (27, [some (.ref r0), none, none, some (.int x3), some (.int x4), some (.int x5)], rv.toList ++ [.int x5, .ref r0], hv, 8, 152) Q)) : mWp mCd 73 (18, [some (.ref r0), none, none, some (.int x3), some (.int x4), some (.int x5)], [], h, 8, 152) Q := by
  refine mWp_run 4 (t' := (24, [some (.ref r0), none, none, some (.int x3), some (.int x4), some (.int x5)], [.int x3, .int x5, .int x5, .ref r0], h, 8, 152)) rfl ?_
  exact mWp_is rfl rfl rfl rfl rfl k
theorem b73_27 {h : mH} {Q : Option Value → mH → Prop} {r0 : Nat} {x3 : Int32} {x4 : Int32} {x5 : Int32} {u0 : Int32} {u1 : Int32} {q2 : Nat}  (k1 : u0 < x4 → mWp mCd 73 (36, [some (.ref r0), none, none, some (.int x3), some (.int x4), some (.int x5)], [.int u1, .ref q2], h, 8, 152) Q) (k2 : ¬ (u0 < x4) → mWp mCd 73 (32, [some (.ref r0), none, none, some (.int x3), some (.int x4), some (.int x5)], [.int u1, .ref q2], h, 8, 152) Q) : mWp mCd 73 (27, [some (.ref r0), none, none, some (.int x3), some (.int x4), some (.int x5)], [.int u0, .int u1, .ref q2], h, 8, 152) Q := by
  refine mWp_run 1 (t' := (29, [some (.ref r0), none, none, some (.int x3), some (.int x4), some (.int x5)], [.int x4, .int u0, .int u1, .ref q2], h, 8, 152)) rfl ?_
  exact mWp_ic (P := fun x y => x < y) (a := u0) (b := x4) rfl k1 k2
theorem b73_36 {h : mH} {Q : Option Value → mH → Prop} {r0 : Nat} {x3 : Int32} {x4 : Int32} {x5 : Int32} {u0 : Int32} {q1 : Nat}  (k : mWp mCd 73 (37, [some (.ref r0), none, none, some (.int x3), some (.int x4), some (.int x5)], [.int (iZ 0), .int u0, .ref q1], h, 8, 152) Q) : mWp mCd 73 (36, [some (.ref r0), none, none, some (.int x3), some (.int x4), some (.int x5)], [.int u0, .ref q1], h, 8, 152) Q := by
  refine mWp_run 1 (t' := (37, [some (.ref r0), none, none, some (.int x3), some (.int x4), some (.int x5)], [.int (iZ 0), .int u0, .ref q1], h, 8, 152)) rfl ?_
  exact k
theorem b73_32 {h : mH} {Q : Option Value → mH → Prop} {r0 : Nat} {x3 : Int32} {x4 : Int32} {x5 : Int32} {u0 : Int32} {q1 : Nat}  (k : mWp mCd 73 (37, [some (.ref r0), none, none, some (.int x3), some (.int x4), some (.int x5)], [.int (iZ 1), .int u0, .ref q1], h, 8, 152) Q) : mWp mCd 73 (32, [some (.ref r0), none, none, some (.int x3), some (.int x4), some (.int x5)], [.int u0, .ref q1], h, 8, 152) Q := by
  refine mWp_run 2 (t' := (37, [some (.ref r0), none, none, some (.int x3), some (.int x4), some (.int x5)], [.int (iZ 1), .int u0, .ref q1], h, 8, 152)) rfl ?_
  exact k
theorem b73_37 {h : mH} {Q : Option Value → mH → Prop} {r0 : Nat} {x3 : Int32} {x4 : Int32} {x5 : Int32} {u0 : Int32} {u1 : Int32} {q2 : Nat} {ci101 : Nat} {fs102 : List Value} (e1 : h[q2]? = some (.inr (ci101, fs102))) (e2 : ci101 = 8) (k : mCt mCd 48 [.ref q2, .int u1, .int u0] h (fun rv hv => mWp mCd 73 (40, [some (.ref r0), none, none, some (.int x3), some (.int x4), some (.int x5)], rv.toList ++ [], hv, 8, 152) Q)) : mWp mCd 73 (37, [some (.ref r0), none, none, some (.int x3), some (.int x4), some (.int x5)], [.int u0, .int u1, .ref q2], h, 8, 152) Q := by
  exact mWp_iv rfl rfl e1 (by rw [e2]; rfl) rfl rfl rfl k
theorem b73_40 {h : mH} {Q : Option Value → mH → Prop} {r0 : Nat} {x3 : Int32} {x4 : Int32} {x5 : Int32}  (k : mWp mCd 73 (9, [some (.ref r0), none, none, some (.int x3), some (.int x4), some (.int (x5 + iZ 1))], [], h, 8, 152) Q) : mWp mCd 73 (40, [some (.ref r0), none, none, some (.int x3), some (.int x4), some (.int x5)], [], h, 8, 152) Q := by
  refine mWp_run 2 (t' := (9, [some (.ref r0), none, none, some (.int x3), some (.int x4), some (.int (x5 + iZ 1))], [], h, 8, 152)) rfl ?_
  exact k
theorem b74_0 {h : mH} {Q : Option Value → mH → Prop} {x0 : Int32} {x1 : Int32}  (k : mWp mCd 74 (7, [some (.int x0), none, some (.int (iZ 0)), some (.int x1), some (.int (iZ 0))], [], h, 0, 0) Q) : mWp mCd 74 (0, [some (.int x0), some (.int x1), none, none, none], [], h, 0, 0) Q := by
  refine mWp_run 6 (t' := (7, [some (.int x0), some (.int x1), some (.int (iZ 0)), some (.int x1), some (.int (iZ 0))], [], h, 0, 0)) rfl ?_
  exact mWp_weak (mLe_s (mLe_n (mLe_s (mLe_s (mLe_s mLe_0))))) k
theorem b74_7 {h : mH} {Q : Option Value → mH → Prop} {x0 : Int32} {x2 : Int32} {x3 : Int32} {x4 : Int32}  (k1 : (iZ 4) ≤ x4 → mWp mCd 74 (38, [none, none, some (.int x2), none, none], [], h, 0, 0) Q) (k2 : ¬ ((iZ 4) ≤ x4) → mWp mCd 74 (13, [some (.int x0), none, some (.int x2), some (.int x3), some (.int x4)], [], h, 0, 0) Q) : mWp mCd 74 (7, [some (.int x0), none, some (.int x2), some (.int x3), some (.int x4)], [], h, 0, 0) Q := by
  refine mWp_run 2 (t' := (10, [some (.int x0), none, some (.int x2), some (.int x3), some (.int x4)], [.int (iZ 4), .int x4], h, 0, 0)) rfl ?_
  exact mWp_ic (P := fun x y => y ≤ x) (a := x4) (b := iZ 4) rfl (fun q => mWp_weak (mLe_n (mLe_n (mLe_s (mLe_n (mLe_n mLe_0))))) (k1 q)) k2
theorem b74_38 {h : mH} {Q : Option Value → mH → Prop} {x2 : Int32}  (k : Q (some (.int x2)) h) : mWp mCd 74 (38, [none, none, some (.int x2), none, none], [], h, 0, 0) Q := by
  refine mWp_run 1 (t' := (39, [none, none, some (.int x2), none, none], [.int x2], h, 0, 0)) rfl ?_
  exact mWp_r (v := (some (.int x2))) rfl k
theorem b74_13 {h : mH} {Q : Option Value → mH → Prop} {x0 : Int32} {x2 : Int32} {x3 : Int32} {x4 : Int32}  (k : mCt mCd 126 [.int x0, .int x4] h (fun rv hv => mWp mCd 74 (20, [some (.int x0), none, none, some (.int x3), some (.int x4)], rv.toList ++ [.int x2], hv, 0, 0) Q)) : mWp mCd 74 (13, [some (.int x0), none, some (.int x2), some (.int x3), some (.int x4)], [], h, 0, 0) Q := by
  refine mWp_run 3 (t' := (17, [some (.int x0), none, some (.int x2), some (.int x3), some (.int x4)], [.int x4, .int x0, .int x2], h, 0, 0)) rfl ?_
  exact mWp_is rfl rfl rfl rfl rfl (mCt_mono k (fun rv hv y => mWp_weak (mLe_s (mLe_n (mLe_n (mLe_s (mLe_s mLe_0))))) y))
theorem b74_20 {h : mH} {Q : Option Value → mH → Prop} {x0 : Int32} {x3 : Int32} {x4 : Int32} {u0 : Int32} {u1 : Int32}  (k : mWp mCd 74 (7, [some (.int x0), none, some (.int (u1 + (u0 * (x3 - x3 / (iZ 21) * (iZ 21))))), some (.int (x3 / (iZ 21))), some (.int (x4 + iZ 1))], [], h, 0, 0) Q) : mWp mCd 74 (20, [some (.int x0), none, none, some (.int x3), some (.int x4)], [.int u0, .int u1], h, 0, 0) Q := by
  refine mWp_run 2 (t' := (23, [some (.int x0), none, none, some (.int x3), some (.int x4)], [.int (iZ 21), .int x3, .int u0, .int u1], h, 0, 0)) rfl ?_
  refine mWp_idv (f := fun x y => x - x / y * y) rfl (by decide +kernel) ?_
  refine mWp_run 5 (t' := (30, [some (.int x0), none, some (.int (u1 + (u0 * (x3 - x3 / (iZ 21) * (iZ 21))))), some (.int x3), some (.int x4)], [.int (iZ 21), .int x3], h, 0, 0)) rfl ?_
  refine mWp_idv (f := fun x y => x / y) rfl (by decide +kernel) ?_
  refine mWp_run 3 (t' := (7, [some (.int x0), none, some (.int (u1 + (u0 * (x3 - x3 / (iZ 21) * (iZ 21))))), some (.int (x3 / (iZ 21))), some (.int (x4 + iZ 1))], [], h, 0, 0)) rfl ?_
  exact k
theorem b75_0 {h : mH} {Q : Option Value → mH → Prop} {r0 : Nat}  (k : Q (some (.int (iZ 1))) h) : mWp mCd 75 (0, [some (.ref r0)], [], h, 0, 0) Q := by
  refine mWp_run 1 (t' := (1, [some (.ref r0)], [.int (iZ 1)], h, 0, 0)) rfl ?_
  exact mWp_r (v := (some (.int (iZ 1)))) rfl k
theorem b76_0 {h : mH} {Q : Option Value → mH → Prop} {r0 : Nat} {x1 : Int32} {r2 : Nat} {ran : Int32} (e1 : h[r2]? = some (oT ran)) (k : mCt mCd 71 [.ref r2, .int (iZ 20)] h (fun rv hv => mWp mCd 76 (6, [some (.ref r0), some (.int x1), some (.ref r2)], rv.toList ++ [], hv, 0, 0) Q)) : mWp mCd 76 (0, [some (.ref r0), some (.int x1), some (.ref r2)], [], h, 0, 0) Q := by
  refine mWp_run 2 (t' := (3, [some (.ref r0), some (.int x1), some (.ref r2)], [.int (iZ 20), .ref r2], h, 0, 0)) rfl ?_
  exact mWp_iv rfl rfl e1 rfl rfl rfl rfl k
theorem b76_6 {h : mH} {Q : Option Value → mH → Prop} {r0 : Nat} {x1 : Int32} {r2 : Nat} {num : Int32} {n : Int32} {fd : Int32} (e1 : h[r0]? = some (oV 8 r0 num n fd)) (k : mCt mCd 39 [.ref r0, .int x1, .ref r2] h (fun rv hv => mWp mCd 76 (12, [none, none, none], rv.toList ++ [], hv, 0, 0) Q)) : mWp mCd 76 (6, [some (.ref r0), some (.int x1), some (.ref r2)], [], h, 0, 0) Q := by
  refine mWp_run 3 (t' := (9, [some (.ref r0), some (.int x1), some (.ref r2)], [.ref r2, .int x1, .ref r0], h, 0, 0)) rfl ?_
  exact mWp_iv rfl rfl e1 rfl rfl rfl rfl (mCt_mono k (fun rv hv y => mWp_weak (mLe_n (mLe_n (mLe_n mLe_0))) y))
theorem b76_12 {h : mH} {Q : Option Value → mH → Prop} {u0 : Int32}  (k : Q (some (.int (u0 * (iZ 2)))) h) : mWp mCd 76 (12, [none, none, none], [.int u0], h, 0, 0) Q := by
  refine mWp_run 2 (t' := (14, [none, none, none], [.int (u0 * (iZ 2))], h, 0, 0)) rfl ?_
  exact mWp_r (v := (some (.int (u0 * (iZ 2))))) rfl k
theorem b77_0 {h : mH} {Q : Option Value → mH → Prop} {r0 : Nat} {x1 : Int32} {r2 : Nat} {ran : Int32} (e1 : h[r2]? = some (oT ran)) (k : mCt mCd 71 [.ref r2, .int (iZ 21)] h (fun rv hv => mWp mCd 77 (6, [some (.ref r0), some (.int x1), some (.ref r2)], rv.toList ++ [], hv, 0, 0) Q)) : mWp mCd 77 (0, [some (.ref r0), some (.int x1), some (.ref r2)], [], h, 0, 0) Q := by
  refine mWp_run 2 (t' := (3, [some (.ref r0), some (.int x1), some (.ref r2)], [.int (iZ 21), .ref r2], h, 0, 0)) rfl ?_
  exact mWp_iv rfl rfl e1 rfl rfl rfl rfl k
theorem b77_6 {h : mH} {Q : Option Value → mH → Prop} {r0 : Nat} {x1 : Int32} {r2 : Nat} {num : Int32} {n : Int32} {fd : Int32} (e1 : h[r0]? = some (oV 8 r0 num n fd)) (k : mCt mCd 41 [.ref r0, .int x1, .ref r2] h (fun rv hv => mWp mCd 77 (12, [none, none, none], rv.toList ++ [], hv, 0, 0) Q)) : mWp mCd 77 (6, [some (.ref r0), some (.int x1), some (.ref r2)], [], h, 0, 0) Q := by
  refine mWp_run 3 (t' := (9, [some (.ref r0), some (.int x1), some (.ref r2)], [.ref r2, .int x1, .ref r0], h, 0, 0)) rfl ?_
  exact mWp_iv rfl rfl e1 rfl rfl rfl rfl (mCt_mono k (fun rv hv y => mWp_weak (mLe_n (mLe_n (mLe_n mLe_0))) y))
theorem b77_12 {h : mH} {Q : Option Value → mH → Prop} {u0 : Int32}  (k : Q (some (.int (u0 - (iZ 1)))) h) : mWp mCd 77 (12, [none, none, none], [.int u0], h, 0, 0) Q := by
  refine mWp_run 2 (t' := (14, [none, none, none], [.int (u0 - (iZ 1))], h, 0, 0)) rfl ?_
  exact mWp_r (v := (some (.int (u0 - (iZ 1))))) rfl k
theorem b78_0 {h : mH} {Q : Option Value → mH → Prop} {r0 : Nat}  (k : mWp mCd 78 (10, [some (.ref r0)], [.ref ((h).length), .ref r0], (h ++ [aR 2 10 (fun _ => none)]), 1, 10) Q) : mWp mCd 78 (0, [some (.ref r0)], [], h, 0, 0) Q := by
  refine mWp_run 1 (t' := (1, [some (.ref r0)], [.ref r0], h, 0, 0)) rfl ?_
  refine mWp_run 3 (t' := (7, [some (.ref r0)], [.int (iZ 10), .ref r0], h, 0, 0)) rfl ?_
  refine mWp_run 1 (t' := (10, [some (.ref r0)], [.ref ((h).length), .ref r0], (h ++ [aR 2 10 (fun _ => none)]), 1, 10)) rfl ?_
  exact k
theorem b78_10 {h : mH} {Q : Option Value → mH → Prop} {r0 : Nat} {q0 : Nat} {q1 : Nat} {ci101 : Nat} {fs102 : List Value} {ci103 : Nat} {fs104 : List Value} (e1 : h[q1]? = some (.inr (ci101, fs102))) (e2 : ([9] : List Nat).contains ci101 = true) (e3 : Nat.blt 0 fs102.length = true) (e4 : h[r0]? = some (.inr (ci103, fs104))) (e5 : q1 ≠ r0) (e6 : ([9] : List Nat).contains ci103 = true) (e7 : Nat.blt 1 fs104.length = true) (k : mWp mCd 78 (22, [some (.ref r0)], [.ref ((((h.set q1 (.inr (ci101, fs102.set 0 (.ref q0)))).set r0 (.inr (ci103, fs104.set 1 (.int (iZ 0)))))).length), .ref r0], (((h.set q1 (.inr (ci101, fs102.set 0 (.ref q0)))).set r0 (.inr (ci103, fs104.set 1 (.int (iZ 0))))) ++ [.inr (3, [.int 0, .null])]), 2, 12) Q) : mWp mCd 78 (10, [some (.ref r0)], [.ref q0, .ref q1], h, 1, 10) Q := by
  refine mWp_pf rfl e1 e2 rfl e3 ?_
  show mWp mCd 78 (13, [some (.ref r0)], [], (h.set q1 (.inr (ci101, fs102.set 0 (.ref q0)))), 1, 10) Q
  refine mWp_run 2 (t' := (15, [some (.ref r0)], [.int (iZ 0), .ref r0], (h.set q1 (.inr (ci101, fs102.set 0 (.ref q0)))), 1, 10)) rfl ?_
  refine mWp_pf rfl (mGn e5 e4) e6 rfl e7 ?_
  show mWp mCd 78 (18, [some (.ref r0)], [], ((h.set q1 (.inr (ci101, fs102.set 0 (.ref q0)))).set r0 (.inr (ci103, fs104.set 1 (.int (iZ 0))))), 1, 10) Q
  refine mWp_run 1 (t' := (19, [some (.ref r0)], [.ref r0], ((h.set q1 (.inr (ci101, fs102.set 0 (.ref q0)))).set r0 (.inr (ci103, fs104.set 1 (.int (iZ 0))))), 1, 10)) rfl ?_
  refine mWp_run 1 (t' := (22, [some (.ref r0)], [.ref ((((h.set q1 (.inr (ci101, fs102.set 0 (.ref q0)))).set r0 (.inr (ci103, fs104.set 1 (.int (iZ 0)))))).length), .ref r0], (((h.set q1 (.inr (ci101, fs102.set 0 (.ref q0)))).set r0 (.inr (ci103, fs104.set 1 (.int (iZ 0))))) ++ [.inr (3, [.int 0, .null])]), 2, 12)) rfl ?_
  exact k
theorem b78_22 {h : mH} {Q : Option Value → mH → Prop} {r0 : Nat} {q0 : Nat} {q1 : Nat}  (k : mCt mCd 21 [.ref q0] h (fun rv hv => mWp mCd 78 (26, [some (.ref r0)], rv.toList ++ [.ref q0, .ref q1], hv, 3, 37) Q)) : mWp mCd 78 (22, [some (.ref r0)], [.ref q0, .ref q1], h, 2, 12) Q := by
  refine mWp_run 1 (t' := (23, [some (.ref r0)], [.ref q0, .ref q0, .ref q1], h, 2, 12)) rfl ?_
  exact mWp_ii rfl rfl rfl rfl rfl k
theorem b78_26 {h : mH} {Q : Option Value → mH → Prop} {r0 : Nat} {q0 : Nat} {q1 : Nat} {ci101 : Nat} {fs102 : List Value} (e1 : h[q1]? = some (.inr (ci101, fs102))) (e2 : ([9] : List Nat).contains ci101 = true) (e3 : Nat.blt 2 fs102.length = true) (k : mWp mCd 78 (33, [some (.ref r0)], [.ref (((h.set q1 (.inr (ci101, fs102.set 2 (.ref q0))))).length), .ref r0], ((h.set q1 (.inr (ci101, fs102.set 2 (.ref q0)))) ++ [.inr (3, [.int 0, .null])]), 4, 39) Q) : mWp mCd 78 (26, [some (.ref r0)], [.ref q0, .ref q1], h, 3, 37) Q := by
  refine mWp_pf rfl e1 e2 rfl e3 ?_
  show mWp mCd 78 (29, [some (.ref r0)], [], (h.set q1 (.inr (ci101, fs102.set 2 (.ref q0)))), 3, 37) Q
  refine mWp_run 1 (t' := (30, [some (.ref r0)], [.ref r0], (h.set q1 (.inr (ci101, fs102.set 2 (.ref q0)))), 3, 37)) rfl ?_
  refine mWp_run 1 (t' := (33, [some (.ref r0)], [.ref (((h.set q1 (.inr (ci101, fs102.set 2 (.ref q0))))).length), .ref r0], ((h.set q1 (.inr (ci101, fs102.set 2 (.ref q0)))) ++ [.inr (3, [.int 0, .null])]), 4, 39)) rfl ?_
  exact k
theorem b78_33 {h : mH} {Q : Option Value → mH → Prop} {r0 : Nat} {q0 : Nat} {q1 : Nat}  (k : mCt mCd 21 [.ref q0] h (fun rv hv => mWp mCd 78 (37, [some (.ref r0)], rv.toList ++ [.ref q0, .ref q1], hv, 5, 64) Q)) : mWp mCd 78 (33, [some (.ref r0)], [.ref q0, .ref q1], h, 4, 39) Q := by
  refine mWp_run 1 (t' := (34, [some (.ref r0)], [.ref q0, .ref q0, .ref q1], h, 4, 39)) rfl ?_
  exact mWp_ii rfl rfl rfl rfl rfl k
theorem b78_37 {h : mH} {Q : Option Value → mH → Prop} {r0 : Nat} {q0 : Nat} {q1 : Nat} {ci101 : Nat} {fs102 : List Value} (e1 : h[q1]? = some (.inr (ci101, fs102))) (e2 : ([9] : List Nat).contains ci101 = true) (e3 : Nat.blt 3 fs102.length = true) (k : mWp mCd 78 (44, [some (.ref r0)], [.ref (((h.set q1 (.inr (ci101, fs102.set 3 (.ref q0))))).length), .ref r0], ((h.set q1 (.inr (ci101, fs102.set 3 (.ref q0)))) ++ [.inr (7, [.int 0, .null])]), 6, 66) Q) : mWp mCd 78 (37, [some (.ref r0)], [.ref q0, .ref q1], h, 5, 64) Q := by
  refine mWp_pf rfl e1 e2 rfl e3 ?_
  show mWp mCd 78 (40, [some (.ref r0)], [], (h.set q1 (.inr (ci101, fs102.set 3 (.ref q0)))), 5, 64) Q
  refine mWp_run 1 (t' := (41, [some (.ref r0)], [.ref r0], (h.set q1 (.inr (ci101, fs102.set 3 (.ref q0)))), 5, 64)) rfl ?_
  refine mWp_run 1 (t' := (44, [some (.ref r0)], [.ref (((h.set q1 (.inr (ci101, fs102.set 3 (.ref q0))))).length), .ref r0], ((h.set q1 (.inr (ci101, fs102.set 3 (.ref q0)))) ++ [.inr (7, [.int 0, .null])]), 6, 66)) rfl ?_
  exact k
theorem b78_44 {h : mH} {Q : Option Value → mH → Prop} {r0 : Nat} {q0 : Nat} {q1 : Nat}  (k : mCt mCd 69 [.ref q0] h (fun rv hv => mWp mCd 78 (48, [some (.ref r0)], rv.toList ++ [.ref q0, .ref q1], hv, 7, 106) Q)) : mWp mCd 78 (44, [some (.ref r0)], [.ref q0, .ref q1], h, 6, 66) Q := by
  refine mWp_run 1 (t' := (45, [some (.ref r0)], [.ref q0, .ref q0, .ref q1], h, 6, 66)) rfl ?_
  exact mWp_ii rfl rfl rfl rfl rfl k
theorem b78_48 {h : mH} {Q : Option Value → mH → Prop} {r0 : Nat} {q0 : Nat} {q1 : Nat} {ci101 : Nat} {fs102 : List Value} (e1 : h[q1]? = some (.inr (ci101, fs102))) (e2 : ([9] : List Nat).contains ci101 = true) (e3 : Nat.blt 4 fs102.length = true) (k : mWp mCd 78 (56, [none], [.ref (((h.set q1 (.inr (ci101, fs102.set 4 (.ref q0))))).length), .ref r0], ((h.set q1 (.inr (ci101, fs102.set 4 (.ref q0)))) ++ [aR 3 4 (fun _ => none)]), 8, 110) Q) : mWp mCd 78 (48, [some (.ref r0)], [.ref q0, .ref q1], h, 7, 106) Q := by
  refine mWp_pf rfl e1 e2 rfl e3 ?_
  show mWp mCd 78 (51, [some (.ref r0)], [], (h.set q1 (.inr (ci101, fs102.set 4 (.ref q0)))), 7, 106) Q
  refine mWp_run 2 (t' := (53, [some (.ref r0)], [.int (iZ 4), .ref r0], (h.set q1 (.inr (ci101, fs102.set 4 (.ref q0)))), 7, 106)) rfl ?_
  refine mWp_run 1 (t' := (56, [some (.ref r0)], [.ref (((h.set q1 (.inr (ci101, fs102.set 4 (.ref q0))))).length), .ref r0], ((h.set q1 (.inr (ci101, fs102.set 4 (.ref q0)))) ++ [aR 3 4 (fun _ => none)]), 8, 110)) rfl ?_
  exact mWp_weak (mLe_n mLe_0) k
theorem b78_56 {h : mH} {Q : Option Value → mH → Prop} {q0 : Nat} {q1 : Nat} {ci101 : Nat} {fs102 : List Value} (e1 : h[q1]? = some (.inr (ci101, fs102))) (e2 : ([9] : List Nat).contains ci101 = true) (e3 : Nat.blt 5 fs102.length = true) (k : Q none (h.set q1 (.inr (ci101, fs102.set 5 (.ref q0))))) : mWp mCd 78 (56, [none], [.ref q0, .ref q1], h, 8, 110) Q := by
  refine mWp_pf rfl e1 e2 rfl e3 ?_
  show mWp mCd 78 (59, [none], [], (h.set q1 (.inr (ci101, fs102.set 5 (.ref q0)))), 8, 110) Q
  exact mWp_r (v := none) rfl k
theorem b79_0 {h : mH} {Q : Option Value → mH → Prop} {x1 : Int32}  (k : mCt mCd 119 [.int x1] h (fun rv hv => mWp mCd 79 (4, [some (.ref 5), some (.int x1)], rv.toList ++ [], hv, 0, 0) Q)) : mWp mCd 79 (0, [some (.ref 5), some (.int x1)], [], h, 0, 0) Q := by
  refine mWp_run 1 (t' := (1, [some (.ref 5), some (.int x1)], [.int x1], h, 0, 0)) rfl ?_
  exact mWp_is rfl rfl rfl rfl rfl k
theorem b79_4 {h : mH} {Q : Option Value → mH → Prop} {x1 : Int32} {u0 : Int32}  (k1 : ¬ u0 = 0 → mWp mCd 79 (10, [some (.ref 5), some (.int x1)], [], h, 0, 0) Q) (k2 : ¬ (¬ u0 = 0) → mWp mCd 79 (7, [none, none], [], h, 0, 0) Q) : mWp mCd 79 (4, [some (.ref 5), some (.int x1)], [.int u0], h, 0, 0) Q := by
  exact mWp_if (P := fun x => ¬ x = 0) (a := u0) rfl k1 (fun q => mWp_weak (mLe_n (mLe_n mLe_0)) (k2 q))
theorem b79_10 {h : mH} {Q : Option Value → mH → Prop} {x1 : Int32} {vc : Int32} (e1 : h[5]? = some (oJ vc)) (k : mCt mCd 115 [.ref 5] h (fun rv hv => mWp mCd 79 (14, [some (.ref 5), some (.int x1)], rv.toList ++ [], hv, 0, 0) Q)) : mWp mCd 79 (10, [some (.ref 5), some (.int x1)], [], h, 0, 0) Q := by
  refine mWp_run 1 (t' := (11, [some (.ref 5), some (.int x1)], [.ref 5], h, 0, 0)) rfl ?_
  exact mWp_iv rfl rfl e1 rfl rfl rfl rfl k
theorem b79_7 {h : mH} {Q : Option Value → mH → Prop}   (k : Q (some (.int (iZ (-2)))) h) : mWp mCd 79 (7, [none, none], [], h, 0, 0) Q := by
  refine mWp_run 1 (t' := (9, [none, none], [.int (iZ (-2))], h, 0, 0)) rfl ?_
  exact mWp_r (v := (some (.int (iZ (-2))))) rfl k
theorem b79_14 {h : mH} {Q : Option Value → mH → Prop} {x1 : Int32} {u0 : Int32}  (k1 : u0 = 0 → mWp mCd 79 (22, [some (.ref 5), some (.int x1)], [], h, 0, 0) Q) (k2 : ¬ (u0 = 0) → mWp mCd 79 (17, [none, none], [], h, 0, 0) Q) : mWp mCd 79 (14, [some (.ref 5), some (.int x1)], [.int u0], h, 0, 0) Q := by
  exact mWp_if (P := fun x => x = 0) (a := u0) rfl k1 (fun q => mWp_weak (mLe_n (mLe_n mLe_0)) (k2 q))
theorem b79_22 {h : mH} {Q : Option Value → mH → Prop} {x1 : Int32}  (k : mWp mCd 79 (26, [some (.ref 5), some (.int x1)], [.ref ((h).length), .ref 5], (h ++ [.inr (6, [.int 0, .int 0, .null, .null, .null, .int 0])]), 1, 6) Q) : mWp mCd 79 (22, [some (.ref 5), some (.int x1)], [], h, 0, 0) Q := by
  refine mWp_run 1 (t' := (23, [some (.ref 5), some (.int x1)], [.ref 5], h, 0, 0)) rfl ?_
  refine mWp_run 1 (t' := (26, [some (.ref 5), some (.int x1)], [.ref ((h).length), .ref 5], (h ++ [.inr (6, [.int 0, .int 0, .null, .null, .null, .int 0])]), 1, 6)) rfl ?_
  exact k
theorem b79_17 {h : mH} {Q : Option Value → mH → Prop}   (k : Q (some (.int (iZ (-4)))) h) : mWp mCd 79 (17, [none, none], [], h, 0, 0) Q := by
  refine mWp_run 2 (t' := (38, [none, none], [.int (iZ (-4))], h, 0, 0)) rfl ?_
  exact mWp_r (v := (some (.int (iZ (-4))))) rfl k
theorem b79_26 {h : mH} {Q : Option Value → mH → Prop} {x1 : Int32} {q0 : Nat} {vc : Int32} (e1 : h[5]? = some (oJ vc)) (k : mCt mCd 37 [.ref q0, .int vc, .int x1] h (fun rv hv => mWp mCd 79 (35, [none, none], rv.toList ++ [.ref q0, .ref 5], hv, 9, 158) Q)) : mWp mCd 79 (26, [some (.ref 5), some (.int x1)], [.ref q0, .ref 5], h, 1, 6) Q := by
  refine mWp_run 2 (t' := (28, [some (.ref 5), some (.int x1)], [.ref 5, .ref q0, .ref q0, .ref 5], h, 1, 6)) rfl ?_
  refine mWp_gf rfl e1 rfl rfl ?_
  refine mWp_run 1 (t' := (32, [some (.ref 5), some (.int x1)], [.int x1, .int vc, .ref q0, .ref q0, .ref 5], h, 1, 6)) rfl ?_
  exact mWp_ii rfl rfl rfl rfl rfl (mCt_mono k (fun rv hv y => mWp_weak (mLe_n (mLe_n mLe_0)) y))
theorem b79_35 {h : mH} {Q : Option Value → mH → Prop} {q0 : Nat} {vc : Int32} (e1 : h[5]? = some (oJ vc)) (k : mCt mCd 116 [.ref 5, .ref q0] h (fun rv hv => mWp mCd 79 (38, [none, none], rv.toList ++ [], hv, 9, 158) Q)) : mWp mCd 79 (35, [none, none], [.ref q0, .ref 5], h, 9, 158) Q := by
  exact mWp_iv rfl rfl e1 rfl rfl rfl rfl k
theorem b79_38 {h : mH} {Q : Option Value → mH → Prop} {u0 : Int32}  (k : Q (some (.int u0)) h) : mWp mCd 79 (38, [none, none], [.int u0], h, 9, 158) Q := by
  exact mWp_r (v := (some (.int u0))) rfl k
theorem b80_0 {h : mH} {Q : Option Value → mH → Prop} {x1 : Int32} {x2 : Int32} {x3 : Int32} {vc : Int32} (e1 : h[5]? = some (oJ vc)) (k : mCt mCd 114 [.ref 5, .int x1] h (fun rv hv => mWp mCd 80 (5, [none, none, some (.int x2), some (.int x3), none], rv.toList ++ [], hv, 0, 0) Q)) : mWp mCd 80 (0, [some (.ref 5), some (.int x1), some (.int x2), some (.int x3), none], [], h, 0, 0) Q := by
  refine mWp_run 2 (t' := (2, [some (.ref 5), some (.int x1), some (.int x2), some (.int x3), none], [.int x1, .ref 5], h, 0, 0)) rfl ?_
  exact mWp_iv rfl rfl e1 rfl rfl rfl rfl (mCt_mono k (fun rv hv y => mWp_weak (mLe_n (mLe_n (mLe_s (mLe_s (mLe_n mLe_0))))) y))
