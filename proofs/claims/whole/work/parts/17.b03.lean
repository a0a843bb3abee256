theorem b95_5 {h : mH} {Q : Option Value → mH → Prop} {x1 : Int32} {x2 : Int32} {x3 : Int32} {x4 : Int32}  (k : Q (some (.long (-4611686018427387904))) h) : mWp mCd 95 (5, [some (.ref 5), some (.int x1), some (.int x2), some (.int x3), some (.int x4), none, none], [.null], h, 0, 0) Q := by
  refine mWp_run 4 (t' := (24, [some (.ref 5), some (.int x1), some (.int x2), some (.int x3), some (.int x4), some (.null), none], [.long (-4611686018427387904)], h, 0, 0)) rfl ?_
  exact mWp_r (v := (some (.long (-4611686018427387904)))) rfl k
theorem b95_5_1 {h : mH} {Q : Option Value → mH → Prop} {x1 : Int32} {x2 : Int32} {x3 : Int32} {x4 : Int32} {q0 : Nat} {ci : Nat} {num : Int32} {n : Int32} {fd : Int32} (hc : [1, 2, 4, 6, 8].contains ci = true) (e2 : h[q0]? = some (oV ci q0 num n fd)) (k : mCt mCd 43 [.ref q0, .int x3] h (fun r1 h1 => mWp mCd 95 (18, [some (.ref 5), some (.int x1), some (.int x2), some (.int x3), some (.int x4), some (.ref q0), none], r1.toList ++ [], h1, 0, 0) Q)) : mWp mCd 95 (5, [some (.ref 5), some (.int x1), some (.int x2), some (.int x3), some (.int x4), none, none], [.ref q0], h, 0, 0) Q := by
  refine mWp_run 5 (t' := (15, [some (.ref 5), some (.int x1), some (.int x2), some (.int x3), some (.int x4), some (.ref q0), none], [.int x3, .ref q0], h, 0, 0)) rfl ?_
  exact mWp_iv rfl rfl e2 (mS5 hc) rfl rfl rfl k
theorem b95_18 {h : mH} {Q : Option Value → mH → Prop} {x1 : Int32} {x2 : Int32} {x3 : Int32} {x4 : Int32} {r5 : Nat} {u0 : Int32}  (k1 : ¬ u0 = 0 → mWp mCd 95 (25, [some (.ref 5), some (.int x1), some (.int x2), some (.int x3), some (.int x4), some (.ref r5), none], [], h, 0, 0) Q) (k2 : ¬ (¬ u0 = 0) → mWp mCd 95 (21, [some (.ref 5), some (.int x1), some (.int x2), some (.int x3), some (.int x4), some (.ref r5), none], [], h, 0, 0) Q) : mWp mCd 95 (18, [some (.ref 5), some (.int x1), some (.int x2), some (.int x3), some (.int x4), some (.ref r5), none], [.int u0], h, 0, 0) Q := by
  exact mWp_if (P := fun x => ¬ x = 0) (a := u0) rfl k1 k2
theorem b95_25 {h : mH} {Q : Option Value → mH → Prop} {x1 : Int32} {x2 : Int32} {x3 : Int32} {x4 : Int32} {r5 : Nat} {ci : Nat} {num : Int32} {n : Int32} {fd : Int32} (hc : [1, 2, 4, 6, 8].contains ci = true) (e2 : h[r5]? = some (oV ci r5 num n fd)) (k : mCt mCd 49 [.ref r5] h (fun r1 h1 => mWp mCd 95 (30, [some (.ref 5), some (.int x1), some (.int x2), some (.int x3), some (.int x4), some (.ref r5), none], r1.toList ++ [], h1, 0, 0) Q)) : mWp mCd 95 (25, [some (.ref 5), some (.int x1), some (.int x2), some (.int x3), some (.int x4), some (.ref r5), none], [], h, 0, 0) Q := by
  refine mWp_run 1 (t' := (27, [some (.ref 5), some (.int x1), some (.int x2), some (.int x3), some (.int x4), some (.ref r5), none], [.ref r5], h, 0, 0)) rfl ?_
  exact mWp_iv rfl rfl e2 (mS5 hc) rfl rfl rfl k
theorem b95_21 {h : mH} {Q : Option Value → mH → Prop} {x1 : Int32} {x2 : Int32} {x3 : Int32} {x4 : Int32} {r5 : Nat}  (k : Q (some (.long (-4611686018427387904))) h) : mWp mCd 95 (21, [some (.ref 5), some (.int x1), some (.int x2), some (.int x3), some (.int x4), some (.ref r5), none], [], h, 0, 0) Q := by
  refine mWp_run 1 (t' := (24, [some (.ref 5), some (.int x1), some (.int x2), some (.int x3), some (.int x4), some (.ref r5), none], [.long (-4611686018427387904)], h, 0, 0)) rfl ?_
  exact mWp_r (v := (some (.long (-4611686018427387904)))) rfl k
theorem b95_30 {h : mH} {Q : Option Value → mH → Prop} {x1 : Int32} {x2 : Int32} {x3 : Int32} {x4 : Int32} {r5 : Nat} {q0 : Nat}  (k1 : x2 < 0 → mWp mCd 95 (45, [some (.ref 5), some (.int x1), some (.int x2), some (.int x3), some (.int x4), some (.ref r5), some (.ref q0)], [], h, 0, 0) Q) (k2 : ¬ (x2 < 0) → mWp mCd 95 (36, [some (.ref 5), some (.int x1), some (.int x2), some (.int x3), some (.int x4), some (.ref r5), some (.ref q0)], [], h, 0, 0) Q) : mWp mCd 95 (30, [some (.ref 5), some (.int x1), some (.int x2), some (.int x3), some (.int x4), some (.ref r5), none], [.ref q0], h, 0, 0) Q := by
  refine mWp_run 2 (t' := (33, [some (.ref 5), some (.int x1), some (.int x2), some (.int x3), some (.int x4), some (.ref r5), some (.ref q0)], [.int x2], h, 0, 0)) rfl ?_
  exact mWp_if (P := fun x => x < 0) (a := x2) rfl k1 k2
theorem b95_45 {h : mH} {Q : Option Value → mH → Prop} {x1 : Int32} {x2 : Int32} {x3 : Int32} {x4 : Int32} {r5 : Nat} {r6 : Nat}  (k : Q (some (.long (-4611686018427387904))) h) : mWp mCd 95 (45, [some (.ref 5), some (.int x1), some (.int x2), some (.int x3), some (.int x4), some (.ref r5), some (.ref r6)], [], h, 0, 0) Q := by
  refine mWp_run 1 (t' := (48, [some (.ref 5), some (.int x1), some (.int x2), some (.int x3), some (.int x4), some (.ref r5), some (.ref r6)], [.long (-4611686018427387904)], h, 0, 0)) rfl ?_
  exact mWp_r (v := (some (.long (-4611686018427387904)))) rfl k
theorem b95_36 {h : mH} {Q : Option Value → mH → Prop} {x1 : Int32} {x2 : Int32} {x3 : Int32} {x4 : Int32} {r5 : Nat} {r6 : Nat} {cc : Int32} {tw : Int32} (e1 : h[r6]? = some (oK r6 cc tw)) (k1 : x2 < cc → mWp mCd 95 (49, [some (.ref 5), some (.int x1), some (.int x2), some (.int x3), some (.int x4), some (.ref r5), some (.ref r6)], [], h, 0, 0) Q) (k2 : ¬ (x2 < cc) → mWp mCd 95 (45, [some (.ref 5), some (.int x1), some (.int x2), some (.int x3), some (.int x4), some (.ref r5), some (.ref r6)], [], h, 0, 0) Q) : mWp mCd 95 (36, [some (.ref 5), some (.int x1), some (.int x2), some (.int x3), some (.int x4), some (.ref r5), some (.ref r6)], [], h, 0, 0) Q := by
  refine mWp_run 2 (t' := (39, [some (.ref 5), some (.int x1), some (.int x2), some (.int x3), some (.int x4), some (.ref r5), some (.ref r6)], [.ref r6, .int x2], h, 0, 0)) rfl ?_
  refine mWp_gf rfl e1 rfl rfl ?_
  exact mWp_ic (P := fun x y => x < y) (a := x2) (b := cc) rfl k1 k2
theorem b95_49 {h : mH} {Q : Option Value → mH → Prop} {x1 : Int32} {x2 : Int32} {x3 : Int32} {x4 : Int32} {r5 : Nat} {r6 : Nat} {cc : Int32} {tw : Int32} (e1 : h[r6]? = some (oK r6 cc tw)) (k : mCt mCd 1 [.ref r6, .int x2, .int x3] h (fun r1 h1 => mWp mCd 95 (56, [some (.ref 5), some (.int x1), some (.int x2), some (.int x3), some (.int x4), some (.ref r5), some (.ref r6)], r1.toList ++ [], h1, 0, 0) Q)) : mWp mCd 95 (49, [some (.ref 5), some (.int x1), some (.int x2), some (.int x3), some (.int x4), some (.ref r5), some (.ref r6)], [], h, 0, 0) Q := by
  refine mWp_run 3 (t' := (53, [some (.ref 5), some (.int x1), some (.int x2), some (.int x3), some (.int x4), some (.ref r5), some (.ref r6)], [.int x3, .int x2, .ref r6], h, 0, 0)) rfl ?_
  exact mWp_iv rfl rfl e1 rfl rfl rfl rfl k
theorem b95_56 {h : mH} {Q : Option Value → mH → Prop} {x1 : Int32} {x2 : Int32} {x3 : Int32} {x4 : Int32} {r5 : Nat} {r6 : Nat} {u0 : Int32}  (k : mCt mCd 134 [.long (Int32.toInt64 u0), .long 2, .int x4] h (fun r1 h1 => mWp mCd 95 (65, [some (.ref 5), some (.int x1), some (.int x2), some (.int x3), some (.int x4), some (.ref r5), some (.ref r6)], r1.toList ++ [], h1, 0, 0) Q)) : mWp mCd 95 (56, [some (.ref 5), some (.int x1), some (.int x2), some (.int x3), some (.int x4), some (.ref r5), some (.ref r6)], [.int u0], h, 0, 0) Q := by
  refine mWp_run 3 (t' := (62, [some (.ref 5), some (.int x1), some (.int x2), some (.int x3), some (.int x4), some (.ref r5), some (.ref r6)], [.int x4, .long 2, .long (Int32.toInt64 u0)], h, 0, 0)) rfl ?_
  exact mWp_is rfl rfl rfl rfl rfl k
theorem b95_65 {h : mH} {Q : Option Value → mH → Prop} {x1 : Int32} {x2 : Int32} {x3 : Int32} {x4 : Int32} {r5 : Nat} {r6 : Nat} {w0 : Int64}  (k : Q (some (.long w0)) h) : mWp mCd 95 (65, [some (.ref 5), some (.int x1), some (.int x2), some (.int x3), some (.int x4), some (.ref r5), some (.ref r6)], [.long w0], h, 0, 0) Q := by
  exact mWp_r (v := (some (.long w0))) rfl k
theorem b96_0 {h : mH} {Q : Option Value → mH → Prop} {x1 : Int32} {x2 : Int32} {x3 : Int32} {x4 : Int32} {vc : Int32} (e1 : h[5]? = some (oJ vc)) (k : mCt mCd 114 [.ref 5, .int x1] h (fun r1 h1 => mWp mCd 96 (5, [some (.ref 5), some (.int x1), some (.int x2), some (.int x3), some (.int x4), none, none], r1.toList ++ [], h1, 0, 0) Q)) : mWp mCd 96 (0, [some (.ref 5), some (.int x1), some (.int x2), some (.int x3), some (.int x4), none, none], [], h, 0, 0) Q := by
  refine mWp_run 2 (t' := (2, [some (.ref 5), some (.int x1), some (.int x2), some (.int x3), some (.int x4), none, none], [.int x1, .ref 5], h, 0, 0)) rfl ?_
  exact mWp_iv rfl rfl e1 rfl rfl rfl rfl k
theorem b96_5 {h : mH} {Q : Option Value → mH → Prop} {x1 : Int32} {x2 : Int32} {x3 : Int32} {x4 : Int32}  (k : Q (some (.long (-4611686018427387904))) h) : mWp mCd 96 (5, [some (.ref 5), some (.int x1), some (.int x2), some (.int x3), some (.int x4), none, none], [.null], h, 0, 0) Q := by
  refine mWp_run 4 (t' := (31, [some (.ref 5), some (.int x1), some (.int x2), some (.int x3), some (.int x4), some (.null), none], [.long (-4611686018427387904)], h, 0, 0)) rfl ?_
  exact mWp_r (v := (some (.long (-4611686018427387904)))) rfl k
theorem b96_5_1 {h : mH} {Q : Option Value → mH → Prop} {x1 : Int32} {x2 : Int32} {x3 : Int32} {x4 : Int32} {q0 : Nat} {ci : Nat} {num : Int32} {n : Int32} {fd : Int32} (hc : [1, 2, 4, 6, 8].contains ci = true) (e2 : h[q0]? = some (oV ci q0 num n fd)) (k : mCt mCd 43 [.ref q0, .int x2] h (fun r1 h1 => mWp mCd 96 (18, [some (.ref 5), some (.int x1), some (.int x2), some (.int x3), some (.int x4), some (.ref q0), none], r1.toList ++ [], h1, 0, 0) Q)) : mWp mCd 96 (5, [some (.ref 5), some (.int x1), some (.int x2), some (.int x3), some (.int x4), none, none], [.ref q0], h, 0, 0) Q := by
  refine mWp_run 5 (t' := (15, [some (.ref 5), some (.int x1), some (.int x2), some (.int x3), some (.int x4), some (.ref q0), none], [.int x2, .ref q0], h, 0, 0)) rfl ?_
  exact mWp_iv rfl rfl e2 (mS5 hc) rfl rfl rfl k
theorem b96_18 {h : mH} {Q : Option Value → mH → Prop} {x1 : Int32} {x2 : Int32} {x3 : Int32} {x4 : Int32} {r5 : Nat} {u0 : Int32}  (k1 : u0 = 0 → mWp mCd 96 (28, [some (.ref 5), some (.int x1), some (.int x2), some (.int x3), some (.int x4), some (.ref r5), none], [], h, 0, 0) Q) (k2 : ¬ (u0 = 0) → mWp mCd 96 (21, [some (.ref 5), some (.int x1), some (.int x2), some (.int x3), some (.int x4), some (.ref r5), none], [], h, 0, 0) Q) : mWp mCd 96 (18, [some (.ref 5), some (.int x1), some (.int x2), some (.int x3), some (.int x4), some (.ref r5), none], [.int u0], h, 0, 0) Q := by
  exact mWp_if (P := fun x => x = 0) (a := u0) rfl k1 k2
theorem b96_28 {h : mH} {Q : Option Value → mH → Prop} {x1 : Int32} {x2 : Int32} {x3 : Int32} {x4 : Int32} {r5 : Nat}  (k : Q (some (.long (-4611686018427387904))) h) : mWp mCd 96 (28, [some (.ref 5), some (.int x1), some (.int x2), some (.int x3), some (.int x4), some (.ref r5), none], [], h, 0, 0) Q := by
  refine mWp_run 1 (t' := (31, [some (.ref 5), some (.int x1), some (.int x2), some (.int x3), some (.int x4), some (.ref r5), none], [.long (-4611686018427387904)], h, 0, 0)) rfl ?_
  exact mWp_r (v := (some (.long (-4611686018427387904)))) rfl k
theorem b96_21 {h : mH} {Q : Option Value → mH → Prop} {x1 : Int32} {x2 : Int32} {x3 : Int32} {x4 : Int32} {r5 : Nat}  (k : mCt mCd 122 [.int x3] h (fun r1 h1 => mWp mCd 96 (25, [some (.ref 5), some (.int x1), some (.int x2), some (.int x3), some (.int x4), some (.ref r5), none], r1.toList ++ [], h1, 0, 0) Q)) : mWp mCd 96 (21, [some (.ref 5), some (.int x1), some (.int x2), some (.int x3), some (.int x4), some (.ref r5), none], [], h, 0, 0) Q := by
  refine mWp_run 1 (t' := (22, [some (.ref 5), some (.int x1), some (.int x2), some (.int x3), some (.int x4), some (.ref r5), none], [.int x3], h, 0, 0)) rfl ?_
  exact mWp_is rfl rfl rfl rfl rfl k
theorem b96_25 {h : mH} {Q : Option Value → mH → Prop} {x1 : Int32} {x2 : Int32} {x3 : Int32} {x4 : Int32} {r5 : Nat} {u0 : Int32}  (k1 : ¬ u0 = 0 → mWp mCd 96 (32, [some (.ref 5), some (.int x1), some (.int x2), some (.int x3), some (.int x4), some (.ref r5), none], [], h, 0, 0) Q) (k2 : ¬ (¬ u0 = 0) → mWp mCd 96 (28, [some (.ref 5), some (.int x1), some (.int x2), some (.int x3), some (.int x4), some (.ref r5), none], [], h, 0, 0) Q) : mWp mCd 96 (25, [some (.ref 5), some (.int x1), some (.int x2), some (.int x3), some (.int x4), some (.ref r5), none], [.int u0], h, 0, 0) Q := by
  exact mWp_if (P := fun x => ¬ x = 0) (a := u0) rfl k1 k2
theorem b96_32 {h : mH} {Q : Option Value → mH → Prop} {x1 : Int32} {x2 : Int32} {x3 : Int32} {x4 : Int32} {r5 : Nat} {ci : Nat} {num : Int32} {n : Int32} {fd : Int32} (hc : [1, 2, 4, 6, 8].contains ci = true) (e2 : h[r5]? = some (oV ci r5 num n fd)) (k : mCt mCd 49 [.ref r5] h (fun r1 h1 => mWp mCd 96 (37, [some (.ref 5), some (.int x1), some (.int x2), some (.int x3), some (.int x4), some (.ref r5), none], r1.toList ++ [], h1, 0, 0) Q)) : mWp mCd 96 (32, [some (.ref 5), some (.int x1), some (.int x2), some (.int x3), some (.int x4), some (.ref r5), none], [], h, 0, 0) Q := by
  refine mWp_run 1 (t' := (34, [some (.ref 5), some (.int x1), some (.int x2), some (.int x3), some (.int x4), some (.ref r5), none], [.ref r5], h, 0, 0)) rfl ?_
  exact mWp_iv rfl rfl e2 (mS5 hc) rfl rfl rfl k
theorem b96_37 {h : mH} {Q : Option Value → mH → Prop} {x1 : Int32} {x2 : Int32} {x3 : Int32} {x4 : Int32} {r5 : Nat} {q0 : Nat} {cc : Int32} {tw : Int32} (e1 : h[q0]? = some (oK q0 cc tw)) (k1 : ¬ cc = 0 → mWp mCd 96 (51, [some (.ref 5), some (.int x1), some (.int x2), some (.int x3), some (.int x4), some (.ref r5), some (.ref q0)], [], h, 0, 0) Q) (k2 : ¬ (¬ cc = 0) → mWp mCd 96 (47, [some (.ref 5), some (.int x1), some (.int x2), some (.int x3), some (.int x4), some (.ref r5), some (.ref q0)], [], h, 0, 0) Q) : mWp mCd 96 (37, [some (.ref 5), some (.int x1), some (.int x2), some (.int x3), some (.int x4), some (.ref r5), none], [.ref q0], h, 0, 0) Q := by
  refine mWp_run 2 (t' := (41, [some (.ref 5), some (.int x1), some (.int x2), some (.int x3), some (.int x4), some (.ref r5), some (.ref q0)], [.ref q0], h, 0, 0)) rfl ?_
  refine mWp_gf rfl e1 rfl rfl ?_
  exact mWp_if (P := fun x => ¬ x = 0) (a := cc) rfl k1 k2
theorem b96_51 {h : mH} {Q : Option Value → mH → Prop} {x1 : Int32} {x2 : Int32} {x3 : Int32} {x4 : Int32} {r5 : Nat} {r6 : Nat}  (k1 : ¬ x3 = 1 → mWp mCd 96 (63, [some (.ref 5), some (.int x1), some (.int x2), some (.int x3), some (.int x4), some (.ref r5), some (.ref r6)], [.int x2, .ref r6], h, 0, 0) Q) (k2 : ¬ (¬ x3 = 1) → mWp mCd 96 (59, [some (.ref 5), some (.int x1), some (.int x2), some (.int x3), some (.int x4), some (.ref r5), some (.ref r6)], [.int x2, .ref r6], h, 0, 0) Q) : mWp mCd 96 (51, [some (.ref 5), some (.int x1), some (.int x2), some (.int x3), some (.int x4), some (.ref r5), some (.ref r6)], [], h, 0, 0) Q := by
  refine mWp_run 4 (t' := (56, [some (.ref 5), some (.int x1), some (.int x2), some (.int x3), some (.int x4), some (.ref r5), some (.ref r6)], [.int 1, .int x3, .int x2, .ref r6], h, 0, 0)) rfl ?_
  exact mWp_ic (P := fun x y => ¬ x = y) (a := x3) (b := 1) rfl k1 k2
theorem b96_47 {h : mH} {Q : Option Value → mH → Prop} {x1 : Int32} {x2 : Int32} {x3 : Int32} {x4 : Int32} {r5 : Nat} {r6 : Nat}  (k : Q (some (.long (-4611686018427387904))) h) : mWp mCd 96 (47, [some (.ref 5), some (.int x1), some (.int x2), some (.int x3), some (.int x4), some (.ref r5), some (.ref r6)], [], h, 0, 0) Q := by
  refine mWp_run 1 (t' := (50, [some (.ref 5), some (.int x1), some (.int x2), some (.int x3), some (.int x4), some (.ref r5), some (.ref r6)], [.long (-4611686018427387904)], h, 0, 0)) rfl ?_
  exact mWp_r (v := (some (.long (-4611686018427387904)))) rfl k
theorem b96_63 {h : mH} {Q : Option Value → mH → Prop} {x1 : Int32} {x2 : Int32} {x3 : Int32} {x4 : Int32} {r5 : Nat} {r6 : Nat} {u0 : Int32} {q1 : Nat}  (k : mWp mCd 96 (64, [some (.ref 5), some (.int x1), some (.int x2), some (.int x3), some (.int x4), some (.ref r5), some (.ref r6)], [.int 0, .int u0, .ref q1], h, 0, 0) Q) : mWp mCd 96 (63, [some (.ref 5), some (.int x1), some (.int x2), some (.int x3), some (.int x4), some (.ref r5), some (.ref r6)], [.int u0, .ref q1], h, 0, 0) Q := by
  refine mWp_run 1 (t' := (64, [some (.ref 5), some (.int x1), some (.int x2), some (.int x3), some (.int x4), some (.ref r5), some (.ref r6)], [.int 0, .int u0, .ref q1], h, 0, 0)) rfl ?_
  exact k
theorem b96_59 {h : mH} {Q : Option Value → mH → Prop} {x1 : Int32} {x2 : Int32} {x3 : Int32} {x4 : Int32} {r5 : Nat} {r6 : Nat} {u0 : Int32} {q1 : Nat}  (k : mWp mCd 96 (64, [some (.ref 5), some (.int x1), some (.int x2), some (.int x3), some (.int x4), some (.ref r5), some (.ref r6)], [.int 1, .int u0, .ref q1], h, 0, 0) Q) : mWp mCd 96 (59, [some (.ref 5), some (.int x1), some (.int x2), some (.int x3), some (.int x4), some (.ref r5), some (.ref r6)], [.int u0, .ref q1], h, 0, 0) Q := by
  refine mWp_run 2 (t' := (64, [some (.ref 5), some (.int x1), some (.int x2), some (.int x3), some (.int x4), some (.ref r5), some (.ref r6)], [.int 1, .int u0, .ref q1], h, 0, 0)) rfl ?_
  exact k
theorem b96_64 {h : mH} {Q : Option Value → mH → Prop} {x1 : Int32} {x2 : Int32} {x3 : Int32} {x4 : Int32} {r5 : Nat} {r6 : Nat} {u0 : Int32} {u1 : Int32} {q2 : Nat} {cc : Int32} {tw : Int32} (e1 : h[q2]? = some (oK q2 cc tw)) (k : mCt mCd 2 [.ref q2, .int u1, .int u0] h (fun r1 h1 => mWp mCd 96 (67, [some (.ref 5), some (.int x1), some (.int x2), some (.int x3), some (.int x4), some (.ref r5), some (.ref r6)], r1.toList ++ [], h1, 0, 0) Q)) : mWp mCd 96 (64, [some (.ref 5), some (.int x1), some (.int x2), some (.int x3), some (.int x4), some (.ref r5), some (.ref r6)], [.int u0, .int u1, .ref q2], h, 0, 0) Q := by
  exact mWp_iv rfl rfl e1 rfl rfl rfl rfl k
theorem b96_67 {h : mH} {Q : Option Value → mH → Prop} {x1 : Int32} {x2 : Int32} {x3 : Int32} {x4 : Int32} {r5 : Nat} {r6 : Nat} {u0 : Int32}  (k : mCt mCd 134 [.long (Int32.toInt64 u0), .long 2, .int x4] h (fun r1 h1 => mWp mCd 96 (76, [some (.ref 5), some (.int x1), some (.int x2), some (.int x3), some (.int x4), some (.ref r5), some (.ref r6)], r1.toList ++ [], h1, 0, 0) Q)) : mWp mCd 96 (67, [some (.ref 5), some (.int x1), some (.int x2), some (.int x3), some (.int x4), some (.ref r5), some (.ref r6)], [.int u0], h, 0, 0) Q := by
  refine mWp_run 3 (t' := (73, [some (.ref 5), some (.int x1), some (.int x2), some (.int x3), some (.int x4), some (.ref r5), some (.ref r6)], [.int x4, .long 2, .long (Int32.toInt64 u0)], h, 0, 0)) rfl ?_
  exact mWp_is rfl rfl rfl rfl rfl k
theorem b96_76 {h : mH} {Q : Option Value → mH → Prop} {x1 : Int32} {x2 : Int32} {x3 : Int32} {x4 : Int32} {r5 : Nat} {r6 : Nat} {w0 : Int64}  (k : Q (some (.long w0)) h) : mWp mCd 96 (76, [some (.ref 5), some (.int x1), some (.int x2), some (.int x3), some (.int x4), some (.ref r5), some (.ref r6)], [.long w0], h, 0, 0) Q := by
  exact mWp_r (v := (some (.long w0))) rfl k
theorem b97_0 {h : mH} {Q : Option Value → mH → Prop} {x1 : Int32} {x2 : Int32} {vc : Int32} (e1 : h[5]? = some (oJ vc)) (k : mCt mCd 114 [.ref 5, .int x1] h (fun r1 h1 => mWp mCd 97 (5, [some (.ref 5), some (.int x1), some (.int x2), none, none, none], r1.toList ++ [], h1, 0, 0) Q)) : mWp mCd 97 (0, [some (.ref 5), some (.int x1), some (.int x2), none, none, none], [], h, 0, 0) Q := by
  refine mWp_run 2 (t' := (2, [some (.ref 5), some (.int x1), some (.int x2), none, none, none], [.int x1, .ref 5], h, 0, 0)) rfl ?_
  exact mWp_iv rfl rfl e1 rfl rfl rfl rfl k
theorem b97_5 {h : mH} {Q : Option Value → mH → Prop} {x1 : Int32} {x2 : Int32}  (k : Q (some (.long (-4611686018427387904))) h) : mWp mCd 97 (5, [some (.ref 5), some (.int x1), some (.int x2), none, none, none], [.null], h, 0, 0) Q := by
  refine mWp_run 4 (t' := (21, [some (.ref 5), some (.int x1), some (.int x2), some (.null), none, none], [.long (-4611686018427387904)], h, 0, 0)) rfl ?_
  exact mWp_r (v := (some (.long (-4611686018427387904)))) rfl k
theorem b97_5_1 {h : mH} {Q : Option Value → mH → Prop} {x1 : Int32} {x2 : Int32} {q0 : Nat} {ci : Nat} {num : Int32} {n : Int32} {fd : Int32} (hc : [1, 2, 4, 6, 8].contains ci = true) (e2 : h[q0]? = some (oV ci q0 num n fd)) (k1 : ¬ n = 1 → mWp mCd 97 (22, [some (.ref 5), some (.int x1), some (.int x2), some (.ref q0), none, none], [], h, 0, 0) Q) (k2 : ¬ (¬ n = 1) → mWp mCd 97 (18, [some (.ref 5), some (.int x1), some (.int x2), some (.ref q0), none, none], [], h, 0, 0) Q) : mWp mCd 97 (5, [some (.ref 5), some (.int x1), some (.int x2), none, none, none], [.ref q0], h, 0, 0) Q := by
  refine mWp_run 4 (t' := (11, [some (.ref 5), some (.int x1), some (.int x2), some (.ref q0), none, none], [.ref q0], h, 0, 0)) rfl ?_
  refine mWp_gf rfl e2 hc rfl ?_
  refine mWp_run 1 (t' := (15, [some (.ref 5), some (.int x1), some (.int x2), some (.ref q0), none, none], [.int 1, .int n], h, 0, 0)) rfl ?_
  exact mWp_ic (P := fun x y => ¬ x = y) (a := n) (b := 1) rfl k1 k2
theorem b97_22 {h : mH} {Q : Option Value → mH → Prop} {x1 : Int32} {x2 : Int32} {r3 : Nat} {ci : Nat} {num : Int32} {n : Int32} {fd : Int32} (hc : [1, 2, 4, 6, 8].contains ci = true) (e2 : h[r3]? = some (oV ci r3 num n fd)) (k : mCt mCd 67 [.ref r3] h (fun r1 h1 => mWp mCd 97 (26, [some (.ref 5), some (.int x1), some (.int x2), some (.ref r3), none, none], r1.toList ++ [], h1, 0, 0) Q)) : mWp mCd 97 (22, [some (.ref 5), some (.int x1), some (.int x2), some (.ref r3), none, none], [], h, 0, 0) Q := by
  refine mWp_run 1 (t' := (23, [some (.ref 5), some (.int x1), some (.int x2), some (.ref r3), none, none], [.ref r3], h, 0, 0)) rfl ?_
  exact mWp_iv rfl rfl e2 (mS5 hc) rfl rfl rfl k
theorem b97_18 {h : mH} {Q : Option Value → mH → Prop} {x1 : Int32} {x2 : Int32} {r3 : Nat}  (k : Q (some (.long (-4611686018427387904))) h) : mWp mCd 97 (18, [some (.ref 5), some (.int x1), some (.int x2), some (.ref r3), none, none], [], h, 0, 0) Q := by
  refine mWp_run 1 (t' := (21, [some (.ref 5), some (.int x1), some (.int x2), some (.ref r3), none, none], [.long (-4611686018427387904)], h, 0, 0)) rfl ?_
  exact mWp_r (v := (some (.long (-4611686018427387904)))) rfl k
theorem b97_26 {h : mH} {Q : Option Value → mH → Prop} {x1 : Int32} {x2 : Int32} {r3 : Nat} {w0 : Int64} {ci : Nat} {num : Int32} {n : Int32} {fd : Int32} (hc : [1, 2, 4, 6, 8].contains ci = true) (e2 : h[r3]? = some (oV ci r3 num n fd)) (k : mCt mCd 68 [.ref r3, .long w0] h (fun r1 h1 => mWp mCd 97 (34, [some (.ref 5), some (.int x1), some (.int x2), some (.ref r3), some (.long w0), none], r1.toList ++ [], h1, 0, 0) Q)) : mWp mCd 97 (26, [some (.ref 5), some (.int x1), some (.int x2), some (.ref r3), none, none], [.long w0], h, 0, 0) Q := by
  refine mWp_run 3 (t' := (31, [some (.ref 5), some (.int x1), some (.int x2), some (.ref r3), some (.long w0), none], [.long w0, .ref r3], h, 0, 0)) rfl ?_
  exact mWp_iv rfl rfl e2 (mS5 hc) rfl rfl rfl k
theorem b97_34 {h : mH} {Q : Option Value → mH → Prop} {x1 : Int32} {x2 : Int32} {r3 : Nat} {y4 : Int64} {u0 : Int32}  (k : mCt mCd 133 [.long y4] h (fun r1 h1 => mWp mCd 97 (40, [some (.ref 5), some (.int x1), some (.int x2), some (.ref r3), some (.long y4), none], r1.toList ++ [.long (Int32.toInt64 u0)], h1, 0, 0) Q)) : mWp mCd 97 (34, [some (.ref 5), some (.int x1), some (.int x2), some (.ref r3), some (.long y4), none], [.int u0], h, 0, 0) Q := by
  refine mWp_run 2 (t' := (37, [some (.ref 5), some (.int x1), some (.int x2), some (.ref r3), some (.long y4), none], [.long y4, .long (Int32.toInt64 u0)], h, 0, 0)) rfl ?_
  exact mWp_is rfl rfl rfl rfl rfl k
theorem b97_40 {h : mH} {Q : Option Value → mH → Prop} {x1 : Int32} {x2 : Int32} {r3 : Nat} {y4 : Int64} {u0 : Int32} {w1 : Int64}  (k : mCt mCd 134 [.long w1, .long (Int32.toInt64 u0), .int x2] h (fun r1 h1 => mWp mCd 97 (45, [some (.ref 5), some (.int x1), some (.int x2), some (.ref r3), some (.long y4), none], r1.toList ++ [], h1, 0, 0) Q)) : mWp mCd 97 (40, [some (.ref 5), some (.int x1), some (.int x2), some (.ref r3), some (.long y4), none], [.int u0, .long w1], h, 0, 0) Q := by
  refine mWp_run 2 (t' := (42, [some (.ref 5), some (.int x1), some (.int x2), some (.ref r3), some (.long y4), none], [.int x2, .long (Int32.toInt64 u0), .long w1], h, 0, 0)) rfl ?_
  exact mWp_is rfl rfl rfl rfl rfl k
theorem b97_45 {h : mH} {Q : Option Value → mH → Prop} {x1 : Int32} {x2 : Int32} {r3 : Nat} {y4 : Int64} {w0 : Int64}  (k : Q (some (.long w0)) h) : mWp mCd 97 (45, [some (.ref 5), some (.int x1), some (.int x2), some (.ref r3), some (.long y4), none], [.long w0], h, 0, 0) Q := by
  exact mWp_r (v := (some (.long w0))) rfl k
theorem b98_0 {h : mH} {Q : Option Value → mH → Prop} {x1 : Int32} {x2 : Int32} {x3 : Int32} {vc : Int32} (e1 : h[5]? = some (oJ vc)) (k : mCt mCd 114 [.ref 5, .int x1] h (fun r1 h1 => mWp mCd 98 (5, [some (.ref 5), some (.int x1), some (.int x2), some (.int x3), none], r1.toList ++ [], h1, 0, 0) Q)) : mWp mCd 98 (0, [some (.ref 5), some (.int x1), some (.int x2), some (.int x3), none], [], h, 0, 0) Q := by
  refine mWp_run 2 (t' := (2, [some (.ref 5), some (.int x1), some (.int x2), some (.int x3), none], [.int x1, .ref 5], h, 0, 0)) rfl ?_
  exact mWp_iv rfl rfl e1 rfl rfl rfl rfl k
theorem b98_5 {h : mH} {Q : Option Value → mH → Prop} {x1 : Int32} {x2 : Int32} {x3 : Int32}  (k : Q (some (.long (-4611686018427387904))) h) : mWp mCd 98 (5, [some (.ref 5), some (.int x1), some (.int x2), some (.int x3), none], [.null], h, 0, 0) Q := by
  refine mWp_run 4 (t' := (24, [some (.ref 5), some (.int x1), some (.int x2), some (.int x3), some (.null)], [.long (-4611686018427387904)], h, 0, 0)) rfl ?_
  exact mWp_r (v := (some (.long (-4611686018427387904)))) rfl k
theorem b98_5_1 {h : mH} {Q : Option Value → mH → Prop} {x1 : Int32} {x2 : Int32} {x3 : Int32} {q0 : Nat} {ci : Nat} {num : Int32} {n : Int32} {fd : Int32} (hc : [1, 2, 4, 6, 8].contains ci = true) (e2 : h[q0]? = some (oV ci q0 num n fd)) (k : mCt mCd 45 [.ref q0, .int x2] h (fun r1 h1 => mWp mCd 98 (18, [some (.ref 5), some (.int x1), some (.int x2), some (.int x3), some (.ref q0)], r1.toList ++ [], h1, 0, 0) Q)) : mWp mCd 98 (5, [some (.ref 5), some (.int x1), some (.int x2), some (.int x3), none], [.ref q0], h, 0, 0) Q := by
  refine mWp_run 5 (t' := (15, [some (.ref 5), some (.int x1), some (.int x2), some (.int x3), some (.ref q0)], [.int x2, .ref q0], h, 0, 0)) rfl ?_
  exact mWp_iv rfl rfl e2 (mS5 hc) rfl rfl rfl k
theorem b98_18 {h : mH} {Q : Option Value → mH → Prop} {x1 : Int32} {x2 : Int32} {x3 : Int32} {r4 : Nat} {u0 : Int32}  (k1 : ¬ u0 = 0 → mWp mCd 98 (25, [some (.ref 5), some (.int x1), some (.int x2), some (.int x3), some (.ref r4)], [], h, 0, 0) Q) (k2 : ¬ (¬ u0 = 0) → mWp mCd 98 (21, [some (.ref 5), some (.int x1), some (.int x2), some (.int x3), some (.ref r4)], [], h, 0, 0) Q) : mWp mCd 98 (18, [some (.ref 5), some (.int x1), some (.int x2), some (.int x3), some (.ref r4)], [.int u0], h, 0, 0) Q := by
  exact mWp_if (P := fun x => ¬ x = 0) (a := u0) rfl k1 k2
theorem b98_25 {h : mH} {Q : Option Value → mH → Prop} {x1 : Int32} {x2 : Int32} {x3 : Int32} {r4 : Nat} {ci : Nat} {num : Int32} {n : Int32} {fd : Int32} (hc : [1, 2, 4, 6, 8].contains ci = true) (e2 : h[r4]? = some (oV ci r4 num n fd)) (k : mCt mCd 67 [.ref r4] h (fun r1 h1 => mWp mCd 98 (30, [some (.ref 5), some (.int x1), some (.int x2), some (.int x3), some (.ref r4)], r1.toList ++ [], h1, 0, 0) Q)) : mWp mCd 98 (25, [some (.ref 5), some (.int x1), some (.int x2), some (.int x3), some (.ref r4)], [], h, 0, 0) Q := by
  refine mWp_run 1 (t' := (27, [some (.ref 5), some (.int x1), some (.int x2), some (.int x3), some (.ref r4)], [.ref r4], h, 0, 0)) rfl ?_
  exact mWp_iv rfl rfl e2 (mS5 hc) rfl rfl rfl k
theorem b98_21 {h : mH} {Q : Option Value → mH → Prop} {x1 : Int32} {x2 : Int32} {x3 : Int32} {r4 : Nat}  (k : Q (some (.long (-4611686018427387904))) h) : mWp mCd 98 (21, [some (.ref 5), some (.int x1), some (.int x2), some (.int x3), some (.ref r4)], [], h, 0, 0) Q := by
  refine mWp_run 1 (t' := (24, [some (.ref 5), some (.int x1), some (.int x2), some (.int x3), some (.ref r4)], [.long (-4611686018427387904)], h, 0, 0)) rfl ?_
  exact mWp_r (v := (some (.long (-4611686018427387904)))) rfl k
theorem b98_30 {h : mH} {Q : Option Value → mH → Prop} {x1 : Int32} {x2 : Int32} {x3 : Int32} {r4 : Nat} {w0 : Int64}  (k : mCt mCd 132 [.long w0, .int x2] h (fun r1 h1 => mWp mCd 98 (34, [some (.ref 5), some (.int x1), some (.int x2), some (.int x3), some (.ref r4)], r1.toList ++ [], h1, 0, 0) Q)) : mWp mCd 98 (30, [some (.ref 5), some (.int x1), some (.int x2), some (.int x3), some (.ref r4)], [.long w0], h, 0, 0) Q := by
  refine mWp_run 1 (t' := (31, [some (.ref 5), some (.int x1), some (.int x2), some (.int x3), some (.ref r4)], [.int x2, .long w0], h, 0, 0)) rfl ?_
  exact mWp_is rfl rfl rfl rfl rfl k
theorem b98_34 {h : mH} {Q : Option Value → mH → Prop} {x1 : Int32} {x2 : Int32} {x3 : Int32} {r4 : Nat} {u0 : Int32}  (k : mCt mCd 134 [.long (Int32.toInt64 u0), .long 6, .int x3] h (fun r1 h1 => mWp mCd 98 (42, [some (.ref 5), some (.int x1), some (.int x2), some (.int x3), some (.ref r4)], r1.toList ++ [], h1, 0, 0) Q)) : mWp mCd 98 (34, [some (.ref 5), some (.int x1), some (.int x2), some (.int x3), some (.ref r4)], [.int u0], h, 0, 0) Q := by
  refine mWp_run 3 (t' := (39, [some (.ref 5), some (.int x1), some (.int x2), some (.int x3), some (.ref r4)], [.int x3, .long 6, .long (Int32.toInt64 u0)], h, 0, 0)) rfl ?_
  exact mWp_is rfl rfl rfl rfl rfl k
theorem b98_42 {h : mH} {Q : Option Value → mH → Prop} {x1 : Int32} {x2 : Int32} {x3 : Int32} {r4 : Nat} {w0 : Int64}  (k : Q (some (.long w0)) h) : mWp mCd 98 (42, [some (.ref 5), some (.int x1), some (.int x2), some (.int x3), some (.ref r4)], [.long w0], h, 0, 0) Q := by
  exact mWp_r (v := (some (.long w0))) rfl k
theorem b99_0 {h : mH} {Q : Option Value → mH → Prop} {x1 : Int32} {vc : Int32} (e1 : h[5]? = some (oJ vc)) (k : mCt mCd 114 [.ref 5, .int x1] h (fun r1 h1 => mWp mCd 99 (5, [some (.ref 5), some (.int x1), none], r1.toList ++ [], h1, 0, 0) Q)) : mWp mCd 99 (0, [some (.ref 5), some (.int x1), none], [], h, 0, 0) Q := by
  refine mWp_run 2 (t' := (2, [some (.ref 5), some (.int x1), none], [.int x1, .ref 5], h, 0, 0)) rfl ?_
  exact mWp_iv rfl rfl e1 rfl rfl rfl rfl k
theorem b99_5 {h : mH} {Q : Option Value → mH → Prop} {x1 : Int32}  (k : Q (some (.int (-2))) h) : mWp mCd 99 (5, [some (.ref 5), some (.int x1), none], [.null], h, 0, 0) Q := by
  refine mWp_run 5 (t' := (19, [some (.ref 5), some (.int x1), some (.null)], [.int (-2)], h, 0, 0)) rfl ?_
  exact mWp_r (v := (some (.int (-2)))) rfl k
theorem b99_5_1 {h : mH} {Q : Option Value → mH → Prop} {x1 : Int32} {q0 : Nat} {ci : Nat} {num : Int32} {n : Int32} {fd : Int32} (hc : [1, 2, 4, 6, 8].contains ci = true) (e2 : h[q0]? = some (oV ci q0 num n fd)) (k : mCt mCd 55 [.ref q0] h (fun r1 h1 => mWp mCd 99 (19, [some (.ref 5), some (.int x1), some (.ref q0)], r1.toList ++ [], h1, 0, 0) Q)) : mWp mCd 99 (5, [some (.ref 5), some (.int x1), none], [.ref q0], h, 0, 0) Q := by
  refine mWp_run 4 (t' := (16, [some (.ref 5), some (.int x1), some (.ref q0)], [.ref q0], h, 0, 0)) rfl ?_
  exact mWp_iv rfl rfl e2 (mS5 hc) rfl rfl rfl k
theorem b99_19 {h : mH} {Q : Option Value → mH → Prop} {x1 : Int32} {r2 : Nat} {u0 : Int32}  (k : Q (some (.int u0)) h) : mWp mCd 99 (19, [some (.ref 5), some (.int x1), some (.ref r2)], [.int u0], h, 0, 0) Q := by
  exact mWp_r (v := (some (.int u0))) rfl k
theorem b100_0 {h : mH} {Q : Option Value → mH → Prop} {x1 : Int32} {x2 : Int32} {x3 : Int32} {vc : Int32} (e1 : h[5]? = some (oJ vc)) (k : mCt mCd 114 [.ref 5, .int x1] h (fun r1 h1 => mWp mCd 100 (5, [some (.ref 5), some (.int x1), some (.int x2), some (.int x3), none], r1.toList ++ [], h1, 0, 0) Q)) : mWp mCd 100 (0, [some (.ref 5), some (.int x1), some (.int x2), some (.int x3), none], [], h, 0, 0) Q := by
  refine mWp_run 2 (t' := (2, [some (.ref 5), some (.int x1), some (.int x2), some (.int x3), none], [.int x1, .ref 5], h, 0, 0)) rfl ?_
  exact mWp_iv rfl rfl e1 rfl rfl rfl rfl k
theorem b100_5 {h : mH} {Q : Option Value → mH → Prop} {x1 : Int32} {x2 : Int32} {x3 : Int32}  (k : Q (some (.int (-2))) h) : mWp mCd 100 (5, [some (.ref 5), some (.int x1), some (.int x2), some (.int x3), none], [.null], h, 0, 0) Q := by
  refine mWp_run 4 (t' := (37, [some (.ref 5), some (.int x1), some (.int x2), some (.int x3), some (.null)], [.int (-2)], h, 0, 0)) rfl ?_
  exact mWp_r (v := (some (.int (-2)))) rfl k
theorem b100_5_1 {h : mH} {Q : Option Value → mH → Prop} {x1 : Int32} {x2 : Int32} {x3 : Int32} {q0 : Nat} {ci : Nat} {num : Int32} {n : Int32} {fd : Int32} (hc : [1, 2, 4, 6, 8].contains ci = true) (e2 : h[q0]? = some (oV ci q0 num n fd)) (k : mCt mCd 43 [.ref q0, .int x2] h (fun r1 h1 => mWp mCd 100 (18, [some (.ref 5), some (.int x1), some (.int x2), some (.int x3), some (.ref q0)], r1.toList ++ [], h1, 0, 0) Q)) : mWp mCd 100 (5, [some (.ref 5), some (.int x1), some (.int x2), some (.int x3), none], [.ref q0], h, 0, 0) Q := by
  refine mWp_run 5 (t' := (15, [some (.ref 5), some (.int x1), some (.int x2), some (.int x3), some (.ref q0)], [.int x2, .ref q0], h, 0, 0)) rfl ?_
  exact mWp_iv rfl rfl e2 (mS5 hc) rfl rfl rfl k
theorem b100_18 {h : mH} {Q : Option Value → mH → Prop} {x1 : Int32} {x2 : Int32} {x3 : Int32} {r4 : Nat} {u0 : Int32}  (k1 : u0 = 0 → mWp mCd 100 (35, [some (.ref 5), some (.int x1), some (.int x2), some (.int x3), some (.ref r4)], [], h, 0, 0) Q) (k2 : ¬ (u0 = 0) → mWp mCd 100 (21, [some (.ref 5), some (.int x1), some (.int x2), some (.int x3), some (.ref r4)], [], h, 0, 0) Q) : mWp mCd 100 (18, [some (.ref 5), some (.int x1), some (.int x2), some (.int x3), some (.ref r4)], [.int u0], h, 0, 0) Q := by
  exact mWp_if (P := fun x => x = 0) (a := u0) rfl k1 k2
theorem b100_35 {h : mH} {Q : Option Value → mH → Prop} {x1 : Int32} {x2 : Int32} {x3 : Int32} {r4 : Nat}  (k : Q (some (.int (-2))) h) : mWp mCd 100 (35, [some (.ref 5), some (.int x1), some (.int x2), some (.int x3), some (.ref r4)], [], h, 0, 0) Q := by
  refine mWp_run 1 (t' := (37, [some (.ref 5), some (.int x1), some (.int x2), some (.int x3), some (.ref r4)], [.int (-2)], h, 0, 0)) rfl ?_
  exact mWp_r (v := (some (.int (-2)))) rfl k
theorem b100_21 {h : mH} {Q : Option Value → mH → Prop} {x1 : Int32} {x2 : Int32} {x3 : Int32} {r4 : Nat} {ci : Nat} {num : Int32} {n : Int32} {fd : Int32} (hc : [1, 2, 4, 6, 8].contains ci = true) (e2 : h[r4]? = some (oV ci r4 num n fd)) (k : mCt mCd 43 [.ref r4, .int x3] h (fun r1 h1 => mWp mCd 100 (27, [some (.ref 5), some (.int x1), some (.int x2), some (.int x3), some (.ref r4)], r1.toList ++ [], h1, 0, 0) Q)) : mWp mCd 100 (21, [some (.ref 5), some (.int x1), some (.int x2), some (.int x3), some (.ref r4)], [], h, 0, 0) Q := by
  refine mWp_run 2 (t' := (24, [some (.ref 5), some (.int x1), some (.int x2), some (.int x3), some (.ref r4)], [.int x3, .ref r4], h, 0, 0)) rfl ?_
  exact mWp_iv rfl rfl e2 (mS5 hc) rfl rfl rfl k
theorem b100_27 {h : mH} {Q : Option Value → mH → Prop} {x1 : Int32} {x2 : Int32} {x3 : Int32} {r4 : Nat} {u0 : Int32}  (k1 : u0 = 0 → mWp mCd 100 (35, [some (.ref 5), some (.int x1), some (.int x2), some (.int x3), some (.ref r4)], [], h, 0, 0) Q) (k2 : ¬ (u0 = 0) → mWp mCd 100 (30, [some (.ref 5), some (.int x1), some (.int x2), some (.int x3), some (.ref r4)], [], h, 0, 0) Q) : mWp mCd 100 (27, [some (.ref 5), some (.int x1), some (.int x2), some (.int x3), some (.ref r4)], [.int u0], h, 0, 0) Q := by
  exact mWp_if (P := fun x => x = 0) (a := u0) rfl k1 k2
theorem b100_30 {h : mH} {Q : Option Value → mH → Prop} {x1 : Int32} {x2 : Int32} {x3 : Int32} {r4 : Nat}  (k1 : ¬ x2 = x3 → mWp mCd 100 (38, [some (.ref 5), some (.int x1), some (.int x2), some (.int x3), some (.ref r4)], [], h, 0, 0) Q) (k2 : ¬ (¬ x2 = x3) → mWp mCd 100 (35, [some (.ref 5), some (.int x1), some (.int x2), some (.int x3), some (.ref r4)], [], h, 0, 0) Q) : mWp mCd 100 (30, [some (.ref 5), some (.int x1), some (.int x2), some (.int x3), some (.ref r4)], [], h, 0, 0) Q := by
  refine mWp_run 2 (t' := (32, [some (.ref 5), some (.int x1), some (.int x2), some (.int x3), some (.ref r4)], [.int x3, .int x2], h, 0, 0)) rfl ?_
  exact mWp_ic (P := fun x y => ¬ x = y) (a := x2) (b := x3) rfl k1 k2
theorem b100_38 {h : mH} {Q : Option Value → mH → Prop} {x1 : Int32} {x2 : Int32} {x3 : Int32} {r4 : Nat} {ci : Nat} {num : Int32} {n : Int32} {fd : Int32} (hc : [1, 2, 4, 6, 8].contains ci = true) (e2 : h[r4]? = some (oV ci r4 num n fd)) (k : mCt mCd 53 [.ref r4, .int x2, .int x3] h (fun r1 h1 => mWp mCd 100 (45, [some (.ref 5), some (.int x1), some (.int x2), some (.int x3), some (.ref r4)], r1.toList ++ [], h1, 0, 0) Q)) : mWp mCd 100 (38, [some (.ref 5), some (.int x1), some (.int x2), some (.int x3), some (.ref r4)], [], h, 0, 0) Q := by
  refine mWp_run 3 (t' := (42, [some (.ref 5), some (.int x1), some (.int x2), some (.int x3), some (.ref r4)], [.int x3, .int x2, .ref r4], h, 0, 0)) rfl ?_
  exact mWp_iv rfl rfl e2 (mS5 hc) rfl rfl rfl k
theorem b100_45 {h : mH} {Q : Option Value → mH → Prop} {x1 : Int32} {x2 : Int32} {x3 : Int32} {r4 : Nat} {u0 : Int32}  (k1 : u0 = 0 → mWp mCd 100 (52, [some (.ref 5), some (.int x1), some (.int x2), some (.int x3), some (.ref r4)], [], h, 0, 0) Q) (k2 : ¬ (u0 = 0) → mWp mCd 100 (48, [some (.ref 5), some (.int x1), some (.int x2), some (.int x3), some (.ref r4)], [], h, 0, 0) Q) : mWp mCd 100 (45, [some (.ref 5), some (.int x1), some (.int x2), some (.int x3), some (.ref r4)], [.int u0], h, 0, 0) Q := by
  exact mWp_if (P := fun x => x = 0) (a := u0) rfl k1 k2
theorem b100_52 {h : mH} {Q : Option Value → mH → Prop} {x1 : Int32} {x2 : Int32} {x3 : Int32} {r4 : Nat}  (k : Q (some (.int 0)) h) : mWp mCd 100 (52, [some (.ref 5), some (.int x1), some (.int x2), some (.int x3), some (.ref r4)], [], h, 0, 0) Q := by
  refine mWp_run 1 (t' := (53, [some (.ref 5), some (.int x1), some (.int x2), some (.int x3), some (.ref r4)], [.int 0], h, 0, 0)) rfl ?_
  exact mWp_r (v := (some (.int 0))) rfl k
theorem b100_48 {h : mH} {Q : Option Value → mH → Prop} {x1 : Int32} {x2 : Int32} {x3 : Int32} {r4 : Nat}  (k : Q (some (.int 1)) h) : mWp mCd 100 (48, [some (.ref 5), some (.int x1), some (.int x2), some (.int x3), some (.ref r4)], [], h, 0, 0) Q := by
  refine mWp_run 2 (t' := (53, [some (.ref 5), some (.int x1), some (.int x2), some (.int x3), some (.ref r4)], [.int 1], h, 0, 0)) rfl ?_
  exact mWp_r (v := (some (.int 1))) rfl k
theorem b101_0 {h : mH} {Q : Option Value → mH → Prop} {x1 : Int32} {x2 : Int32} {x3 : Int32} {vc : Int32} (e1 : h[5]? = some (oJ vc)) (k : mCt mCd 114 [.ref 5, .int x1] h (fun r1 h1 => mWp mCd 101 (5, [some (.ref 5), some (.int x1), some (.int x2), some (.int x3), none], r1.toList ++ [], h1, 0, 0) Q)) : mWp mCd 101 (0, [some (.ref 5), some (.int x1), some (.int x2), some (.int x3), none], [], h, 0, 0) Q := by
  refine mWp_run 2 (t' := (2, [some (.ref 5), some (.int x1), some (.int x2), some (.int x3), none], [.int x1, .ref 5], h, 0, 0)) rfl ?_
  exact mWp_iv rfl rfl e1 rfl rfl rfl rfl k
theorem b101_5 {h : mH} {Q : Option Value → mH → Prop} {x1 : Int32} {x2 : Int32} {x3 : Int32}  (k : Q (some (.int (-2))) h) : mWp mCd 101 (5, [some (.ref 5), some (.int x1), some (.int x2), some (.int x3), none], [.null], h, 0, 0) Q := by
  refine mWp_run 4 (t' := (30, [some (.ref 5), some (.int x1), some (.int x2), some (.int x3), some (.null)], [.int (-2)], h, 0, 0)) rfl ?_
  exact mWp_r (v := (some (.int (-2)))) rfl k
theorem b101_5_1 {h : mH} {Q : Option Value → mH → Prop} {x1 : Int32} {x2 : Int32} {x3 : Int32} {q0 : Nat} {ci : Nat} {num : Int32} {n : Int32} {fd : Int32} (hc : [1, 2, 4, 6, 8].contains ci = true) (e2 : h[q0]? = some (oV ci q0 num n fd)) (k : mCt mCd 43 [.ref q0, .int x2] h (fun r1 h1 => mWp mCd 101 (18, [some (.ref 5), some (.int x1), some (.int x2), some (.int x3), some (.ref q0)], r1.toList ++ [], h1, 0, 0) Q)) : mWp mCd 101 (5, [some (.ref 5), some (.int x1), some (.int x2), some (.int x3), none], [.ref q0], h, 0, 0) Q := by
  refine mWp_run 5 (t' := (15, [some (.ref 5), some (.int x1), some (.int x2), some (.int x3), some (.ref q0)], [.int x2, .ref q0], h, 0, 0)) rfl ?_
  exact mWp_iv rfl rfl e2 (mS5 hc) rfl rfl rfl k
theorem b101_18 {h : mH} {Q : Option Value → mH → Prop} {x1 : Int32} {x2 : Int32} {x3 : Int32} {r4 : Nat} {u0 : Int32}  (k1 : u0 = 0 → mWp mCd 101 (28, [some (.ref 5), some (.int x1), some (.int x2), some (.int x3), some (.ref r4)], [], h, 0, 0) Q) (k2 : ¬ (u0 = 0) → mWp mCd 101 (21, [some (.ref 5), some (.int x1), some (.int x2), some (.int x3), some (.ref r4)], [], h, 0, 0) Q) : mWp mCd 101 (18, [some (.ref 5), some (.int x1), some (.int x2), some (.int x3), some (.ref r4)], [.int u0], h, 0, 0) Q := by
  exact mWp_if (P := fun x => x = 0) (a := u0) rfl k1 k2
theorem b101_28 {h : mH} {Q : Option Value → mH → Prop} {x1 : Int32} {x2 : Int32} {x3 : Int32} {r4 : Nat}  (k : Q (some (.int (-2))) h) : mWp mCd 101 (28, [some (.ref 5), some (.int x1), some (.int x2), some (.int x3), some (.ref r4)], [], h, 0, 0) Q := by
  refine mWp_run 1 (t' := (30, [some (.ref 5), some (.int x1), some (.int x2), some (.int x3), some (.ref r4)], [.int (-2)], h, 0, 0)) rfl ?_
  exact mWp_r (v := (some (.int (-2)))) rfl k
theorem b101_21 {h : mH} {Q : Option Value → mH → Prop} {x1 : Int32} {x2 : Int32} {x3 : Int32} {r4 : Nat}  (k : mCt mCd 122 [.int x3] h (fun r1 h1 => mWp mCd 101 (25, [some (.ref 5), some (.int x1), some (.int x2), some (.int x3), some (.ref r4)], r1.toList ++ [], h1, 0, 0) Q)) : mWp mCd 101 (21, [some (.ref 5), some (.int x1), some (.int x2), some (.int x3), some (.ref r4)], [], h, 0, 0) Q := by
  refine mWp_run 1 (t' := (22, [some (.ref 5), some (.int x1), some (.int x2), some (.int x3), some (.ref r4)], [.int x3], h, 0, 0)) rfl ?_
  exact mWp_is rfl rfl rfl rfl rfl k
theorem b101_25 {h : mH} {Q : Option Value → mH → Prop} {x1 : Int32} {x2 : Int32} {x3 : Int32} {r4 : Nat} {u0 : Int32}  (k1 : ¬ u0 = 0 → mWp mCd 101 (31, [some (.ref 5), some (.int x1), some (.int x2), some (.int x3), some (.ref r4)], [], h, 0, 0) Q) (k2 : ¬ (¬ u0 = 0) → mWp mCd 101 (28, [some (.ref 5), some (.int x1), some (.int x2), some (.int x3), some (.ref r4)], [], h, 0, 0) Q) : mWp mCd 101 (25, [some (.ref 5), some (.int x1), some (.int x2), some (.int x3), some (.ref r4)], [.int u0], h, 0, 0) Q := by
  exact mWp_if (P := fun x => ¬ x = 0) (a := u0) rfl k1 k2
theorem b101_31 {h : mH} {Q : Option Value → mH → Prop} {x1 : Int32} {x2 : Int32} {x3 : Int32} {r4 : Nat} {ci : Nat} {num : Int32} {n : Int32} {fd : Int32} {k101 : Nat} (hc : [1, 2, 4, 6, 8].contains ci = true) (e2 : h[r4]? = some (oV ci r4 num n fd)) (e3 : mSel [(1, 15, 0, 0), (2, 18, 0, 0), (4, 31, 0, 0), (6, 38, 0, 0), (8, 75, 0, 0)] ci = some (k101, 0, 0)) (k : mCt mCd k101 [.ref r4] h (fun r1 h1 => mWp mCd 101 (36, [some (.ref 5), some (.int x1), some (.int x2), some (.int x3), some (.ref r4)], r1.toList ++ [], h1, 0, 0) Q)) : mWp mCd 101 (31, [some (.ref 5), some (.int x1), some (.int x2), some (.int x3), some (.ref r4)], [], h, 0, 0) Q := by
  refine mWp_run 1 (t' := (33, [some (.ref 5), some (.int x1), some (.int x2), some (.int x3), some (.ref r4)], [.ref r4], h, 0, 0)) rfl ?_
  exact mWp_iv rfl rfl e2 e3 rfl rfl rfl k
theorem b101_36 {h : mH} {Q : Option Value → mH → Prop} {x1 : Int32} {x2 : Int32} {x3 : Int32} {r4 : Nat} {u0 : Int32}  (k1 : u0 = 1 → mWp mCd 101 (45, [some (.ref 5), some (.int x1), some (.int x2), some (.int x3), some (.ref r4)], [], h, 0, 0) Q) (k2 : ¬ (u0 = 1) → mWp mCd 101 (40, [some (.ref 5), some (.int x1), some (.int x2), some (.int x3), some (.ref r4)], [], h, 0, 0) Q) : mWp mCd 101 (36, [some (.ref 5), some (.int x1), some (.int x2), some (.int x3), some (.ref r4)], [.int u0], h, 0, 0) Q := by
  refine mWp_run 1 (t' := (37, [some (.ref 5), some (.int x1), some (.int x2), some (.int x3), some (.ref r4)], [.int 1, .int u0], h, 0, 0)) rfl ?_
  exact mWp_ic (P := fun x y => x = y) (a := u0) (b := 1) rfl k1 k2
theorem b101_45 {h : mH} {Q : Option Value → mH → Prop} {x1 : Int32} {x2 : Int32} {x3 : Int32} {r4 : Nat}  (k1 : ¬ x3 = 1 → mWp mCd 101 (57, [some (.ref 5), some (.int x1), some (.int x2), some (.int x3), some (.ref r4)], [.int x2, .ref r4], h, 0, 0) Q) (k2 : ¬ (¬ x3 = 1) → mWp mCd 101 (53, [some (.ref 5), some (.int x1), some (.int x2), some (.int x3), some (.ref r4)], [.int x2, .ref r4], h, 0, 0) Q) : mWp mCd 101 (45, [some (.ref 5), some (.int x1), some (.int x2), some (.int x3), some (.ref r4)], [], h, 0, 0) Q := by
  refine mWp_run 4 (t' := (50, [some (.ref 5), some (.int x1), some (.int x2), some (.int x3), some (.ref r4)], [.int 1, .int x3, .int x2, .ref r4], h, 0, 0)) rfl ?_
  exact mWp_ic (P := fun x y => ¬ x = y) (a := x3) (b := 1) rfl k1 k2
theorem b101_40 {h : mH} {Q : Option Value → mH → Prop} {x1 : Int32} {x2 : Int32} {x3 : Int32} {r4 : Nat}  (k : Q (some (.int (-3))) h) : mWp mCd 101 (40, [some (.ref 5), some (.int x1), some (.int x2), some (.int x3), some (.ref r4)], [], h, 0, 0) Q := by
  refine mWp_run 2 (t' := (61, [some (.ref 5), some (.int x1), some (.int x2), some (.int x3), some (.ref r4)], [.int (-3)], h, 0, 0)) rfl ?_
  exact mWp_r (v := (some (.int (-3)))) rfl k
theorem b101_57 {h : mH} {Q : Option Value → mH → Prop} {x1 : Int32} {x2 : Int32} {x3 : Int32} {r4 : Nat} {u0 : Int32} {q1 : Nat}  (k : mWp mCd 101 (58, [some (.ref 5), some (.int x1), some (.int x2), some (.int x3), some (.ref r4)], [.int 0, .int u0, .ref q1], h, 0, 0) Q) : mWp mCd 101 (57, [some (.ref 5), some (.int x1), some (.int x2), some (.int x3), some (.ref r4)], [.int u0, .ref q1], h, 0, 0) Q := by
  refine mWp_run 1 (t' := (58, [some (.ref 5), some (.int x1), some (.int x2), some (.int x3), some (.ref r4)], [.int 0, .int u0, .ref q1], h, 0, 0)) rfl ?_
  exact k
theorem b101_53 {h : mH} {Q : Option Value → mH → Prop} {x1 : Int32} {x2 : Int32} {x3 : Int32} {r4 : Nat} {u0 : Int32} {q1 : Nat}  (k : mWp mCd 101 (58, [some (.ref 5), some (.int x1), some (.int x2), some (.int x3), some (.ref r4)], [.int 1, .int u0, .ref q1], h, 0, 0) Q) : mWp mCd 101 (53, [some (.ref 5), some (.int x1), some (.int x2), some (.int x3), some (.ref r4)], [.int u0, .ref q1], h, 0, 0) Q := by
  refine mWp_run 2 (t' := (58, [some (.ref 5), some (.int x1), some (.int x2), some (.int x3), some (.ref r4)], [.int 1, .int u0, .ref q1], h, 0, 0)) rfl ?_
  exact k
theorem b101_58 {h : mH} {Q : Option Value → mH → Prop} {x1 : Int32} {x2 : Int32} {x3 : Int32} {r4 : Nat} {u0 : Int32} {u1 : Int32} {q2 : Nat} {ci : Nat} {num : Int32} {n : Int32} {fd : Int32} (hc : [1, 2, 4, 6, 8].contains ci = true) (e2 : h[q2]? = some (oV ci q2 num n fd)) (k : mCt mCd 58 [.ref q2, .int u1, .int u0] h (fun r1 h1 => mWp mCd 101 (61, [some (.ref 5), some (.int x1), some (.int x2), some (.int x3), some (.ref r4)], r1.toList ++ [], h1, 0, 0) Q)) : mWp mCd 101 (58, [some (.ref 5), some (.int x1), some (.int x2), some (.int x3), some (.ref r4)], [.int u0, .int u1, .ref q2], h, 0, 0) Q := by
  exact mWp_iv rfl rfl e2 (mS5 hc) rfl rfl rfl k
theorem b101_61 {h : mH} {Q : Option Value → mH → Prop} {x1 : Int32} {x2 : Int32} {x3 : Int32} {r4 : Nat} {u0 : Int32}  (k : Q (some (.int u0)) h) : mWp mCd 101 (61, [some (.ref 5), some (.int x1), some (.int x2), some (.int x3), some (.ref r4)], [.int u0], h, 0, 0) Q := by
  exact mWp_r (v := (some (.int u0))) rfl k
theorem b102_0 {h : mH} {Q : Option Value → mH → Prop} {x1 : Int32} {vc : Int32} (e1 : h[5]? = some (oJ vc)) (k : mCt mCd 114 [.ref 5, .int x1] h (fun r1 h1 => mWp mCd 102 (5, [some (.ref 5), some (.int x1), none], r1.toList ++ [], h1, 0, 0) Q)) : mWp mCd 102 (0, [some (.ref 5), some (.int x1), none], [], h, 0, 0) Q := by
  refine mWp_run 2 (t' := (2, [some (.ref 5), some (.int x1), none], [.int x1, .ref 5], h, 0, 0)) rfl ?_
  exact mWp_iv rfl rfl e1 rfl rfl rfl rfl k
theorem b102_5 {h : mH} {Q : Option Value → mH → Prop} {x1 : Int32}  (k : Q (some (.int (-2))) h) : mWp mCd 102 (5, [some (.ref 5), some (.int x1), none], [.null], h, 0, 0) Q := by
  refine mWp_run 4 (t' := (12, [some (.ref 5), some (.int x1), some (.null)], [.int (-2)], h, 0, 0)) rfl ?_
  exact mWp_r (v := (some (.int (-2)))) rfl k
theorem b102_5_1 {h : mH} {Q : Option Value → mH → Prop} {x1 : Int32} {q0 : Nat} {vc : Int32} {sz : Int32} (e1 : h[5]? = some (oJ vc)) (e2 : h[7]? = some (oP 7 sz)) (k : mCt mCd 22 [.ref 7, .ref q0] h (fun r1 h1 => mWp mCd 102 (21, [some (.ref 5), some (.int x1), some (.ref q0)], r1.toList ++ [], h1, 0, 0) Q)) : mWp mCd 102 (5, [some (.ref 5), some (.int x1), none], [.ref q0], h, 0, 0) Q := by
  refine mWp_run 4 (t' := (14, [some (.ref 5), some (.int x1), some (.ref q0)], [.ref 5], h, 0, 0)) rfl ?_
  refine mWp_gf rfl e1 rfl rfl ?_
  refine mWp_run 1 (t' := (18, [some (.ref 5), some (.int x1), some (.ref q0)], [.ref q0, .ref 7], h, 0, 0)) rfl ?_
  exact mWp_iv rfl rfl e2 rfl rfl rfl rfl k
theorem b102_21 {h : mH} {Q : Option Value → mH → Prop} {x1 : Int32} {r2 : Nat} {vc : Int32} {sz : Int32} (e1 : h[5]? = some (oJ vc)) (e2 : h[7]? = some (oP 7 sz)) (k : Q (some (.int sz)) h) : mWp mCd 102 (21, [some (.ref 5), some (.int x1), some (.ref r2)], [], h, 0, 0) Q := by
  refine mWp_run 1 (t' := (22, [some (.ref 5), some (.int x1), some (.ref r2)], [.ref 5], h, 0, 0)) rfl ?_
  refine mWp_gf rfl e1 rfl rfl ?_
  refine mWp_gf rfl e2 rfl rfl ?_
  exact mWp_r (v := (some (.int sz))) rfl k
theorem b103_0 {h : mH} {Q : Option Value → mH → Prop} {x1 : Int32} {vc : Int32} {sz : Int32} (e1 : h[5]? = some (oJ vc)) (e2 : h[7]? = some (oP 7 sz)) (k : mCt mCd 25 [.ref 7, .int x1] h (fun r1 h1 => mWp mCd 103 (8, [some (.ref 5), some (.int x1)], r1.toList ++ [], h1, 0, 0) Q)) : mWp mCd 103 (0, [some (.ref 5), some (.int x1)], [], h, 0, 0) Q := by
  refine mWp_run 1 (t' := (1, [some (.ref 5), some (.int x1)], [.ref 5], h, 0, 0)) rfl ?_
  refine mWp_gf rfl e1 rfl rfl ?_
  refine mWp_run 1 (t' := (5, [some (.ref 5), some (.int x1)], [.int x1, .ref 7], h, 0, 0)) rfl ?_
  exact mWp_iv rfl rfl e2 rfl rfl rfl rfl k
theorem b103_8 {h : mH} {Q : Option Value → mH → Prop} {x1 : Int32} {u0 : Int32}  (k1 : u0 = 0 → mWp mCd 103 (22, [some (.ref 5), some (.int x1)], [], h, 0, 0) Q) (k2 : ¬ (u0 = 0) → mWp mCd 103 (11, [some (.ref 5), some (.int x1)], [], h, 0, 0) Q) : mWp mCd 103 (8, [some (.ref 5), some (.int x1)], [.int u0], h, 0, 0) Q := by
  exact mWp_if (P := fun x => x = 0) (a := u0) rfl k1 k2
theorem b103_22 {h : mH} {Q : Option Value → mH → Prop} {x1 : Int32}  (k : Q (some (.long (-4611686018427387904))) h) : mWp mCd 103 (22, [some (.ref 5), some (.int x1)], [], h, 0, 0) Q := by
  refine mWp_run 1 (t' := (25, [some (.ref 5), some (.int x1)], [.long (-4611686018427387904)], h, 0, 0)) rfl ?_
  exact mWp_r (v := (some (.long (-4611686018427387904)))) rfl k
theorem b103_11 {h : mH} {Q : Option Value → mH → Prop} {x1 : Int32} {vc : Int32} {sz : Int32} (e1 : h[5]? = some (oJ vc)) (e2 : h[7]? = some (oP 7 sz)) (k : mCt mCd 26 [.ref 7, .int x1] h (fun r1 h1 => mWp mCd 103 (19, [some (.ref 5), some (.int x1)], r1.toList ++ [], h1, 0, 0) Q)) : mWp mCd 103 (11, [some (.ref 5), some (.int x1)], [], h, 0, 0) Q := by
  refine mWp_run 1 (t' := (12, [some (.ref 5), some (.int x1)], [.ref 5], h, 0, 0)) rfl ?_
  refine mWp_gf rfl e1 rfl rfl ?_
  refine mWp_run 1 (t' := (16, [some (.ref 5), some (.int x1)], [.int x1, .ref 7], h, 0, 0)) rfl ?_
  exact mWp_iv rfl rfl e2 rfl rfl rfl rfl k
theorem b103_19 {h : mH} {Q : Option Value → mH → Prop} {x1 : Int32} {w0 : Int64}  (k : Q (some (.long w0)) h) : mWp mCd 103 (19, [some (.ref 5), some (.int x1)], [.long w0], h, 0, 0) Q := by
  refine mWp_run 1 (t' := (25, [some (.ref 5), some (.int x1)], [.long w0], h, 0, 0)) rfl ?_
  exact mWp_r (v := (some (.long w0))) rfl k
theorem b104_0 {h : mH} {Q : Option Value → mH → Prop} {x1 : Int32} {y2 : Int64} {vc : Int32} {sz : Int32} (e1 : h[5]? = some (oJ vc)) (e2 : h[7]? = some (oP 7 sz)) (k : mCt mCd 25 [.ref 7, .int x1] h (fun r1 h1 => mWp mCd 104 (8, [some (.ref 5), some (.int x1), some (.long y2), none], r1.toList ++ [], h1, 0, 0) Q)) : mWp mCd 104 (0, [some (.ref 5), some (.int x1), some (.long y2), none], [], h, 0, 0) Q := by
  refine mWp_run 1 (t' := (1, [some (.ref 5), some (.int x1), some (.long y2), none], [.ref 5], h, 0, 0)) rfl ?_
  refine mWp_gf rfl e1 rfl rfl ?_
  refine mWp_run 1 (t' := (5, [some (.ref 5), some (.int x1), some (.long y2), none], [.int x1, .ref 7], h, 0, 0)) rfl ?_
  exact mWp_iv rfl rfl e2 rfl rfl rfl rfl k
theorem b104_8 {h : mH} {Q : Option Value → mH → Prop} {x1 : Int32} {y2 : Int64} {u0 : Int32}  (k1 : ¬ u0 = 0 → mWp mCd 104 (14, [some (.ref 5), some (.int x1), some (.long y2), none], [], h, 0, 0) Q) (k2 : ¬ (¬ u0 = 0) → mWp mCd 104 (11, [some (.ref 5), some (.int x1), some (.long y2), none], [], h, 0, 0) Q) : mWp mCd 104 (8, [some (.ref 5), some (.int x1), some (.long y2), none], [.int u0], h, 0, 0) Q := by
  exact mWp_if (P := fun x => ¬ x = 0) (a := u0) rfl k1 k2
theorem b104_14 {h : mH} {Q : Option Value → mH → Prop} {x1 : Int32} {y2 : Int64} {vc : Int32} {sz : Int32} (e1 : h[5]? = some (oJ vc)) (e2 : h[7]? = some (oP 7 sz)) (k : mCt mCd 27 [.ref 7, .int x1, .long y2] h (fun r1 h1 => mWp mCd 104 (23, [some (.ref 5), some (.int x1), some (.long y2), none], r1.toList ++ [], h1, 0, 0) Q)) : mWp mCd 104 (14, [some (.ref 5), some (.int x1), some (.long y2), none], [], h, 0, 0) Q := by
  refine mWp_run 1 (t' := (15, [some (.ref 5), some (.int x1), some (.long y2), none], [.ref 5], h, 0, 0)) rfl ?_
  refine mWp_gf rfl e1 rfl rfl ?_
  refine mWp_run 2 (t' := (20, [some (.ref 5), some (.int x1), some (.long y2), none], [.long y2, .int x1, .ref 7], h, 0, 0)) rfl ?_
  exact mWp_iv rfl rfl e2 rfl rfl rfl rfl k
theorem b104_11 {h : mH} {Q : Option Value → mH → Prop} {x1 : Int32} {y2 : Int64}  (k : Q (some (.int (-2))) h) : mWp mCd 104 (11, [some (.ref 5), some (.int x1), some (.long y2), none], [], h, 0, 0) Q := by
  refine mWp_run 1 (t' := (13, [some (.ref 5), some (.int x1), some (.long y2), none], [.int (-2)], h, 0, 0)) rfl ?_
  exact mWp_r (v := (some (.int (-2)))) rfl k
theorem b104_23 {h : mH} {Q : Option Value → mH → Prop} {x1 : Int32} {y2 : Int64}  (k : Q (some (.int 1)) h) : mWp mCd 104 (23, [some (.ref 5), some (.int x1), some (.long y2), none], [], h, 0, 0) Q := by
  refine mWp_run 1 (t' := (24, [some (.ref 5), some (.int x1), some (.long y2), none], [.int 1], h, 0, 0)) rfl ?_
  exact mWp_r (v := (some (.int 1))) rfl k
theorem b105_0 {h : mH} {Q : Option Value → mH → Prop} {x1 : Int32} {vc : Int32} (e1 : h[5]? = some (oJ vc)) (k : mCt mCd 114 [.ref 5, .int x1] h (fun r1 h1 => mWp mCd 105 (5, [some (.ref 5), some (.int x1), none], r1.toList ++ [], h1, 0, 0) Q)) : mWp mCd 105 (0, [some (.ref 5), some (.int x1), none], [], h, 0, 0) Q := by
  refine mWp_run 2 (t' := (2, [some (.ref 5), some (.int x1), none], [.int x1, .ref 5], h, 0, 0)) rfl ?_
  exact mWp_iv rfl rfl e1 rfl rfl rfl rfl k
theorem b105_5 {h : mH} {Q : Option Value → mH → Prop} {x1 : Int32}  (k : Q (some (.int (-2))) h) : mWp mCd 105 (5, [some (.ref 5), some (.int x1), none], [.null], h, 0, 0) Q := by
  refine mWp_run 4 (t' := (12, [some (.ref 5), some (.int x1), some (.null)], [.int (-2)], h, 0, 0)) rfl ?_
  exact mWp_r (v := (some (.int (-2)))) rfl k
theorem b105_5_1 {h : mH} {Q : Option Value → mH → Prop} {x1 : Int32} {q0 : Nat} {vc : Int32} {sz : Int32} (e1 : h[5]? = some (oJ vc)) (e2 : h[9]? = some (oP 9 sz)) (k : mCt mCd 22 [.ref 9, .ref q0] h (fun r1 h1 => mWp mCd 105 (21, [some (.ref 5), some (.int x1), some (.ref q0)], r1.toList ++ [], h1, 0, 0) Q)) : mWp mCd 105 (5, [some (.ref 5), some (.int x1), none], [.ref q0], h, 0, 0) Q := by
  refine mWp_run 4 (t' := (14, [some (.ref 5), some (.int x1), some (.ref q0)], [.ref 5], h, 0, 0)) rfl ?_
  refine mWp_gf rfl e1 rfl rfl ?_
  refine mWp_run 1 (t' := (18, [some (.ref 5), some (.int x1), some (.ref q0)], [.ref q0, .ref 9], h, 0, 0)) rfl ?_
  exact mWp_iv rfl rfl e2 rfl rfl rfl rfl k
theorem b105_21 {h : mH} {Q : Option Value → mH → Prop} {x1 : Int32} {r2 : Nat} {vc : Int32} {sz : Int32} (e1 : h[5]? = some (oJ vc)) (e2 : h[7]? = some (oP 7 sz)) (k : mCt mCd 28 [.ref 7, .ref 9] h (fun r1 h1 => mWp mCd 105 (32, [some (.ref 5), some (.int x1), some (.ref r2)], r1.toList ++ [], h1, 0, 0) Q)) : mWp mCd 105 (21, [some (.ref 5), some (.int x1), some (.ref r2)], [], h, 0, 0) Q := by
  refine mWp_run 1 (t' := (22, [some (.ref 5), some (.int x1), some (.ref r2)], [.ref 5], h, 0, 0)) rfl ?_
  refine mWp_gf rfl e1 rfl rfl ?_
  refine mWp_run 1 (t' := (26, [some (.ref 5), some (.int x1), some (.ref r2)], [.ref 5, .ref 7], h, 0, 0)) rfl ?_
  refine mWp_gf rfl e1 rfl rfl ?_
  exact mWp_iv rfl rfl e2 rfl rfl rfl rfl k
theorem b105_32 {h : mH} {Q : Option Value → mH → Prop} {x1 : Int32} {r2 : Nat} {u0 : Int32}  (k : Q (some (.int u0)) h) : mWp mCd 105 (32, [some (.ref 5), some (.int x1), some (.ref r2)], [.int u0], h, 0, 0) Q := by
  exact mWp_r (v := (some (.int u0))) rfl k
theorem b106_0 {h : mH} {Q : Option Value → mH → Prop} {x1 : Int32} {x2 : Int32} {x3 : Int32} {vc : Int32} {ran : Int32} (e1 : h[5]? = some (oJ vc)) (e2 : h[11]? = some (oT ran)) (k : mCt mCd 70 [.ref 11] h (fun r1 h1 => mWp mCd 106 (7, [some (.ref 5), some (.int x1), some (.int x2), some (.int x3), none], r1.toList ++ [], h1, 0, 0) Q)) : mWp mCd 106 (0, [some (.ref 5), some (.int x1), some (.int x2), some (.int x3), none], [], h, 0, 0) Q := by
  refine mWp_run 1 (t' := (1, [some (.ref 5), some (.int x1), some (.int x2), some (.int x3), none], [.ref 5], h, 0, 0)) rfl ?_
  refine mWp_gf rfl e1 rfl rfl ?_
  exact mWp_iv rfl rfl e2 rfl rfl rfl rfl k
theorem b106_7 {h : mH} {Q : Option Value → mH → Prop} {x1 : Int32} {x2 : Int32} {x3 : Int32} {vc : Int32} (e1 : h[5]? = some (oJ vc)) (k : mCt mCd 114 [.ref 5, .int x1] h (fun r1 h1 => mWp mCd 106 (12, [some (.ref 5), some (.int x1), some (.int x2), some (.int x3), none], r1.toList ++ [], h1, 0, 0) Q)) : mWp mCd 106 (7, [some (.ref 5), some (.int x1), some (.int x2), some (.int x3), none], [], h, 0, 0) Q := by
  refine mWp_run 2 (t' := (9, [some (.ref 5), some (.int x1), some (.int x2), some (.int x3), none], [.int x1, .ref 5], h, 0, 0)) rfl ?_
  exact mWp_iv rfl rfl e1 rfl rfl rfl rfl k
theorem b106_12 {h : mH} {Q : Option Value → mH → Prop} {x1 : Int32} {x2 : Int32} {x3 : Int32}  (k : Q (some (.int 0)) h) : mWp mCd 106 (12, [some (.ref 5), some (.int x1), some (.int x2), some (.int x3), none], [.null], h, 0, 0) Q := by
  refine mWp_run 4 (t' := (20, [some (.ref 5), some (.int x1), some (.int x2), some (.int x3), some (.null)], [.int 0], h, 0, 0)) rfl ?_
  exact mWp_r (v := (some (.int 0))) rfl k
theorem b106_12_1 {h : mH} {Q : Option Value → mH → Prop} {x1 : Int32} {x2 : Int32} {x3 : Int32} {q0 : Nat}  (k1 : (x2.toInt < 0 ∨ 2 < x2.toInt) → mWp mCd 106 (81, [some (.ref 5), some (.int x1), some (.int x2), some (.int x3), some (.ref q0)], [], h, 0, 0) Q) (k2 : ¬ (x2.toInt < 0 ∨ 2 < x2.toInt) → ∃ t, ([48, 59, 70] : List Nat)[(x2.toInt - 0).toNat]? = some t ∧ mWp mCd 106 (t, [some (.ref 5), some (.int x1), some (.int x2), some (.int x3), some (.ref q0)], [], h, 0, 0) Q) : mWp mCd 106 (12, [some (.ref 5), some (.int x1), some (.int x2), some (.int x3), none], [.ref q0], h, 0, 0) Q := by
  refine mWp_run 4 (t' := (22, [some (.ref 5), some (.int x1), some (.int x2), some (.int x3), some (.ref q0)], [.int x2], h, 0, 0)) rfl ?_
  exact mWp_ts rfl k1 k2
theorem b106_81 {h : mH} {Q : Option Value → mH → Prop} {x1 : Int32} {x2 : Int32} {x3 : Int32} {r4 : Nat}  (k : Q (some (.int 0)) h) : mWp mCd 106 (81, [some (.ref 5), some (.int x1), some (.int x2), some (.int x3), some (.ref r4)], [], h, 0, 0) Q := by
  refine mWp_run 1 (t' := (82, [some (.ref 5), some (.int x1), some (.int x2), some (.int x3), some (.ref r4)], [.int 0], h, 0, 0)) rfl ?_
  exact mWp_r (v := (some (.int 0))) rfl k
theorem b106_48 {h : mH} {Q : Option Value → mH → Prop} {x1 : Int32} {x2 : Int32} {x3 : Int32} {r4 : Nat} {vc : Int32} {ci : Nat} {num : Int32} {n : Int32} {fd : Int32} {k101 : Nat} (e1 : h[5]? = some (oJ vc)) (hc : [1, 2, 4, 6, 8].contains ci = true) (e3 : h[r4]? = some (oV ci r4 num n fd)) (e4 : mSel [(1, 39, 0, 0), (2, 19, 0, 0), (4, 39, 0, 0), (6, 39, 0, 0), (8, 76, 0, 0)] ci = some (k101, 0, 0)) (k : mCt mCd k101 [.ref r4, .int x3, .ref 11] h (fun r1 h1 => mWp mCd 106 (58, [some (.ref 5), some (.int x1), some (.int x2), some (.int x3), some (.ref r4)], r1.toList ++ [], h1, 0, 0) Q)) : mWp mCd 106 (48, [some (.ref 5), some (.int x1), some (.int x2), some (.int x3), some (.ref r4)], [], h, 0, 0) Q := by
  refine mWp_run 3 (t' := (52, [some (.ref 5), some (.int x1), some (.int x2), some (.int x3), some (.ref r4)], [.ref 5, .int x3, .ref r4], h, 0, 0)) rfl ?_
  refine mWp_gf rfl e1 rfl rfl ?_
  exact mWp_iv rfl rfl e3 e4 rfl rfl rfl k
theorem b106_59 {h : mH} {Q : Option Value → mH → Prop} {x1 : Int32} {x2 : Int32} {x3 : Int32} {r4 : Nat} {vc : Int32} {ci : Nat} {num : Int32} {n : Int32} {fd : Int32} {k101 : Nat} (e1 : h[5]? = some (oJ vc)) (hc : [1, 2, 4, 6, 8].contains ci = true) (e3 : h[r4]? = some (oV ci r4 num n fd)) (e4 : mSel [(1, 40, 0, 0), (2, 20, 0, 0), (4, 32, 0, 0), (6, 40, 0, 0), (8, 40, 0, 0)] ci = some (k101, 0, 0)) (k : mCt mCd k101 [.ref r4, .int x3, .ref 11] h (fun r1 h1 => mWp mCd 106 (69, [some (.ref 5), some (.int x1), some (.int x2), some (.int x3), some (.ref r4)], r1.toList ++ [], h1, 0, 0) Q)) : mWp mCd 106 (59, [some (.ref 5), some (.int x1), some (.int x2), some (.int x3), some (.ref r4)], [], h, 0, 0) Q := by
  refine mWp_run 3 (t' := (63, [some (.ref 5), some (.int x1), some (.int x2), some (.int x3), some (.ref r4)], [.ref 5, .int x3, .ref r4], h, 0, 0)) rfl ?_
  refine mWp_gf rfl e1 rfl rfl ?_
  exact mWp_iv rfl rfl e3 e4 rfl rfl rfl k
theorem b106_70 {h : mH} {Q : Option Value → mH → Prop} {x1 : Int32} {x2 : Int32} {x3 : Int32} {r4 : Nat} {vc : Int32} {ci : Nat} {num : Int32} {n : Int32} {fd : Int32} {k101 : Nat} (e1 : h[5]? = some (oJ vc)) (hc : [1, 2, 4, 6, 8].contains ci = true) (e3 : h[r4]? = some (oV ci r4 num n fd)) (e4 : mSel [(1, 16, 0, 0), (2, 41, 0, 0), (4, 41, 0, 0), (6, 41, 0, 0), (8, 77, 0, 0)] ci = some (k101, 0, 0)) (k : mCt mCd k101 [.ref r4, .int x3, .ref 11] h (fun r1 h1 => mWp mCd 106 (80, [some (.ref 5), some (.int x1), some (.int x2), some (.int x3), some (.ref r4)], r1.toList ++ [], h1, 0, 0) Q)) : mWp mCd 106 (70, [some (.ref 5), some (.int x1), some (.int x2), some (.int x3), some (.ref r4)], [], h, 0, 0) Q := by
  refine mWp_run 3 (t' := (74, [some (.ref 5), some (.int x1), some (.int x2), some (.int x3), some (.ref r4)], [.ref 5, .int x3, .ref r4], h, 0, 0)) rfl ?_
  refine mWp_gf rfl e1 rfl rfl ?_
  exact mWp_iv rfl rfl e3 e4 rfl rfl rfl k
theorem b106_58 {h : mH} {Q : Option Value → mH → Prop} {x1 : Int32} {x2 : Int32} {x3 : Int32} {r4 : Nat} {u0 : Int32}  (k : Q (some (.int u0)) h) : mWp mCd 106 (58, [some (.ref 5), some (.int x1), some (.int x2), some (.int x3), some (.ref r4)], [.int u0], h, 0, 0) Q := by
  exact mWp_r (v := (some (.int u0))) rfl k
theorem b106_69 {h : mH} {Q : Option Value → mH → Prop} {x1 : Int32} {x2 : Int32} {x3 : Int32} {r4 : Nat} {u0 : Int32}  (k : Q (some (.int u0)) h) : mWp mCd 106 (69, [some (.ref 5), some (.int x1), some (.int x2), some (.int x3), some (.ref r4)], [.int u0], h, 0, 0) Q := by
  exact mWp_r (v := (some (.int u0))) rfl k
theorem b106_80 {h : mH} {Q : Option Value → mH → Prop} {x1 : Int32} {x2 : Int32} {x3 : Int32} {r4 : Nat} {u0 : Int32}  (k : Q (some (.int u0)) h) : mWp mCd 106 (80, [some (.ref 5), some (.int x1), some (.int x2), some (.int x3), some (.ref r4)], [.int u0], h, 0, 0) Q := by
  exact mWp_r (v := (some (.int u0))) rfl k
theorem b107_0 {h : mH} {Q : Option Value → mH → Prop} {x1 : Int32} {vc : Int32} {ran : Int32} (e1 : h[5]? = some (oJ vc)) (e2 : h[11]? = some (oT ran)) (k : mCt mCd 72 [.ref 11, .int x1] h (fun r1 h1 => mWp mCd 107 (8, [some (.ref 5), some (.int x1)], r1.toList ++ [], h1, 0, 0) Q)) : mWp mCd 107 (0, [some (.ref 5), some (.int x1)], [], h, 0, 0) Q := by
  refine mWp_run 1 (t' := (1, [some (.ref 5), some (.int x1)], [.ref 5], h, 0, 0)) rfl ?_
  refine mWp_gf rfl e1 rfl rfl ?_
  refine mWp_run 1 (t' := (5, [some (.ref 5), some (.int x1)], [.int x1, .ref 11], h, 0, 0)) rfl ?_
  exact mWp_iv rfl rfl e2 rfl rfl rfl rfl k
theorem b107_8 {h : mH} {Q : Option Value → mH → Prop} {x1 : Int32} {u0 : Int32}  (k : Q (some (.int u0)) h) : mWp mCd 107 (8, [some (.ref 5), some (.int x1)], [.int u0], h, 0, 0) Q := by
  exact mWp_r (v := (some (.int u0))) rfl k
theorem b108_0 {h : mH} {Q : Option Value → mH → Prop} {x1 : Int32}  (k1 : (x1.toInt < 0 ∨ 2 < x1.toInt) → mWp mCd 108 (49, [some (.ref 5), some (.int x1)], [], h, 0, 0) Q) (k2 : ¬ (x1.toInt < 0 ∨ 2 < x1.toInt) → ∃ t, ([28, 33, 41] : List Nat)[(x1.toInt - 0).toNat]? = some t ∧ mWp mCd 108 (t, [some (.ref 5), some (.int x1)], [], h, 0, 0) Q) : mWp mCd 108 (0, [some (.ref 5), some (.int x1)], [], h, 0, 0) Q := by
  refine mWp_run 1 (t' := (1, [some (.ref 5), some (.int x1)], [.int x1], h, 0, 0)) rfl ?_
  exact mWp_ts rfl k1 k2
theorem b108_49 {h : mH} {Q : Option Value → mH → Prop} {x1 : Int32}  (k : Q (some (.int (-2))) h) : mWp mCd 108 (49, [some (.ref 5), some (.int x1)], [], h, 0, 0) Q := by
  refine mWp_run 1 (t' := (51, [some (.ref 5), some (.int x1)], [.int (-2)], h, 0, 0)) rfl ?_
  exact mWp_r (v := (some (.int (-2)))) rfl k
theorem b108_28 {h : mH} {Q : Option Value → mH → Prop} {x1 : Int32} {vc : Int32} (e1 : h[5]? = some (oJ vc)) (k : Q (some (.int vc)) h) : mWp mCd 108 (28, [some (.ref 5), some (.int x1)], [], h, 0, 0) Q := by
  refine mWp_run 1 (t' := (29, [some (.ref 5), some (.int x1)], [.ref 5], h, 0, 0)) rfl ?_
  refine mWp_gf rfl e1 rfl rfl ?_
  exact mWp_r (v := (some (.int vc))) rfl k
theorem b108_33 {h : mH} {Q : Option Value → mH → Prop} {x1 : Int32} {vc : Int32} {sz : Int32} (e1 : h[5]? = some (oJ vc)) (e2 : h[7]? = some (oP 7 sz)) (k : Q (some (.int sz)) h) : mWp mCd 108 (33, [some (.ref 5), some (.int x1)], [], h, 0, 0) Q := by
  refine mWp_run 1 (t' := (34, [some (.ref 5), some (.int x1)], [.ref 5], h, 0, 0)) rfl ?_
  refine mWp_gf rfl e1 rfl rfl ?_
  refine mWp_gf rfl e2 rfl rfl ?_
  exact mWp_r (v := (some (.int sz))) rfl k
theorem b108_41 {h : mH} {Q : Option Value → mH → Prop} {x1 : Int32} {vc : Int32} {ran : Int32} (e1 : h[5]? = some (oJ vc)) (e2 : h[11]? = some (oT ran)) (k : Q (some (.int ran)) h) : mWp mCd 108 (41, [some (.ref 5), some (.int x1)], [], h, 0, 0) Q := by
  refine mWp_run 1 (t' := (42, [some (.ref 5), some (.int x1)], [.ref 5], h, 0, 0)) rfl ?_
  refine mWp_gf rfl e1 rfl rfl ?_
  refine mWp_gf rfl e2 rfl rfl ?_
  exact mWp_r (v := (some (.int ran))) rfl k
theorem b109_0 {h : mH} {Q : Option Value → mH → Prop} {x1 : Int32} {x2 : Int32} {x3 : Int32} {vc : Int32} (e1 : h[5]? = some (oJ vc)) (k : mCt mCd 123 [.ref 5, .int x1] h (fun r1 h1 => mWp mCd 109 (5, [some (.ref 5), some (.int x1), some (.int x2), some (.int x3)], r1.toList ++ [], h1, 0, 0) Q)) : mWp mCd 109 (0, [some (.ref 5), some (.int x1), some (.int x2), some (.int x3)], [], h, 0, 0) Q := by
  refine mWp_run 2 (t' := (2, [some (.ref 5), some (.int x1), some (.int x2), some (.int x3)], [.int x1, .ref 5], h, 0, 0)) rfl ?_
  exact mWp_iv rfl rfl e1 rfl rfl rfl rfl k
theorem b109_5 {h : mH} {Q : Option Value → mH → Prop} {x1 : Int32} {x2 : Int32} {x3 : Int32} {u0 : Int32}  (k1 : u0 = 0 → mWp mCd 109 (20, [some (.ref 5), some (.int x1), some (.int x2), some (.int x3)], [], h, 0, 0) Q) (k2 : ¬ (u0 = 0) → mWp mCd 109 (8, [some (.ref 5), some (.int x1), some (.int x2), some (.int x3)], [], h, 0, 0) Q) : mWp mCd 109 (5, [some (.ref 5), some (.int x1), some (.int x2), some (.int x3)], [.int u0], h, 0, 0) Q := by
  exact mWp_if (P := fun x => x = 0) (a := u0) rfl k1 k2
theorem b109_20 {h : mH} {Q : Option Value → mH → Prop} {x1 : Int32} {x2 : Int32} {x3 : Int32}  (k : Q (some (.int (-2))) h) : mWp mCd 109 (20, [some (.ref 5), some (.int x1), some (.int x2), some (.int x3)], [], h, 0, 0) Q := by
  refine mWp_run 1 (t' := (22, [some (.ref 5), some (.int x1), some (.int x2), some (.int x3)], [.int (-2)], h, 0, 0)) rfl ?_
  exact mWp_r (v := (some (.int (-2)))) rfl k
theorem b109_8 {h : mH} {Q : Option Value → mH → Prop} {x1 : Int32} {x2 : Int32} {x3 : Int32}  (k1 : x2 = (-1) → mWp mCd 109 (23, [some (.ref 5), some (.int x1), some (.int x2), some (.int x3)], [], h, 0, 0) Q) (k2 : ¬ (x2 = (-1)) → mWp mCd 109 (13, [some (.ref 5), some (.int x1), some (.int x2), some (.int x3)], [], h, 0, 0) Q) : mWp mCd 109 (8, [some (.ref 5), some (.int x1), some (.int x2), some (.int x3)], [], h, 0, 0) Q := by
  refine mWp_run 2 (t' := (10, [some (.ref 5), some (.int x1), some (.int x2), some (.int x3)], [.int (-1), .int x2], h, 0, 0)) rfl ?_
  exact mWp_ic (P := fun x y => x = y) (a := x2) (b := (-1)) rfl k1 k2
theorem b109_23 {h : mH} {Q : Option Value → mH → Prop} {x1 : Int32} {x2 : Int32} {x3 : Int32}  (k1 : ¬ x2 = (-1) → mWp mCd 109 (37, [some (.ref 5), some (.int x1), some (.int x2), some (.int x3)], [], h, 0, 0) Q) (k2 : ¬ (¬ x2 = (-1)) → mWp mCd 109 (28, [some (.ref 5), some (.int x1), some (.int x2), some (.int x3)], [], h, 0, 0) Q) : mWp mCd 109 (23, [some (.ref 5), some (.int x1), some (.int x2), some (.int x3)], [], h, 0, 0) Q := by
  refine mWp_run 2 (t' := (25, [some (.ref 5), some (.int x1), some (.int x2), some (.int x3)], [.int (-1), .int x2], h, 0, 0)) rfl ?_
  exact mWp_ic (P := fun x y => ¬ x = y) (a := x2) (b := (-1)) rfl k1 k2
theorem b109_13 {h : mH} {Q : Option Value → mH → Prop} {x1 : Int32} {x2 : Int32} {x3 : Int32}  (k : mCt mCd 124 [.int x2] h (fun r1 h1 => mWp mCd 109 (17, [some (.ref 5), some (.int x1), some (.int x2), some (.int x3)], r1.toList ++ [], h1, 0, 0) Q)) : mWp mCd 109 (13, [some (.ref 5), some (.int x1), some (.int x2), some (.int x3)], [], h, 0, 0) Q := by
  refine mWp_run 1 (t' := (14, [some (.ref 5), some (.int x1), some (.int x2), some (.int x3)], [.int x2], h, 0, 0)) rfl ?_
  exact mWp_is rfl rfl rfl rfl rfl k
theorem b109_37 {h : mH} {Q : Option Value → mH → Prop} {x1 : Int32} {x2 : Int32} {x3 : Int32}  (k1 : x3 ≤ 40 → mWp mCd 109 (46, [some (.ref 5), some (.int x1), some (.int x2), some (.int x3)], [], h, 0, 0) Q) (k2 : ¬ (x3 ≤ 40) → mWp mCd 109 (43, [some (.ref 5), some (.int x1), some (.int x2), some (.int x3)], [], h, 0, 0) Q) : mWp mCd 109 (37, [some (.ref 5), some (.int x1), some (.int x2), some (.int x3)], [], h, 0, 0) Q := by
  refine mWp_run 2 (t' := (40, [some (.ref 5), some (.int x1), some (.int x2), some (.int x3)], [.int 40, .int x3], h, 0, 0)) rfl ?_
  exact mWp_ic (P := fun x y => x ≤ y) (a := x3) (b := 40) rfl k1 k2
theorem b109_28 {h : mH} {Q : Option Value → mH → Prop} {x1 : Int32} {x2 : Int32} {x3 : Int32} {vc : Int32} {g101 : Nat → Option Nat} (e1 : h[5]? = some (oJ vc)) (e2 : h[13]? = some (aR 3 4 g101)) (e3 : ¬ (x1 < 0 ∨ 4 ≤ x1.toNatClampNeg)) (k : Q (some (.int 1)) (h.set 13 (aR 3 4 (va_up g101 (x1.toNatClampNeg) none)))) : mWp mCd 109 (28, [some (.ref 5), some (.int x1), some (.int x2), some (.int x3)], [], h, 0, 0) Q := by
  refine mWp_run 1 (t' := (29, [some (.ref 5), some (.int x1), some (.int x2), some (.int x3)], [.ref 5], h, 0, 0)) rfl ?_
  refine mWp_gf rfl e1 rfl rfl ?_
  refine mWp_run 2 (t' := (34, [some (.ref 5), some (.int x1), some (.int x2), some (.int x3)], [.null, .int x1, .ref 13], h, 0, 0)) rfl ?_
  refine mWp_aan rfl (by decide) e2 (by decide) e3 ?_
  show mWp mCd 109 (35, [some (.ref 5), some (.int x1), some (.int x2), some (.int x3)], [], (h.set 13 (aR 3 4 (va_up g101 (x1.toNatClampNeg) none))), 0, 0) Q
  refine mWp_run 1 (t' := (36, [some (.ref 5), some (.int x1), some (.int x2), some (.int x3)], [.int 1], (h.set 13 (aR 3 4 (va_up g101 (x1.toNatClampNeg) none))), 0, 0)) rfl ?_
  exact mWp_r (v := (some (.int 1))) rfl k
theorem b109_17 {h : mH} {Q : Option Value → mH → Prop} {x1 : Int32} {x2 : Int32} {x3 : Int32} {u0 : Int32}  (k1 : ¬ u0 = 0 → mWp mCd 109 (23, [some (.ref 5), some (.int x1), some (.int x2), some (.int x3)], [], h, 0, 0) Q) (k2 : ¬ (¬ u0 = 0) → mWp mCd 109 (20, [some (.ref 5), some (.int x1), some (.int x2), some (.int x3)], [], h, 0, 0) Q) : mWp mCd 109 (17, [some (.ref 5), some (.int x1), some (.int x2), some (.int x3)], [.int u0], h, 0, 0) Q := by
  exact mWp_if (P := fun x => ¬ x = 0) (a := u0) rfl k1 k2
theorem b109_46 {h : mH} {Q : Option Value → mH → Prop} {x1 : Int32} {x2 : Int32} {x3 : Int32}  (k1 : 0 ≤ x3 → mWp mCd 109 (53, [some (.ref 5), some (.int x1), some (.int x2), some (.int x3)], [], h, 0, 0) Q) (k2 : ¬ (0 ≤ x3) → mWp mCd 109 (50, [some (.ref 5), some (.int x1), some (.int x2), some (.int x3)], [], h, 0, 0) Q) : mWp mCd 109 (46, [some (.ref 5), some (.int x1), some (.int x2), some (.int x3)], [], h, 0, 0) Q := by
  refine mWp_run 1 (t' := (47, [some (.ref 5), some (.int x1), some (.int x2), some (.int x3)], [.int x3], h, 0, 0)) rfl ?_
  exact mWp_if (P := fun x => 0 ≤ x) (a := x3) rfl k1 k2
theorem b109_43 {h : mH} {Q : Option Value → mH → Prop} {x1 : Int32} {x2 : Int32} {x3 : Int32}  (k : Q (some (.int (-2))) h) : mWp mCd 109 (43, [some (.ref 5), some (.int x1), some (.int x2), some (.int x3)], [], h, 0, 0) Q := by
  refine mWp_run 1 (t' := (45, [some (.ref 5), some (.int x1), some (.int x2), some (.int x3)], [.int (-2)], h, 0, 0)) rfl ?_
  exact mWp_r (v := (some (.int (-2)))) rfl k
theorem b109_53 {h : mH} {Q : Option Value → mH → Prop} {x1 : Int32} {x2 : Int32} {x3 : Int32} {vc : Int32} (e1 : h[5]? = some (oJ vc)) (k : mWp mCd 109 (61, [some (.ref 5), some (.int x1), some (.int x2), some (.int x3)], [.ref ((h).length), .int x1, .ref 13], (h ++ [.inr (5, [.int 0, .null])]), 1, 2) Q) : mWp mCd 109 (53, [some (.ref 5), some (.int x1), some (.int x2), some (.int x3)], [], h, 0, 0) Q := by
  refine mWp_run 1 (t' := (54, [some (.ref 5), some (.int x1), some (.int x2), some (.int x3)], [.ref 5], h, 0, 0)) rfl ?_
  refine mWp_gf rfl e1 rfl rfl ?_
  refine mWp_run 1 (t' := (58, [some (.ref 5), some (.int x1), some (.int x2), some (.int x3)], [.int x1, .ref 13], h, 0, 0)) rfl ?_
  refine mWp_run 1 (t' := (61, [some (.ref 5), some (.int x1), some (.int x2), some (.int x3)], [.ref ((h).length), .int x1, .ref 13], (h ++ [.inr (5, [.int 0, .null])]), 1, 2)) rfl ?_
  exact k
theorem b109_50 {h : mH} {Q : Option Value → mH → Prop} {x1 : Int32} {x2 : Int32} {x3 : Int32}  (k : Q (some (.int (-14))) h) : mWp mCd 109 (50, [some (.ref 5), some (.int x1), some (.int x2), some (.int x3)], [], h, 0, 0) Q := by
  refine mWp_run 1 (t' := (52, [some (.ref 5), some (.int x1), some (.int x2), some (.int x3)], [.int (-14)], h, 0, 0)) rfl ?_
  exact mWp_r (v := (some (.int (-14)))) rfl k
theorem b109_61 {h : mH} {Q : Option Value → mH → Prop} {x1 : Int32} {x2 : Int32} {x3 : Int32} {q0 : Nat} {u1 : Int32}  (k : mCt mCd 33 [.ref q0, .int x2, .int x3] h (fun r1 h1 => mWp mCd 109 (67, [some (.ref 5), some (.int x1), some (.int x2), some (.int x3)], r1.toList ++ [.ref q0, .int u1, .ref 13], h1, 2, 42) Q)) : mWp mCd 109 (61, [some (.ref 5), some (.int x1), some (.int x2), some (.int x3)], [.ref q0, .int u1, .ref 13], h, 1, 2) Q := by
  refine mWp_run 3 (t' := (64, [some (.ref 5), some (.int x1), some (.int x2), some (.int x3)], [.int x3, .int x2, .ref q0, .ref q0, .int u1, .ref 13], h, 1, 2)) rfl ?_
  exact mWp_ii rfl rfl rfl rfl rfl k
theorem b109_67 {h : mH} {Q : Option Value → mH → Prop} {x1 : Int32} {x2 : Int32} {x3 : Int32} {q0 : Nat} {u1 : Int32} {g101 : Nat → Option Nat} {ci102 : Nat} {fs103 : List Value} (e1 : h[13]? = some (aR 3 4 g101)) (e2 : ¬ (u1 < 0 ∨ 4 ≤ u1.toNatClampNeg)) (e3 : h[q0]? = some (.inr (ci102, fs103))) (e4 : mCok 3 ci102 = true) (k : Q (some (.int 1)) (h.set 13 (aR 3 4 (va_up g101 (u1.toNatClampNeg) (some q0))))) : mWp mCd 109 (67, [some (.ref 5), some (.int x1), some (.int x2), some (.int x3)], [.ref q0, .int u1, .ref 13], h, 2, 42) Q := by
  refine mWp_aas rfl (by decide) e1 e3 e4 e2 ?_
  show mWp mCd 109 (68, [some (.ref 5), some (.int x1), some (.int x2), some (.int x3)], [], (h.set 13 (aR 3 4 (va_up g101 (u1.toNatClampNeg) (some q0)))), 2, 42) Q
  refine mWp_run 1 (t' := (69, [some (.ref 5), some (.int x1), some (.int x2), some (.int x3)], [.int 1], (h.set 13 (aR 3 4 (va_up g101 (u1.toNatClampNeg) (some q0)))), 2, 42)) rfl ?_
  exact mWp_r (v := (some (.int 1))) rfl k
theorem b110_0 {h : mH} {Q : Option Value → mH → Prop} {x1 : Int32} {x2 : Int32} {x3 : Int32} {vc : Int32} (e1 : h[5]? = some (oJ vc)) (k : mCt mCd 123 [.ref 5, .int x1] h (fun r1 h1 => mWp mCd 110 (5, [some (.ref 5), some (.int x1), some (.int x2), some (.int x3), none], r1.toList ++ [], h1, 0, 0) Q)) : mWp mCd 110 (0, [some (.ref 5), some (.int x1), some (.int x2), some (.int x3), none], [], h, 0, 0) Q := by
  refine mWp_run 2 (t' := (2, [some (.ref 5), some (.int x1), some (.int x2), some (.int x3), none], [.int x1, .ref 5], h, 0, 0)) rfl ?_
  exact mWp_iv rfl rfl e1 rfl rfl rfl rfl k
theorem b110_5 {h : mH} {Q : Option Value → mH → Prop} {x1 : Int32} {x2 : Int32} {x3 : Int32} {u0 : Int32}  (k1 : ¬ u0 = 0 → mWp mCd 110 (11, [some (.ref 5), some (.int x1), some (.int x2), some (.int x3), none], [], h, 0, 0) Q) (k2 : ¬ (¬ u0 = 0) → mWp mCd 110 (8, [some (.ref 5), some (.int x1), some (.int x2), some (.int x3), none], [], h, 0, 0) Q) : mWp mCd 110 (5, [some (.ref 5), some (.int x1), some (.int x2), some (.int x3), none], [.int u0], h, 0, 0) Q := by
  exact mWp_if (P := fun x => ¬ x = 0) (a := u0) rfl k1 k2
theorem b110_11n {h : mH} {Q : Option Value → mH → Prop} {x1 : Int32} {x2 : Int32} {x3 : Int32} {vc : Int32} {g101 : Nat → Option Nat} (e1 : h[5]? = some (oJ vc)) (e2 : h[13]? = some (aR 3 4 g101)) (e3 : ¬ (x1 < 0 ∨ 4 ≤ x1.toNatClampNeg)) (e4 : g101 x1.toNatClampNeg = none) (k : Q (some (.int (-11))) h) : mWp mCd 110 (11, [some (.ref 5), some (.int x1), some (.int x2), some (.int x3), none], [], h, 0, 0) Q := by
  refine mWp_run 1 (t' := (12, [some (.ref 5), some (.int x1), some (.int x2), some (.int x3), none], [.ref 5], h, 0, 0)) rfl ?_
  refine mWp_gf rfl e1 rfl rfl ?_
  refine mWp_run 1 (t' := (16, [some (.ref 5), some (.int x1), some (.int x2), some (.int x3), none], [.int x1, .ref 13], h, 0, 0)) rfl ?_
  refine mWp_aal rfl (by decide) e2 e3 (by rw [e4]; rfl) ?_
  refine mWp_run 4 (t' := (26, [some (.ref 5), some (.int x1), some (.int x2), some (.int x3), some (.null)], [.int (-11)], h, 0, 0)) rfl ?_
  exact mWp_r (v := (some (.int (-11)))) rfl k
theorem b110_11r {h : mH} {Q : Option Value → mH → Prop} {x1 : Int32} {x2 : Int32} {x3 : Int32} {vc : Int32} {g101 : Nat → Option Nat} {q102 : Nat} {so : Int32} (e1 : h[5]? = some (oJ vc)) (e2 : h[13]? = some (aR 3 4 g101)) (e3 : ¬ (x1 < 0 ∨ 4 ≤ x1.toNatClampNeg)) (e4 : g101 x1.toNatClampNeg = some q102) (e5 : h[q102]? = some (oS q102 so)) (k : mCt mCd 34 [.ref q102, .int x2, .int 1] h (fun r1 h1 => mWp mCd 110 (34, [some (.ref 5), some (.int x1), some (.int x2), some (.int x3), some (.ref q102)], r1.toList ++ [], h1, 0, 0) Q)) : mWp mCd 110 (11, [some (.ref 5), some (.int x1), some (.int x2), some (.int x3), none], [], h, 0, 0) Q := by
  refine mWp_run 1 (t' := (12, [some (.ref 5), some (.int x1), some (.int x2), some (.int x3), none], [.ref 5], h, 0, 0)) rfl ?_
  refine mWp_gf rfl e1 rfl rfl ?_
  refine mWp_run 1 (t' := (16, [some (.ref 5), some (.int x1), some (.int x2), some (.int x3), none], [.int x1, .ref 13], h, 0, 0)) rfl ?_
  refine mWp_aal rfl (by decide) e2 e3 (by rw [e4]; rfl) ?_
  refine mWp_run 6 (t' := (31, [some (.ref 5), some (.int x1), some (.int x2), some (.int x3), some (.ref q102)], [.int 1, .int x2, .ref q102], h, 0, 0)) rfl ?_
  exact mWp_iv rfl rfl e5 rfl rfl rfl rfl k
theorem b110_8 {h : mH} {Q : Option Value → mH → Prop} {x1 : Int32} {x2 : Int32} {x3 : Int32}  (k : Q (some (.int (-2))) h) : mWp mCd 110 (8, [some (.ref 5), some (.int x1), some (.int x2), some (.int x3), none], [], h, 0, 0) Q := by
  refine mWp_run 1 (t' := (10, [some (.ref 5), some (.int x1), some (.int x2), some (.int x3), none], [.int (-2)], h, 0, 0)) rfl ?_
  exact mWp_r (v := (some (.int (-2)))) rfl k
theorem b110_34 {h : mH} {Q : Option Value → mH → Prop} {x1 : Int32} {x2 : Int32} {x3 : Int32} {r4 : Nat} {u0 : Int32}  (k1 : ¬ u0 = 0 → mWp mCd 110 (40, [some (.ref 5), some (.int x1), some (.int x2), some (.int x3), some (.ref r4)], [], h, 0, 0) Q) (k2 : ¬ (¬ u0 = 0) → mWp mCd 110 (37, [some (.ref 5), some (.int x1), some (.int x2), some (.int x3), some (.ref r4)], [], h, 0, 0) Q) : mWp mCd 110 (34, [some (.ref 5), some (.int x1), some (.int x2), some (.int x3), some (.ref r4)], [.int u0], h, 0, 0) Q := by
  exact mWp_if (P := fun x => ¬ x = 0) (a := u0) rfl k1 k2
theorem b110_40 {h : mH} {Q : Option Value → mH → Prop} {x1 : Int32} {x2 : Int32} {x3 : Int32} {r4 : Nat} {so : Int32} (e1 : h[r4]? = some (oS r4 so)) (k : mCt mCd 36 [.ref r4, .int x2, .int x3] h (fun r1 h1 => mWp mCd 110 (47, [some (.ref 5), some (.int x1), some (.int x2), some (.int x3), some (.ref r4)], r1.toList ++ [], h1, 0, 0) Q)) : mWp mCd 110 (40, [some (.ref 5), some (.int x1), some (.int x2), some (.int x3), some (.ref r4)], [], h, 0, 0) Q := by
  refine mWp_run 3 (t' := (44, [some (.ref 5), some (.int x1), some (.int x2), some (.int x3), some (.ref r4)], [.int x3, .int x2, .ref r4], h, 0, 0)) rfl ?_
  exact mWp_iv rfl rfl e1 rfl rfl rfl rfl k
theorem b110_37 {h : mH} {Q : Option Value → mH → Prop} {x1 : Int32} {x2 : Int32} {x3 : Int32} {r4 : Nat}  (k : Q (some (.int (-12))) h) : mWp mCd 110 (37, [some (.ref 5), some (.int x1), some (.int x2), some (.int x3), some (.ref r4)], [], h, 0, 0) Q := by
  refine mWp_run 1 (t' := (39, [some (.ref 5), some (.int x1), some (.int x2), some (.int x3), some (.ref r4)], [.int (-12)], h, 0, 0)) rfl ?_
  exact mWp_r (v := (some (.int (-12)))) rfl k
theorem b110_47 {h : mH} {Q : Option Value → mH → Prop} {x1 : Int32} {x2 : Int32} {x3 : Int32} {r4 : Nat}  (k : Q (some (.int 1)) h) : mWp mCd 110 (47, [some (.ref 5), some (.int x1), some (.int x2), some (.int x3), some (.ref r4)], [], h, 0, 0) Q := by
  refine mWp_run 1 (t' := (48, [some (.ref 5), some (.int x1), some (.int x2), some (.int x3), some (.ref r4)], [.int 1], h, 0, 0)) rfl ?_
  exact mWp_r (v := (some (.int 1))) rfl k
theorem b111_0 {h : mH} {Q : Option Value → mH → Prop} {x1 : Int32} {x2 : Int32} {x3 : Int32} {x4 : Int32} {vc : Int32} (e1 : h[5]? = some (oJ vc)) (k : mCt mCd 114 [.ref 5, .int x1] h (fun r1 h1 => mWp mCd 111 (5, [some (.ref 5), some (.int x1), some (.int x2), some (.int x3), some (.int x4), none, none, none], r1.toList ++ [], h1, 0, 0) Q)) : mWp mCd 111 (0, [some (.ref 5), some (.int x1), some (.int x2), some (.int x3), some (.int x4), none, none, none], [], h, 0, 0) Q := by
  refine mWp_run 2 (t' := (2, [some (.ref 5), some (.int x1), some (.int x2), some (.int x3), some (.int x4), none, none, none], [.int x1, .ref 5], h, 0, 0)) rfl ?_
  exact mWp_iv rfl rfl e1 rfl rfl rfl rfl k
theorem b111_5 {h : mH} {Q : Option Value → mH → Prop} {x1 : Int32} {x2 : Int32} {x3 : Int32} {x4 : Int32}  (k : Q (some (.int (-2))) h) : mWp mCd 111 (5, [some (.ref 5), some (.int x1), some (.int x2), some (.int x3), some (.int x4), none, none, none], [.null], h, 0, 0) Q := by
  refine mWp_run 4 (t' := (29, [some (.ref 5), some (.int x1), some (.int x2), some (.int x3), some (.int x4), some (.null), none, none], [.int (-2)], h, 0, 0)) rfl ?_
  exact mWp_r (v := (some (.int (-2)))) rfl k
theorem b111_5_1 {h : mH} {Q : Option Value → mH → Prop} {x1 : Int32} {x2 : Int32} {x3 : Int32} {x4 : Int32} {q0 : Nat} {vc : Int32} (e1 : h[5]? = some (oJ vc)) (k : mCt mCd 123 [.ref 5, .int x2] h (fun r1 h1 => mWp mCd 111 (17, [some (.ref 5), some (.int x1), some (.int x2), some (.int x3), some (.int x4), some (.ref q0), none, none], r1.toList ++ [], h1, 0, 0) Q)) : mWp mCd 111 (5, [some (.ref 5), some (.int x1), some (.int x2), some (.int x3), some (.int x4), none, none, none], [.ref q0], h, 0, 0) Q := by
  refine mWp_run 5 (t' := (14, [some (.ref 5), some (.int x1), some (.int x2), some (.int x3), some (.int x4), some (.ref q0), none, none], [.int x2, .ref 5], h, 0, 0)) rfl ?_
  exact mWp_iv rfl rfl e1 rfl rfl rfl rfl k
theorem b111_17 {h : mH} {Q : Option Value → mH → Prop} {x1 : Int32} {x2 : Int32} {x3 : Int32} {x4 : Int32} {r5 : Nat} {u0 : Int32}  (k1 : u0 = 0 → mWp mCd 111 (27, [some (.ref 5), some (.int x1), some (.int x2), some (.int x3), some (.int x4), some (.ref r5), none, none], [], h, 0, 0) Q) (k2 : ¬ (u0 = 0) → mWp mCd 111 (20, [some (.ref 5), some (.int x1), some (.int x2), some (.int x3), some (.int x4), some (.ref r5), none, none], [], h, 0, 0) Q) : mWp mCd 111 (17, [some (.ref 5), some (.int x1), some (.int x2), some (.int x3), some (.int x4), some (.ref r5), none, none], [.int u0], h, 0, 0) Q := by
  exact mWp_if (P := fun x => x = 0) (a := u0) rfl k1 k2
theorem b111_27 {h : mH} {Q : Option Value → mH → Prop} {x1 : Int32} {x2 : Int32} {x3 : Int32} {x4 : Int32} {r5 : Nat}  (k : Q (some (.int (-2))) h) : mWp mCd 111 (27, [some (.ref 5), some (.int x1), some (.int x2), some (.int x3), some (.int x4), some (.ref r5), none, none], [], h, 0, 0) Q := by
  refine mWp_run 1 (t' := (29, [some (.ref 5), some (.int x1), some (.int x2), some (.int x3), some (.int x4), some (.ref r5), none, none], [.int (-2)], h, 0, 0)) rfl ?_
  exact mWp_r (v := (some (.int (-2)))) rfl k
theorem b111_20 {h : mH} {Q : Option Value → mH → Prop} {x1 : Int32} {x2 : Int32} {x3 : Int32} {x4 : Int32} {r5 : Nat}  (k : mCt mCd 124 [.int x3] h (fun r1 h1 => mWp mCd 111 (24, [some (.ref 5), some (.int x1), some (.int x2), some (.int x3), some (.int x4), some (.ref r5), none, none], r1.toList ++ [], h1, 0, 0) Q)) : mWp mCd 111 (20, [some (.ref 5), some (.int x1), some (.int x2), some (.int x3), some (.int x4), some (.ref r5), none, none], [], h, 0, 0) Q := by
  refine mWp_run 1 (t' := (21, [some (.ref 5), some (.int x1), some (.int x2), some (.int x3), some (.int x4), some (.ref r5), none, none], [.int x3], h, 0, 0)) rfl ?_
  exact mWp_is rfl rfl rfl rfl rfl k
theorem b111_24 {h : mH} {Q : Option Value → mH → Prop} {x1 : Int32} {x2 : Int32} {x3 : Int32} {x4 : Int32} {r5 : Nat} {u0 : Int32}  (k1 : ¬ u0 = 0 → mWp mCd 111 (30, [some (.ref 5), some (.int x1), some (.int x2), some (.int x3), some (.int x4), some (.ref r5), none, none], [], h, 0, 0) Q) (k2 : ¬ (¬ u0 = 0) → mWp mCd 111 (27, [some (.ref 5), some (.int x1), some (.int x2), some (.int x3), some (.int x4), some (.ref r5), none, none], [], h, 0, 0) Q) : mWp mCd 111 (24, [some (.ref 5), some (.int x1), some (.int x2), some (.int x3), some (.int x4), some (.ref r5), none, none], [.int u0], h, 0, 0) Q := by
  exact mWp_if (P := fun x => ¬ x = 0) (a := u0) rfl k1 k2
theorem b111_30 {h : mH} {Q : Option Value → mH → Prop} {x1 : Int32} {x2 : Int32} {x3 : Int32} {x4 : Int32} {r5 : Nat} {ci : Nat} {num : Int32} {n : Int32} {fd : Int32} {k101 : Nat} (hc : [1, 2, 4, 6, 8].contains ci = true) (e2 : h[r5]? = some (oV ci r5 num n fd)) (e3 : mSel [(1, 15, 0, 0), (2, 18, 0, 0), (4, 31, 0, 0), (6, 38, 0, 0), (8, 75, 0, 0)] ci = some (k101, 0, 0)) (k : mCt mCd k101 [.ref r5] h (fun r1 h1 => mWp mCd 111 (35, [some (.ref 5), some (.int x1), some (.int x2), some (.int x3), some (.int x4), some (.ref r5), none, none], r1.toList ++ [], h1, 0, 0) Q)) : mWp mCd 111 (30, [some (.ref 5), some (.int x1), some (.int x2), some (.int x3), some (.int x4), some (.ref r5), none, none], [], h, 0, 0) Q := by
  refine mWp_run 1 (t' := (32, [some (.ref 5), some (.int x1), some (.int x2), some (.int x3), some (.int x4), some (.ref r5), none, none], [.ref r5], h, 0, 0)) rfl ?_
  exact mWp_iv rfl rfl e2 e3 rfl rfl rfl k
theorem b111_35 {h : mH} {Q : Option Value → mH → Prop} {x1 : Int32} {x2 : Int32} {x3 : Int32} {x4 : Int32} {r5 : Nat} {u0 : Int32}  (k1 : u0 = 0 → mWp mCd 111 (41, [some (.ref 5), some (.int x1), some (.int x2), some (.int x3), some (.int x4), some (.ref r5), none, none], [], h, 0, 0) Q) (k2 : ¬ (u0 = 0) → mWp mCd 111 (38, [some (.ref 5), some (.int x1), some (.int x2), some (.int x3), some (.int x4), some (.ref r5), none, none], [], h, 0, 0) Q) : mWp mCd 111 (35, [some (.ref 5), some (.int x1), some (.int x2), some (.int x3), some (.int x4), some (.ref r5), none, none], [.int u0], h, 0, 0) Q := by
  exact mWp_if (P := fun x => x = 0) (a := u0) rfl k1 k2
theorem b111_41n {h : mH} {Q : Option Value → mH → Prop} {x1 : Int32} {x2 : Int32} {x3 : Int32} {x4 : Int32} {r5 : Nat} {vc : Int32} {g101 : Nat → Option Nat} (e1 : h[5]? = some (oJ vc)) (e2 : h[13]? = some (aR 3 4 g101)) (e3 : ¬ (x2 < 0 ∨ 4 ≤ x2.toNatClampNeg)) (e4 : g101 x2.toNatClampNeg = none) (k : mWp mCd 111 (66, [some (.ref 5), some (.int x1), some (.int x2), some (.int x3), some (.int x4), some (.ref r5), some (.null), none], [], h, 0, 0) Q) : mWp mCd 111 (41, [some (.ref 5), some (.int x1), some (.int x2), some (.int x3), some (.int x4), some (.ref r5), none, none], [], h, 0, 0) Q := by
  refine mWp_run 1 (t' := (42, [some (.ref 5), some (.int x1), some (.int x2), some (.int x3), some (.int x4), some (.ref r5), none, none], [.ref 5], h, 0, 0)) rfl ?_
  refine mWp_gf rfl e1 rfl rfl ?_
  refine mWp_run 1 (t' := (46, [some (.ref 5), some (.int x1), some (.int x2), some (.int x3), some (.int x4), some (.ref r5), none, none], [.int x2, .ref 13], h, 0, 0)) rfl ?_
  refine mWp_aal rfl (by decide) e2 e3 (by rw [e4]; rfl) ?_
  refine mWp_run 3 (t' := (66, [some (.ref 5), some (.int x1), some (.int x2), some (.int x3), some (.int x4), some (.ref r5), some (.null), none], [], h, 0, 0)) rfl ?_
  exact k
theorem b111_41r {h : mH} {Q : Option Value → mH → Prop} {x1 : Int32} {x2 : Int32} {x3 : Int32} {x4 : Int32} {r5 : Nat} {vc : Int32} {g101 : Nat → Option Nat} {q102 : Nat} {so : Int32} (e1 : h[5]? = some (oJ vc)) (e2 : h[13]? = some (aR 3 4 g101)) (e3 : ¬ (x2 < 0 ∨ 4 ≤ x2.toNatClampNeg)) (e4 : g101 x2.toNatClampNeg = some q102) (e5 : h[q102]? = some (oS q102 so)) (k1 : so = x3 → mWp mCd 111 (66, [some (.ref 5), some (.int x1), some (.int x2), some (.int x3), some (.int x4), some (.ref r5), some (.ref q102), none], [], h, 0, 0) Q) (k2 : ¬ (so = x3) → mWp mCd 111 (63, [some (.ref 5), some (.int x1), some (.int x2), some (.int x3), some (.int x4), some (.ref r5), some (.ref q102), none], [], h, 0, 0) Q) : mWp mCd 111 (41, [some (.ref 5), some (.int x1), some (.int x2), some (.int x3), some (.int x4), some (.ref r5), none, none], [], h, 0, 0) Q := by
  refine mWp_run 1 (t' := (42, [some (.ref 5), some (.int x1), some (.int x2), some (.int x3), some (.int x4), some (.ref r5), none, none], [.ref 5], h, 0, 0)) rfl ?_
  refine mWp_gf rfl e1 rfl rfl ?_
  refine mWp_run 1 (t' := (46, [some (.ref 5), some (.int x1), some (.int x2), some (.int x3), some (.int x4), some (.ref r5), none, none], [.int x2, .ref 13], h, 0, 0)) rfl ?_
  refine mWp_aal rfl (by decide) e2 e3 (by rw [e4]; rfl) ?_
  refine mWp_run 4 (t' := (56, [some (.ref 5), some (.int x1), some (.int x2), some (.int x3), some (.int x4), some (.ref r5), some (.ref q102), none], [.ref q102], h, 0, 0)) rfl ?_
  refine mWp_gf rfl e5 rfl rfl ?_
  refine mWp_run 1 (t' := (60, [some (.ref 5), some (.int x1), some (.int x2), some (.int x3), some (.int x4), some (.ref r5), some (.ref q102), none], [.int x3, .int so], h, 0, 0)) rfl ?_
  exact mWp_ic (P := fun x y => x = y) (a := so) (b := x3) rfl k1 k2
theorem b111_38 {h : mH} {Q : Option Value → mH → Prop} {x1 : Int32} {x2 : Int32} {x3 : Int32} {x4 : Int32} {r5 : Nat}  (k : Q (some (.int (-3))) h) : mWp mCd 111 (38, [some (.ref 5), some (.int x1), some (.int x2), some (.int x3), some (.int x4), some (.ref r5), none, none], [], h, 0, 0) Q := by
  refine mWp_run 1 (t' := (40, [some (.ref 5), some (.int x1), some (.int x2), some (.int x3), some (.int x4), some (.ref r5), none, none], [.int (-3)], h, 0, 0)) rfl ?_
  exact mWp_r (v := (some (.int (-3)))) rfl k
theorem b111_66 {h : mH} {Q : Option Value → mH → Prop} {x1 : Int32} {x2 : Int32} {x3 : Int32} {x4 : Int32} {r5 : Nat}  (k : Q (some (.int (-11))) h) : mWp mCd 111 (66, [some (.ref 5), some (.int x1), some (.int x2), some (.int x3), some (.int x4), some (.ref r5), some (.null), none], [], h, 0, 0) Q := by
  refine mWp_run 3 (t' := (73, [some (.ref 5), some (.int x1), some (.int x2), some (.int x3), some (.int x4), some (.ref r5), some (.null), none], [.int (-11)], h, 0, 0)) rfl ?_
  exact mWp_r (v := (some (.int (-11)))) rfl k
theorem b111_66_1 {h : mH} {Q : Option Value → mH → Prop} {x1 : Int32} {x2 : Int32} {x3 : Int32} {x4 : Int32} {r5 : Nat} {r6 : Nat} {ci : Nat} {num : Int32} {n : Int32} {fd : Int32} (hc : [1, 2, 4, 6, 8].contains ci = true) (e2 : h[r5]? = some (oV ci r5 num n fd)) (k : mCt mCd 42 [.ref r5] h (fun r1 h1 => mWp mCd 111 (83, [some (.ref 5), some (.int x1), some (.int x2), some (.int x3), some (.int x4), some (.ref r5), some (.ref r6), none], r1.toList ++ [.int x4, .ref r6], h1, 0, 0) Q)) : mWp mCd 111 (66, [some (.ref 5), some (.int x1), some (.int x2), some (.int x3), some (.int x4), some (.ref r5), some (.ref r6), none], [], h, 0, 0) Q := by
  refine mWp_run 5 (t' := (80, [some (.ref 5), some (.int x1), some (.int x2), some (.int x3), some (.int x4), some (.ref r5), some (.ref r6), none], [.ref r5, .int x4, .ref r6], h, 0, 0)) rfl ?_
  exact mWp_iv rfl rfl e2 (mS5 hc) rfl rfl rfl k
theorem b111_63 {h : mH} {Q : Option Value → mH → Prop} {x1 : Int32} {x2 : Int32} {x3 : Int32} {x4 : Int32} {r5 : Nat} {r6 : Nat}  (k : Q (some (.int (-13))) h) : mWp mCd 111 (63, [some (.ref 5), some (.int x1), some (.int x2), some (.int x3), some (.int x4), some (.ref r5), some (.ref r6), none], [], h, 0, 0) Q := by
  refine mWp_run 1 (t' := (65, [some (.ref 5), some (.int x1), some (.int x2), some (.int x3), some (.int x4), some (.ref r5), some (.ref r6), none], [.int (-13)], h, 0, 0)) rfl ?_
  exact mWp_r (v := (some (.int (-13)))) rfl k
theorem b111_83 {h : mH} {Q : Option Value → mH → Prop} {x1 : Int32} {x2 : Int32} {x3 : Int32} {x4 : Int32} {r5 : Nat} {r6 : Nat} {u0 : Int32} {u1 : Int32} {q2 : Nat} {so : Int32} (e1 : h[q2]? = some (oS q2 so)) (k : mCt mCd 34 [.ref q2, .int u1, .int u0] h (fun r1 h1 => mWp mCd 111 (86, [some (.ref 5), some (.int x1), some (.int x2), some (.int x3), some (.int x4), some (.ref r5), some (.ref r6), none], r1.toList ++ [], h1, 0, 0) Q)) : mWp mCd 111 (83, [some (.ref 5), some (.int x1), some (.int x2), some (.int x3), some (.int x4), some (.ref r5), some (.ref r6), none], [.int u0, .int u1, .ref q2], h, 0, 0) Q := by
  exact mWp_iv rfl rfl e1 rfl rfl rfl rfl k
theorem b111_86 {h : mH} {Q : Option Value → mH → Prop} {x1 : Int32} {x2 : Int32} {x3 : Int32} {x4 : Int32} {r5 : Nat} {r6 : Nat} {u0 : Int32}  (k1 : ¬ u0 = 0 → mWp mCd 111 (92, [some (.ref 5), some (.int x1), some (.int x2), some (.int x3), some (.int x4), some (.ref r5), some (.ref r6), none], [], h, 0, 0) Q) (k2 : ¬ (¬ u0 = 0) → mWp mCd 111 (89, [some (.ref 5), some (.int x1), some (.int x2), some (.int x3), some (.int x4), some (.ref r5), some (.ref r6), none], [], h, 0, 0) Q) : mWp mCd 111 (86, [some (.ref 5), some (.int x1), some (.int x2), some (.int x3), some (.int x4), some (.ref r5), some (.ref r6), none], [.int u0], h, 0, 0) Q := by
  exact mWp_if (P := fun x => ¬ x = 0) (a := u0) rfl k1 k2
theorem b111_92 {h : mH} {Q : Option Value → mH → Prop} {x1 : Int32} {x2 : Int32} {x3 : Int32} {x4 : Int32} {r5 : Nat} {r6 : Nat} {ci : Nat} {num : Int32} {n : Int32} {fd : Int32} (hc : [1, 2, 4, 6, 8].contains ci = true) (e2 : h[r5]? = some (oV ci r5 num n fd)) (k : mCt mCd 42 [.ref r5] h (fun r1 h1 => mWp mCd 111 (101, [some (.ref 5), some (.int x1), some (.int x2), some (.int x3), some (.int x4), some (.ref r5), some (.ref r6), none], r1.toList ++ [.int x4, .ref r6], h1, 0, 0) Q)) : mWp mCd 111 (92, [some (.ref 5), some (.int x1), some (.int x2), some (.int x3), some (.int x4), some (.ref r5), some (.ref r6), none], [], h, 0, 0) Q := by
  refine mWp_run 3 (t' := (98, [some (.ref 5), some (.int x1), some (.int x2), some (.int x3), some (.int x4), some (.ref r5), some (.ref r6), none], [.ref r5, .int x4, .ref r6], h, 0, 0)) rfl ?_
  exact mWp_iv rfl rfl e2 (mS5 hc) rfl rfl rfl k
theorem b111_89 {h : mH} {Q : Option Value → mH → Prop} {x1 : Int32} {x2 : Int32} {x3 : Int32} {x4 : Int32} {r5 : Nat} {r6 : Nat}  (k : Q (some (.int (-12))) h) : mWp mCd 111 (89, [some (.ref 5), some (.int x1), some (.int x2), some (.int x3), some (.int x4), some (.ref r5), some (.ref r6), none], [], h, 0, 0) Q := by
  refine mWp_run 1 (t' := (91, [some (.ref 5), some (.int x1), some (.int x2), some (.int x3), some (.int x4), some (.ref r5), some (.ref r6), none], [.int (-12)], h, 0, 0)) rfl ?_
  exact mWp_r (v := (some (.int (-12)))) rfl k
theorem b111_101 {h : mH} {Q : Option Value → mH → Prop} {x1 : Int32} {x2 : Int32} {x3 : Int32} {x4 : Int32} {r5 : Nat} {r6 : Nat} {u0 : Int32} {u1 : Int32} {q2 : Nat}  (k : mCt mCd 118 [.ref q2, .int u1, .int u0] h (fun r1 h1 => mWp mCd 111 (104, [some (.ref 5), some (.int x1), some (.int x2), some (.int x3), some (.int x4), some (.ref r5), some (.ref r6), none], r1.toList ++ [], h1, 0, 0) Q)) : mWp mCd 111 (101, [some (.ref 5), some (.int x1), some (.int x2), some (.int x3), some (.int x4), some (.ref r5), some (.ref r6), none], [.int u0, .int u1, .ref q2], h, 0, 0) Q := by
  exact mWp_is rfl rfl rfl rfl rfl k
theorem b111_104 {h : mH} {Q : Option Value → mH → Prop} {x1 : Int32} {x2 : Int32} {x3 : Int32} {x4 : Int32} {r5 : Nat} {r6 : Nat} {u0 : Int32}  (k1 : ¬ u0 = 0 → mWp mCd 111 (110, [some (.ref 5), some (.int x1), some (.int x2), some (.int x3), some (.int x4), some (.ref r5), some (.ref r6), none], [], h, 0, 0) Q) (k2 : ¬ (¬ u0 = 0) → mWp mCd 111 (107, [some (.ref 5), some (.int x1), some (.int x2), some (.int x3), some (.int x4), some (.ref r5), some (.ref r6), none], [], h, 0, 0) Q) : mWp mCd 111 (104, [some (.ref 5), some (.int x1), some (.int x2), some (.int x3), some (.int x4), some (.ref r5), some (.ref r6), none], [.int u0], h, 0, 0) Q := by
  exact mWp_if (P := fun x => ¬ x = 0) (a := u0) rfl k1 k2
theorem b111_110 {h : mH} {Q : Option Value → mH → Prop} {x1 : Int32} {x2 : Int32} {x3 : Int32} {x4 : Int32} {r5 : Nat} {r6 : Nat}  (k : mWp mCd 111 (113, [some (.ref 5), some (.int x1), some (.int x2), some (.int x3), some (.int x4), some (.ref r5), some (.ref r6), some (.int 1)], [], h, 0, 0) Q) : mWp mCd 111 (110, [some (.ref 5), some (.int x1), some (.int x2), some (.int x3), some (.int x4), some (.ref r5), some (.ref r6), none], [], h, 0, 0) Q := by
  refine mWp_run 2 (t' := (113, [some (.ref 5), some (.int x1), some (.int x2), some (.int x3), some (.int x4), some (.ref r5), some (.ref r6), some (.int 1)], [], h, 0, 0)) rfl ?_
  exact k
theorem b111_107 {h : mH} {Q : Option Value → mH → Prop} {x1 : Int32} {x2 : Int32} {x3 : Int32} {x4 : Int32} {r5 : Nat} {r6 : Nat}  (k : Q (some (.int (-2))) h) : mWp mCd 111 (107, [some (.ref 5), some (.int x1), some (.int x2), some (.int x3), some (.int x4), some (.ref r5), some (.ref r6), none], [], h, 0, 0) Q := by
  refine mWp_run 1 (t' := (109, [some (.ref 5), some (.int x1), some (.int x2), some (.int x3), some (.int x4), some (.ref r5), some (.ref r6), none], [.int (-2)], h, 0, 0)) rfl ?_
  exact mWp_r (v := (some (.int (-2)))) rfl k
theorem b111_113 {h : mH} {Q : Option Value → mH → Prop} {x1 : Int32} {x2 : Int32} {x3 : Int32} {x4 : Int32} {r5 : Nat} {r6 : Nat} {x7 : Int32} {ci : Nat} {num : Int32} {n : Int32} {fd : Int32} (hc : [1, 2, 4, 6, 8].contains ci = true) (e2 : h[r5]? = some (oV ci r5 num n fd)) (k : mCt mCd 42 [.ref r5] h (fun r1 h1 => mWp mCd 111 (120, [some (.ref 5), some (.int x1), some (.int x2), some (.int x3), some (.int x4), some (.ref r5), some (.ref r6), some (.int x7)], r1.toList ++ [.int x7], h1, 0, 0) Q)) : mWp mCd 111 (113, [some (.ref 5), some (.int x1), some (.int x2), some (.int x3), some (.int x4), some (.ref r5), some (.ref r6), some (.int x7)], [], h, 0, 0) Q := by
  refine mWp_run 2 (t' := (117, [some (.ref 5), some (.int x1), some (.int x2), some (.int x3), some (.int x4), some (.ref r5), some (.ref r6), some (.int x7)], [.ref r5, .int x7], h, 0, 0)) rfl ?_
  exact mWp_iv rfl rfl e2 (mS5 hc) rfl rfl rfl k
theorem b111_120 {h : mH} {Q : Option Value → mH → Prop} {x1 : Int32} {x2 : Int32} {x3 : Int32} {x4 : Int32} {r5 : Nat} {r6 : Nat} {x7 : Int32} {u0 : Int32} {u1 : Int32}  (k1 : u0 < u1 → mWp mCd 111 (149, [some (.ref 5), some (.int x1), some (.int x2), some (.int x3), some (.int x4), some (.ref r5), some (.ref r6), some (.int x7)], [], h, 0, 0) Q) (k2 : ¬ (u0 < u1) → mWp mCd 111 (123, [some (.ref 5), some (.int x1), some (.int x2), some (.int x3), some (.int x4), some (.ref r5), some (.ref r6), some (.int x7)], [], h, 0, 0) Q) : mWp mCd 111 (120, [some (.ref 5), some (.int x1), some (.int x2), some (.int x3), some (.int x4), some (.ref r5), some (.ref r6), some (.int x7)], [.int u0, .int u1], h, 0, 0) Q := by
  exact mWp_ic (P := fun x y => y < x) (a := u1) (b := u0) rfl k1 k2
theorem b111_149 {h : mH} {Q : Option Value → mH → Prop} {x1 : Int32} {x2 : Int32} {x3 : Int32} {x4 : Int32} {r5 : Nat} {r6 : Nat} {x7 : Int32}  (k : Q (some (.int 1)) h) : mWp mCd 111 (149, [some (.ref 5), some (.int x1), some (.int x2), some (.int x3), some (.int x4), some (.ref r5), some (.ref r6), some (.int x7)], [], h, 0, 0) Q := by
  refine mWp_run 1 (t' := (150, [some (.ref 5), some (.int x1), some (.int x2), some (.int x3), some (.int x4), some (.ref r5), some (.ref r6), some (.int x7)], [.int 1], h, 0, 0)) rfl ?_
  exact mWp_r (v := (some (.int 1))) rfl k
theorem b111_123 {h : mH} {Q : Option Value → mH → Prop} {x1 : Int32} {x2 : Int32} {x3 : Int32} {x4 : Int32} {r5 : Nat} {r6 : Nat} {x7 : Int32} {so : Int32} (e1 : h[r6]? = some (oS r6 so)) (k : mCt mCd 35 [.ref r6, .int ((x4 + x7) - 1)] h (fun r1 h1 => mWp mCd 111 (139, [some (.ref 5), some (.int x1), some (.int x2), some (.int x3), some (.int x4), some (.ref r5), some (.ref r6), some (.int x7)], r1.toList ++ [.int x7, .ref r5], h1, 0, 0) Q)) : mWp mCd 111 (123, [some (.ref 5), some (.int x1), some (.int x2), some (.int x3), some (.int x4), some (.ref r5), some (.ref r6), some (.int x7)], [], h, 0, 0) Q := by
  refine mWp_run 8 (t' := (136, [some (.ref 5), some (.int x1), some (.int x2), some (.int x3), some (.int x4), some (.ref r5), some (.ref r6), some (.int x7)], [.int ((x4 + x7) - 1), .ref r6, .int x7, .ref r5], h, 0, 0)) rfl ?_
  exact mWp_iv rfl rfl e1 rfl rfl rfl rfl k
theorem b111_139 {h : mH} {Q : Option Value → mH → Prop} {x1 : Int32} {x2 : Int32} {x3 : Int32} {x4 : Int32} {r5 : Nat} {r6 : Nat} {x7 : Int32} {w0 : Int64} {u1 : Int32} {q2 : Nat} {ci : Nat} {num : Int32} {n : Int32} {fd : Int32} (hc : [1, 2, 4, 6, 8].contains ci = true) (e2 : h[q2]? = some (oV ci q2 num n fd)) (k : mCt mCd 48 [.ref q2, .int u1, .int (Int64.toInt32 w0)] h (fun r1 h1 => mWp mCd 111 (143, [some (.ref 5), some (.int x1), some (.int x2), some (.int x3), some (.int x4), some (.ref r5), some (.ref r6), some (.int x7)], r1.toList ++ [], h1, 0, 0) Q)) : mWp mCd 111 (139, [some (.ref 5), some (.int x1), some (.int x2), some (.int x3), some (.int x4), some (.ref r5), some (.ref r6), some (.int x7)], [.long w0, .int u1, .ref q2], h, 0, 0) Q := by
  refine mWp_run 1 (t' := (140, [some (.ref 5), some (.int x1), some (.int x2), some (.int x3), some (.int x4), some (.ref r5), some (.ref r6), some (.int x7)], [.int (Int64.toInt32 w0), .int u1, .ref q2], h, 0, 0)) rfl ?_
  exact mWp_iv rfl rfl e2 (mS5 hc) rfl rfl rfl k
theorem b111_143 {h : mH} {Q : Option Value → mH → Prop} {x1 : Int32} {x2 : Int32} {x3 : Int32} {x4 : Int32} {r5 : Nat} {r6 : Nat} {x7 : Int32}  (k : mWp mCd 111 (113, [some (.ref 5), some (.int x1), some (.int x2), some (.int x3), some (.int x4), some (.ref r5), some (.ref r6), some (.int (x7 + 1))], [], h, 0, 0) Q) : mWp mCd 111 (143, [some (.ref 5), some (.int x1), some (.int x2), some (.int x3), some (.int x4), some (.ref r5), some (.ref r6), some (.int x7)], [], h, 0, 0) Q := by
  refine mWp_run 2 (t' := (113, [some (.ref 5), some (.int x1), some (.int x2), some (.int x3), some (.int x4), some (.ref r5), some (.ref r6), some (.int (x7 + 1))], [], h, 0, 0)) rfl ?_
  exact k
theorem b112_0 {h : mH} {Q : Option Value → mH → Prop} {x1 : Int32} {x2 : Int32} {x3 : Int32} {x4 : Int32} {x5 : Int32} {vc : Int32} (e1 : h[5]? = some (oJ vc)) (k : mCt mCd 123 [.ref 5, .int x1] h (fun r1 h1 => mWp mCd 112 (5, [some (.ref 5), some (.int x1), some (.int x2), some (.int x3), some (.int x4), some (.int x5), none, none], r1.toList ++ [], h1, 0, 0) Q)) : mWp mCd 112 (0, [some (.ref 5), some (.int x1), some (.int x2), some (.int x3), some (.int x4), some (.int x5), none, none], [], h, 0, 0) Q := by
  refine mWp_run 2 (t' := (2, [some (.ref 5), some (.int x1), some (.int x2), some (.int x3), some (.int x4), some (.int x5), none, none], [.int x1, .ref 5], h, 0, 0)) rfl ?_
  exact mWp_iv rfl rfl e1 rfl rfl rfl rfl k
theorem b112_5 {h : mH} {Q : Option Value → mH → Prop} {x1 : Int32} {x2 : Int32} {x3 : Int32} {x4 : Int32} {x5 : Int32} {u0 : Int32}  (k1 : u0 = 0 → mWp mCd 112 (16, [some (.ref 5), some (.int x1), some (.int x2), some (.int x3), some (.int x4), some (.int x5), none, none], [], h, 0, 0) Q) (k2 : ¬ (u0 = 0) → mWp mCd 112 (8, [some (.ref 5), some (.int x1), some (.int x2), some (.int x3), some (.int x4), some (.int x5), none, none], [], h, 0, 0) Q) : mWp mCd 112 (5, [some (.ref 5), some (.int x1), some (.int x2), some (.int x3), some (.int x4), some (.int x5), none, none], [.int u0], h, 0, 0) Q := by
  exact mWp_if (P := fun x => x = 0) (a := u0) rfl k1 k2
theorem b112_16 {h : mH} {Q : Option Value → mH → Prop} {x1 : Int32} {x2 : Int32} {x3 : Int32} {x4 : Int32} {x5 : Int32}  (k : Q (some (.int (-2))) h) : mWp mCd 112 (16, [some (.ref 5), some (.int x1), some (.int x2), some (.int x3), some (.int x4), some (.int x5), none, none], [], h, 0, 0) Q := by
  refine mWp_run 1 (t' := (18, [some (.ref 5), some (.int x1), some (.int x2), some (.int x3), some (.int x4), some (.int x5), none, none], [.int (-2)], h, 0, 0)) rfl ?_
  exact mWp_r (v := (some (.int (-2)))) rfl k
theorem b112_8 {h : mH} {Q : Option Value → mH → Prop} {x1 : Int32} {x2 : Int32} {x3 : Int32} {x4 : Int32} {x5 : Int32} {vc : Int32} (e1 : h[5]? = some (oJ vc)) (k : mCt mCd 123 [.ref 5, .int x3] h (fun r1 h1 => mWp mCd 112 (13, [some (.ref 5), some (.int x1), some (.int x2), some (.int x3), some (.int x4), some (.int x5), none, none], r1.toList ++ [], h1, 0, 0) Q)) : mWp mCd 112 (8, [some (.ref 5), some (.int x1), some (.int x2), some (.int x3), some (.int x4), some (.int x5), none, none], [], h, 0, 0) Q := by
  refine mWp_run 2 (t' := (10, [some (.ref 5), some (.int x1), some (.int x2), some (.int x3), some (.int x4), some (.int x5), none, none], [.int x3, .ref 5], h, 0, 0)) rfl ?_
  exact mWp_iv rfl rfl e1 rfl rfl rfl rfl k
theorem b112_13 {h : mH} {Q : Option Value → mH → Prop} {x1 : Int32} {x2 : Int32} {x3 : Int32} {x4 : Int32} {x5 : Int32} {u0 : Int32}  (k1 : ¬ u0 = 0 → mWp mCd 112 (19, [some (.ref 5), some (.int x1), some (.int x2), some (.int x3), some (.int x4), some (.int x5), none, none], [], h, 0, 0) Q) (k2 : ¬ (¬ u0 = 0) → mWp mCd 112 (16, [some (.ref 5), some (.int x1), some (.int x2), some (.int x3), some (.int x4), some (.int x5), none, none], [], h, 0, 0) Q) : mWp mCd 112 (13, [some (.ref 5), some (.int x1), some (.int x2), some (.int x3), some (.int x4), some (.int x5), none, none], [.int u0], h, 0, 0) Q := by
  exact mWp_if (P := fun x => ¬ x = 0) (a := u0) rfl k1 k2
theorem b112_19nn {h : mH} {Q : Option Value → mH → Prop} {x1 : Int32} {x2 : Int32} {x3 : Int32} {x4 : Int32} {x5 : Int32} {vc : Int32} {g101 : Nat → Option Nat} (e1 : h[5]? = some (oJ vc)) (e2 : h[13]? = some (aR 3 4 g101)) (e3 : ¬ (x1 < 0 ∨ 4 ≤ x1.toNatClampNeg)) (e4 : g101 x1.toNatClampNeg = none) (e5 : ¬ (x3 < 0 ∨ 4 ≤ x3.toNatClampNeg)) (e6 : g101 x3.toNatClampNeg = none) (k : Q (some (.int (-11))) h) : mWp mCd 112 (19, [some (.ref 5), some (.int x1), some (.int x2), some (.int x3), some (.int x4), some (.int x5), none, none], [], h, 0, 0) Q := by
  refine mWp_run 1 (t' := (20, [some (.ref 5), some (.int x1), some (.int x2), some (.int x3), some (.int x4), some (.int x5), none, none], [.ref 5], h, 0, 0)) rfl ?_
  refine mWp_gf rfl e1 rfl rfl ?_
  refine mWp_run 1 (t' := (24, [some (.ref 5), some (.int x1), some (.int x2), some (.int x3), some (.int x4), some (.int x5), none, none], [.int x1, .ref 13], h, 0, 0)) rfl ?_
  refine mWp_aal rfl (by decide) e2 e3 (by rw [e4]; rfl) ?_
  refine mWp_run 2 (t' := (28, [some (.ref 5), some (.int x1), some (.int x2), some (.int x3), some (.int x4), some (.int x5), some (.null), none], [.ref 5], h, 0, 0)) rfl ?_
  refine mWp_gf rfl e1 rfl rfl ?_
  refine mWp_run 1 (t' := (32, [some (.ref 5), some (.int x1), some (.int x2), some (.int x3), some (.int x4), some (.int x5), some (.null), none], [.int x3, .ref 13], h, 0, 0)) rfl ?_
  refine mWp_aal rfl (by decide) e2 e5 (by rw [e6]; rfl) ?_
  refine mWp_run 4 (t' := (47, [some (.ref 5), some (.int x1), some (.int x2), some (.int x3), some (.int x4), some (.int x5), some (.null), some (.null)], [.int (-11)], h, 0, 0)) rfl ?_
  exact mWp_r (v := (some (.int (-11)))) rfl k
theorem b112_19nr {h : mH} {Q : Option Value → mH → Prop} {x1 : Int32} {x2 : Int32} {x3 : Int32} {x4 : Int32} {x5 : Int32} {vc : Int32} {g101 : Nat → Option Nat} {q102 : Nat} (e1 : h[5]? = some (oJ vc)) (e2 : h[13]? = some (aR 3 4 g101)) (e3 : ¬ (x1 < 0 ∨ 4 ≤ x1.toNatClampNeg)) (e4 : g101 x1.toNatClampNeg = none) (e5 : ¬ (x3 < 0 ∨ 4 ≤ x3.toNatClampNeg)) (e6 : g101 x3.toNatClampNeg = some q102) (k : Q (some (.int (-11))) h) : mWp mCd 112 (19, [some (.ref 5), some (.int x1), some (.int x2), some (.int x3), some (.int x4), some (.int x5), none, none], [], h, 0, 0) Q := by
  refine mWp_run 1 (t' := (20, [some (.ref 5), some (.int x1), some (.int x2), some (.int x3), some (.int x4), some (.int x5), none, none], [.ref 5], h, 0, 0)) rfl ?_
  refine mWp_gf rfl e1 rfl rfl ?_
  refine mWp_run 1 (t' := (24, [some (.ref 5), some (.int x1), some (.int x2), some (.int x3), some (.int x4), some (.int x5), none, none], [.int x1, .ref 13], h, 0, 0)) rfl ?_
  refine mWp_aal rfl (by decide) e2 e3 (by rw [e4]; rfl) ?_
  refine mWp_run 2 (t' := (28, [some (.ref 5), some (.int x1), some (.int x2), some (.int x3), some (.int x4), some (.int x5), some (.null), none], [.ref 5], h, 0, 0)) rfl ?_
  refine mWp_gf rfl e1 rfl rfl ?_
  refine mWp_run 1 (t' := (32, [some (.ref 5), some (.int x1), some (.int x2), some (.int x3), some (.int x4), some (.int x5), some (.null), none], [.int x3, .ref 13], h, 0, 0)) rfl ?_
  refine mWp_aal rfl (by decide) e2 e5 (by rw [e6]; rfl) ?_
  refine mWp_run 4 (t' := (47, [some (.ref 5), some (.int x1), some (.int x2), some (.int x3), some (.int x4), some (.int x5), some (.null), some (.ref q102)], [.int (-11)], h, 0, 0)) rfl ?_
  exact mWp_r (v := (some (.int (-11)))) rfl k
theorem b112_19rn {h : mH} {Q : Option Value → mH → Prop} {x1 : Int32} {x2 : Int32} {x3 : Int32} {x4 : Int32} {x5 : Int32} {vc : Int32} {g101 : Nat → Option Nat} {q102 : Nat} (e1 : h[5]? = some (oJ vc)) (e2 : h[13]? = some (aR 3 4 g101)) (e3 : ¬ (x1 < 0 ∨ 4 ≤ x1.toNatClampNeg)) (e4 : g101 x1.toNatClampNeg = some q102) (e5 : ¬ (x3 < 0 ∨ 4 ≤ x3.toNatClampNeg)) (e6 : g101 x3.toNatClampNeg = none) (k : Q (some (.int (-11))) h) : mWp mCd 112 (19, [some (.ref 5), some (.int x1), some (.int x2), some (.int x3), some (.int x4), some (.int x5), none, none], [], h, 0, 0) Q := by
  refine mWp_run 1 (t' := (20, [some (.ref 5), some (.int x1), some (.int x2), some (.int x3), some (.int x4), some (.int x5), none, none], [.ref 5], h, 0, 0)) rfl ?_
  refine mWp_gf rfl e1 rfl rfl ?_
  refine mWp_run 1 (t' := (24, [some (.ref 5), some (.int x1), some (.int x2), some (.int x3), some (.int x4), some (.int x5), none, none], [.int x1, .ref 13], h, 0, 0)) rfl ?_
  refine mWp_aal rfl (by decide) e2 e3 (by rw [e4]; rfl) ?_
  refine mWp_run 2 (t' := (28, [some (.ref 5), some (.int x1), some (.int x2), some (.int x3), some (.int x4), some (.int x5), some (.ref q102), none], [.ref 5], h, 0, 0)) rfl ?_
  refine mWp_gf rfl e1 rfl rfl ?_
  refine mWp_run 1 (t' := (32, [some (.ref 5), some (.int x1), some (.int x2), some (.int x3), some (.int x4), some (.int x5), some (.ref q102), none], [.int x3, .ref 13], h, 0, 0)) rfl ?_
  refine mWp_aal rfl (by decide) e2 e5 (by rw [e6]; rfl) ?_
  refine mWp_run 6 (t' := (47, [some (.ref 5), some (.int x1), some (.int x2), some (.int x3), some (.int x4), some (.int x5), some (.ref q102), some (.null)], [.int (-11)], h, 0, 0)) rfl ?_
  exact mWp_r (v := (some (.int (-11)))) rfl k
theorem b112_19rr {h : mH} {Q : Option Value → mH → Prop} {x1 : Int32} {x2 : Int32} {x3 : Int32} {x4 : Int32} {x5 : Int32} {vc : Int32} {g101 : Nat → Option Nat} {q102 : Nat} {q103 : Nat} {so : Int32} {so3 : Int32} (e1 : h[5]? = some (oJ vc)) (e2 : h[13]? = some (aR 3 4 g101)) (e3 : ¬ (x1 < 0 ∨ 4 ≤ x1.toNatClampNeg)) (e4 : g101 x1.toNatClampNeg = some q102) (e5 : ¬ (x3 < 0 ∨ 4 ≤ x3.toNatClampNeg)) (e6 : g101 x3.toNatClampNeg = some q103) (e7 : h[q102]? = some (oS q102 so)) (e8 : h[q103]? = some (oS q103 so3)) (k1 : so = so3 → mWp mCd 112 (64, [some (.ref 5), some (.int x1), some (.int x2), some (.int x3), some (.int x4), some (.int x5), some (.ref q102), some (.ref q103)], [], h, 0, 0) Q) (k2 : ¬ (so = so3) → mWp mCd 112 (61, [some (.ref 5), some (.int x1), some (.int x2), some (.int x3), some (.int x4), some (.int x5), some (.ref q102), some (.ref q103)], [], h, 0, 0) Q) : mWp mCd 112 (19, [some (.ref 5), some (.int x1), some (.int x2), some (.int x3), some (.int x4), some (.int x5), none, none], [], h, 0, 0) Q := by
  refine mWp_run 1 (t' := (20, [some (.ref 5), some (.int x1), some (.int x2), some (.int x3), some (.int x4), some (.int x5), none, none], [.ref 5], h, 0, 0)) rfl ?_
  refine mWp_gf rfl e1 rfl rfl ?_
  refine mWp_run 1 (t' := (24, [some (.ref 5), some (.int x1), some (.int x2), some (.int x3), some (.int x4), some (.int x5), none, none], [.int x1, .ref 13], h, 0, 0)) rfl ?_
  refine mWp_aal rfl (by decide) e2 e3 (by rw [e4]; rfl) ?_
  refine mWp_run 2 (t' := (28, [some (.ref 5), some (.int x1), some (.int x2), some (.int x3), some (.int x4), some (.int x5), some (.ref q102), none], [.ref 5], h, 0, 0)) rfl ?_
  refine mWp_gf rfl e1 rfl rfl ?_
  refine mWp_run 1 (t' := (32, [some (.ref 5), some (.int x1), some (.int x2), some (.int x3), some (.int x4), some (.int x5), some (.ref q102), none], [.int x3, .ref 13], h, 0, 0)) rfl ?_
  refine mWp_aal rfl (by decide) e2 e5 (by rw [e6]; rfl) ?_
  refine mWp_run 6 (t' := (50, [some (.ref 5), some (.int x1), some (.int x2), some (.int x3), some (.int x4), some (.int x5), some (.ref q102), some (.ref q103)], [.ref q102], h, 0, 0)) rfl ?_
  refine mWp_gf rfl e7 rfl rfl ?_
  refine mWp_run 1 (t' := (55, [some (.ref 5), some (.int x1), some (.int x2), some (.int x3), some (.int x4), some (.int x5), some (.ref q102), some (.ref q103)], [.ref q103, .int so], h, 0, 0)) rfl ?_
  refine mWp_gf rfl e8 rfl rfl ?_
  exact mWp_ic (P := fun x y => x = y) (a := so) (b := so3) rfl k1 k2
theorem b112_64 {h : mH} {Q : Option Value → mH → Prop} {x1 : Int32} {x2 : Int32} {x3 : Int32} {x4 : Int32} {x5 : Int32} {r6 : Nat} {r7 : Nat} {so : Int32} (e1 : h[r6]? = some (oS r6 so)) (k : mCt mCd 34 [.ref r6, .int x2, .int x5] h (fun r1 h1 => mWp mCd 112 (72, [some (.ref 5), some (.int x1), some (.int x2), some (.int x3), some (.int x4), some (.int x5), some (.ref r6), some (.ref r7)], r1.toList ++ [], h1, 0, 0) Q)) : mWp mCd 112 (64, [some (.ref 5), some (.int x1), some (.int x2), some (.int x3), some (.int x4), some (.int x5), some (.ref r6), some (.ref r7)], [], h, 0, 0) Q := by
  refine mWp_run 3 (t' := (69, [some (.ref 5), some (.int x1), some (.int x2), some (.int x3), some (.int x4), some (.int x5), some (.ref r6), some (.ref r7)], [.int x5, .int x2, .ref r6], h, 0, 0)) rfl ?_
  exact mWp_iv rfl rfl e1 rfl rfl rfl rfl k
theorem b112_61 {h : mH} {Q : Option Value → mH → Prop} {x1 : Int32} {x2 : Int32} {x3 : Int32} {x4 : Int32} {x5 : Int32} {r6 : Nat} {r7 : Nat}  (k : Q (some (.int (-13))) h) : mWp mCd 112 (61, [some (.ref 5), some (.int x1), some (.int x2), some (.int x3), some (.int x4), some (.int x5), some (.ref r6), some (.ref r7)], [], h, 0, 0) Q := by
  refine mWp_run 1 (t' := (63, [some (.ref 5), some (.int x1), some (.int x2), some (.int x3), some (.int x4), some (.int x5), some (.ref r6), some (.ref r7)], [.int (-13)], h, 0, 0)) rfl ?_
  exact mWp_r (v := (some (.int (-13)))) rfl k
theorem b112_72 {h : mH} {Q : Option Value → mH → Prop} {x1 : Int32} {x2 : Int32} {x3 : Int32} {x4 : Int32} {x5 : Int32} {r6 : Nat} {r7 : Nat} {u0 : Int32}  (k1 : u0 = 0 → mWp mCd 112 (87, [some (.ref 5), some (.int x1), some (.int x2), some (.int x3), some (.int x4), some (.int x5), some (.ref r6), some (.ref r7)], [], h, 0, 0) Q) (k2 : ¬ (u0 = 0) → mWp mCd 112 (75, [some (.ref 5), some (.int x1), some (.int x2), some (.int x3), some (.int x4), some (.int x5), some (.ref r6), some (.ref r7)], [], h, 0, 0) Q) : mWp mCd 112 (72, [some (.ref 5), some (.int x1), some (.int x2), some (.int x3), some (.int x4), some (.int x5), some (.ref r6), some (.ref r7)], [.int u0], h, 0, 0) Q := by
  exact mWp_if (P := fun x => x = 0) (a := u0) rfl k1 k2
theorem b112_87 {h : mH} {Q : Option Value → mH → Prop} {x1 : Int32} {x2 : Int32} {x3 : Int32} {x4 : Int32} {x5 : Int32} {r6 : Nat} {r7 : Nat}  (k : Q (some (.int (-12))) h) : mWp mCd 112 (87, [some (.ref 5), some (.int x1), some (.int x2), some (.int x3), some (.int x4), some (.int x5), some (.ref r6), some (.ref r7)], [], h, 0, 0) Q := by
  refine mWp_run 1 (t' := (89, [some (.ref 5), some (.int x1), some (.int x2), some (.int x3), some (.int x4), some (.int x5), some (.ref r6), some (.ref r7)], [.int (-12)], h, 0, 0)) rfl ?_
  exact mWp_r (v := (some (.int (-12)))) rfl k
theorem b112_75 {h : mH} {Q : Option Value → mH → Prop} {x1 : Int32} {x2 : Int32} {x3 : Int32} {x4 : Int32} {x5 : Int32} {r6 : Nat} {r7 : Nat} {so : Int32} (e1 : h[r7]? = some (oS r7 so)) (k : mCt mCd 34 [.ref r7, .int x4, .int x5] h (fun r1 h1 => mWp mCd 112 (84, [some (.ref 5), some (.int x1), some (.int x2), some (.int x3), some (.int x4), some (.int x5), some (.ref r6), some (.ref r7)], r1.toList ++ [], h1, 0, 0) Q)) : mWp mCd 112 (75, [some (.ref 5), some (.int x1), some (.int x2), some (.int x3), some (.int x4), some (.int x5), some (.ref r6), some (.ref r7)], [], h, 0, 0) Q := by
  refine mWp_run 3 (t' := (81, [some (.ref 5), some (.int x1), some (.int x2), some (.int x3), some (.int x4), some (.int x5), some (.ref r6), some (.ref r7)], [.int x5, .int x4, .ref r7], h, 0, 0)) rfl ?_
  exact mWp_iv rfl rfl e1 rfl rfl rfl rfl k
theorem b112_84 {h : mH} {Q : Option Value → mH → Prop} {x1 : Int32} {x2 : Int32} {x3 : Int32} {x4 : Int32} {x5 : Int32} {r6 : Nat} {r7 : Nat} {u0 : Int32}  (k1 : ¬ u0 = 0 → mWp mCd 112 (90, [some (.ref 5), some (.int x1), some (.int x2), some (.int x3), some (.int x4), some (.int x5), some (.ref r6), some (.ref r7)], [], h, 0, 0) Q) (k2 : ¬ (¬ u0 = 0) → mWp mCd 112 (87, [some (.ref 5), some (.int x1), some (.int x2), some (.int x3), some (.int x4), some (.int x5), some (.ref r6), some (.ref r7)], [], h, 0, 0) Q) : mWp mCd 112 (84, [some (.ref 5), some (.int x1), some (.int x2), some (.int x3), some (.int x4), some (.int x5), some (.ref r6), some (.ref r7)], [.int u0], h, 0, 0) Q := by
  exact mWp_if (P := fun x => ¬ x = 0) (a := u0) rfl k1 k2
theorem b112_90 {h : mH} {Q : Option Value → mH → Prop} {x1 : Int32} {x2 : Int32} {x3 : Int32} {x4 : Int32} {x5 : Int32} {r6 : Nat} {r7 : Nat} {so : Int32} {so1 : Int32} {len101 : Nat} {g102 : Nat → Int64} {len103 : Nat} {g104 : Nat → Int64} (e1 : h[r6]? = some (oS r6 so)) (e2 : h[r7]? = some (oS r7 so1)) (e3 : h[((r6 + 1))]? = some (aL len101 g102)) (e4 : h[((r7 + 1))]? = some (aL len103 g104)) (e5 : 5 ≤ (r6 + 1)) (e6 : 5 ≤ (r7 + 1)) (e7 : ¬ (x2 < 0 ∨ x4 < 0 ∨ x5 < 0 ∨ ¬ (x2.toNatClampNeg + x5.toNatClampNeg ≤ len101 ∧ x4.toNatClampNeg + x5.toNatClampNeg ≤ len103))) (k : Q (some (.int x5)) (h.set (r7 + 1) (aL len103 (va_cpy g102 g104 x2.toNatClampNeg x4.toNatClampNeg x5.toNatClampNeg)))) : mWp mCd 112 (90, [some (.ref 5), some (.int x1), some (.int x2), some (.int x3), some (.int x4), some (.int x5), some (.ref r6), some (.ref r7)], [], h, 0, 0) Q := by
  refine mWp_run 1 (t' := (92, [some (.ref 5), some (.int x1), some (.int x2), some (.int x3), some (.int x4), some (.int x5), some (.ref r6), some (.ref r7)], [.ref r6], h, 0, 0)) rfl ?_
  refine mWp_gf rfl e1 rfl rfl ?_
  refine mWp_run 2 (t' := (98, [some (.ref 5), some (.int x1), some (.int x2), some (.int x3), some (.int x4), some (.int x5), some (.ref r6), some (.ref r7)], [.ref r7, .int x2, .ref (r6 + 1)], h, 0, 0)) rfl ?_
  refine mWp_gf rfl e2 rfl rfl ?_
  refine mWp_run 2 (t' := (105, [some (.ref 5), some (.int x1), some (.int x2), some (.int x3), some (.int x4), some (.int x5), some (.ref r6), some (.ref r7)], [.int x5, .int x4, .ref (r7 + 1), .int x2, .ref (r6 + 1)], h, 0, 0)) rfl ?_
  refine mWp_cpl rfl e5 e6 e3 e4 rfl e7 ?_
  show mWp mCd 112 (108, [some (.ref 5), some (.int x1), some (.int x2), some (.int x3), some (.int x4), some (.int x5), some (.ref r6), some (.ref r7)], [], (h.set (r7 + 1) (aL len103 (va_cpy g102 g104 x2.toNatClampNeg x4.toNatClampNeg x5.toNatClampNeg))), 0, 0) Q
  refine mWp_run 1 (t' := (110, [some (.ref 5), some (.int x1), some (.int x2), some (.int x3), some (.int x4), some (.int x5), some (.ref r6), some (.ref r7)], [.int x5], (h.set (r7 + 1) (aL len103 (va_cpy g102 g104 x2.toNatClampNeg x4.toNatClampNeg x5.toNatClampNeg))), 0, 0)) rfl ?_
  exact mWp_r (v := (some (.int x5))) rfl k
theorem b113_0 {h : mH} {Q : Option Value → mH → Prop} {x1 : Int32} {x2 : Int32}  (k1 : x2 < 0 → mWp mCd 113 (9, [some (.ref 5), some (.int x1), some (.int x2), none], [], h, 0, 0) Q) (k2 : ¬ (x2 < 0) → mWp mCd 113 (4, [some (.ref 5), some (.int x1), some (.int x2), none], [], h, 0, 0) Q) : mWp mCd 113 (0, [some (.ref 5), some (.int x1), some (.int x2), none], [], h, 0, 0) Q := by
  refine mWp_run 1 (t' := (1, [some (.ref 5), some (.int x1), some (.int x2), none], [.int x2], h, 0, 0)) rfl ?_
  exact mWp_if (P := fun x => x < 0) (a := x2) rfl k1 k2
theorem b113_9 {h : mH} {Q : Option Value → mH → Prop} {x1 : Int32} {x2 : Int32}  (k : Q (some (.int (-2))) h) : mWp mCd 113 (9, [some (.ref 5), some (.int x1), some (.int x2), none], [], h, 0, 0) Q := by
  refine mWp_run 1 (t' := (11, [some (.ref 5), some (.int x1), some (.int x2), none], [.int (-2)], h, 0, 0)) rfl ?_
  exact mWp_r (v := (some (.int (-2)))) rfl k
theorem b113_4 {h : mH} {Q : Option Value → mH → Prop} {x1 : Int32} {x2 : Int32}  (k1 : x2 ≤ 4 → mWp mCd 113 (12, [some (.ref 5), some (.int x1), some (.int x2), none], [], h, 0, 0) Q) (k2 : ¬ (x2 ≤ 4) → mWp mCd 113 (9, [some (.ref 5), some (.int x1), some (.int x2), none], [], h, 0, 0) Q) : mWp mCd 113 (4, [some (.ref 5), some (.int x1), some (.int x2), none], [], h, 0, 0) Q := by
  refine mWp_run 2 (t' := (6, [some (.ref 5), some (.int x1), some (.int x2), none], [.int 4, .int x2], h, 0, 0)) rfl ?_
  exact mWp_ic (P := fun x y => x ≤ y) (a := x2) (b := 4) rfl k1 k2
theorem b113_12 {h : mH} {Q : Option Value → mH → Prop} {x1 : Int32} {x2 : Int32} {vc : Int32} (e1 : h[5]? = some (oJ vc)) (k : mCt mCd 114 [.ref 5, .int x1] h (fun r1 h1 => mWp mCd 113 (17, [some (.ref 5), some (.int x1), some (.int x2), none], r1.toList ++ [], h1, 0, 0) Q)) : mWp mCd 113 (12, [some (.ref 5), some (.int x1), some (.int x2), none], [], h, 0, 0) Q := by
  refine mWp_run 2 (t' := (14, [some (.ref 5), some (.int x1), some (.int x2), none], [.int x1, .ref 5], h, 0, 0)) rfl ?_
  exact mWp_iv rfl rfl e1 rfl rfl rfl rfl k
theorem b113_17 {h : mH} {Q : Option Value → mH → Prop} {x1 : Int32} {x2 : Int32}  (k : Q (some (.int (-11))) h) : mWp mCd 113 (17, [some (.ref 5), some (.int x1), some (.int x2), none], [.null], h, 0, 0) Q := by
  refine mWp_run 4 (t' := (24, [some (.ref 5), some (.int x1), some (.int x2), some (.null)], [.int (-11)], h, 0, 0)) rfl ?_
  exact mWp_r (v := (some (.int (-11)))) rfl k
theorem b113_17_1 {h : mH} {Q : Option Value → mH → Prop} {x1 : Int32} {x2 : Int32} {q0 : Nat}  (k1 : x2 = 0 → mWp mCd 113 (37, [some (.ref 5), some (.int x1), some (.int x2), some (.ref q0)], [], h, 0, 0) Q) (k2 : ¬ (x2 = 0) → mWp mCd 113 (29, [some (.ref 5), some (.int x1), some (.int x2), some (.ref q0)], [], h, 0, 0) Q) : mWp mCd 113 (17, [some (.ref 5), some (.int x1), some (.int x2), none], [.ref q0], h, 0, 0) Q := by
  refine mWp_run 4 (t' := (26, [some (.ref 5), some (.int x1), some (.int x2), some (.ref q0)], [.int x2], h, 0, 0)) rfl ?_
  exact mWp_if (P := fun x => x = 0) (a := x2) rfl k1 k2
theorem b113_37 {h : mH} {Q : Option Value → mH → Prop} {x1 : Int32} {x2 : Int32} {r3 : Nat} {ci : Nat} {num : Int32} {n : Int32} {fd : Int32} (hc : [1, 2, 4, 6, 8].contains ci = true) (e2 : h[r3]? = some (oV ci r3 num n fd)) (k : Q (some (.int n)) h) : mWp mCd 113 (37, [some (.ref 5), some (.int x1), some (.int x2), some (.ref r3)], [], h, 0, 0) Q := by
  refine mWp_run 1 (t' := (38, [some (.ref 5), some (.int x1), some (.int x2), some (.ref r3)], [.ref r3], h, 0, 0)) rfl ?_
  refine mWp_gf rfl e2 hc rfl ?_
  refine mWp_run 1 (t' := (46, [some (.ref 5), some (.int x1), some (.int x2), some (.ref r3)], [.int n], h, 0, 0)) rfl ?_
  exact mWp_r (v := (some (.int n))) rfl k
theorem b113_29 {h : mH} {Q : Option Value → mH → Prop} {x1 : Int32} {x2 : Int32} {r3 : Nat} {ci : Nat} {num : Int32} {n : Int32} {fd : Int32} {k101 : Nat} (hc : [1, 2, 4, 6, 8].contains ci = true) (e2 : h[r3]? = some (oV ci r3 num n fd)) (e3 : mSel [(1, 15, 0, 0), (2, 18, 0, 0), (4, 31, 0, 0), (6, 38, 0, 0), (8, 75, 0, 0)] ci = some (k101, 0, 0)) (k : mCt mCd k101 [.ref r3] h (fun r1 h1 => mWp mCd 113 (34, [some (.ref 5), some (.int x1), some (.int x2), some (.ref r3)], r1.toList ++ [.int x2], h1, 0, 0) Q)) : mWp mCd 113 (29, [some (.ref 5), some (.int x1), some (.int x2), some (.ref r3)], [], h, 0, 0) Q := by
  refine mWp_run 2 (t' := (31, [some (.ref 5), some (.int x1), some (.int x2), some (.ref r3)], [.ref r3, .int x2], h, 0, 0)) rfl ?_
  exact mWp_iv rfl rfl e2 e3 rfl rfl rfl k
theorem b113_34 {h : mH} {Q : Option Value → mH → Prop} {x1 : Int32} {x2 : Int32} {r3 : Nat} {u0 : Int32} {u1 : Int32}  (k1 : ¬ u1 = u0 → mWp mCd 113 (44, [some (.ref 5), some (.int x1), some (.int x2), some (.ref r3)], [], h, 0, 0) Q) (k2 : ¬ (¬ u1 = u0) → mWp mCd 113 (37, [some (.ref 5), some (.int x1), some (.int x2), some (.ref r3)], [], h, 0, 0) Q) : mWp mCd 113 (34, [some (.ref 5), some (.int x1), some (.int x2), some (.ref r3)], [.int u0, .int u1], h, 0, 0) Q := by
  exact mWp_ic (P := fun x y => ¬ x = y) (a := u1) (b := u0) rfl k1 k2
theorem b113_44 {h : mH} {Q : Option Value → mH → Prop} {x1 : Int32} {x2 : Int32} {r3 : Nat}  (k : Q (some (.int (-13))) h) : mWp mCd 113 (44, [some (.ref 5), some (.int x1), some (.int x2), some (.ref r3)], [], h, 0, 0) Q := by
  refine mWp_run 1 (t' := (46, [some (.ref 5), some (.int x1), some (.int x2), some (.ref r3)], [.int (-13)], h, 0, 0)) rfl ?_
  exact mWp_r (v := (some (.int (-13)))) rfl k
theorem b114_0 {h : mH} {Q : Option Value → mH → Prop} {x1 : Int32}  (k1 : x1 < 0 → mWp mCd 114 (21, [some (.ref 5), some (.int x1)], [], h, 0, 0) Q) (k2 : ¬ (x1 < 0) → mWp mCd 114 (4, [some (.ref 5), some (.int x1)], [], h, 0, 0) Q) : mWp mCd 114 (0, [some (.ref 5), some (.int x1)], [], h, 0, 0) Q := by
  refine mWp_run 1 (t' := (1, [some (.ref 5), some (.int x1)], [.int x1], h, 0, 0)) rfl ?_
  exact mWp_if (P := fun x => x < 0) (a := x1) rfl k1 k2
theorem b114_21 {h : mH} {Q : Option Value → mH → Prop} {x1 : Int32}  (k : Q (some (.null)) h) : mWp mCd 114 (21, [some (.ref 5), some (.int x1)], [], h, 0, 0) Q := by
  refine mWp_run 2 (t' := (31, [some (.ref 5), some (.int x1)], [.null], h, 0, 0)) rfl ?_
  exact mWp_r (v := (some (.null))) rfl k
theorem b114_4 {h : mH} {Q : Option Value → mH → Prop} {x1 : Int32} {vc : Int32} (e1 : h[5]? = some (oJ vc)) (k1 : vc ≤ x1 → mWp mCd 114 (21, [some (.ref 5), some (.int x1)], [], h, 0, 0) Q) (k2 : ¬ (vc ≤ x1) → mWp mCd 114 (12, [some (.ref 5), some (.int x1)], [], h, 0, 0) Q) : mWp mCd 114 (4, [some (.ref 5), some (.int x1)], [], h, 0, 0) Q := by
  refine mWp_run 2 (t' := (6, [some (.ref 5), some (.int x1)], [.ref 5, .int x1], h, 0, 0)) rfl ?_
  refine mWp_gf rfl e1 rfl rfl ?_
  exact mWp_ic (P := fun x y => y ≤ x) (a := x1) (b := vc) rfl k1 k2
theorem b114_12 {h : mH} {Q : Option Value → mH → Prop} {x1 : Int32} {vc : Int32} {g101 : Nat → Option Nat} (e1 : h[5]? = some (oJ vc)) (e2 : h[6]? = some (aR 2 10 g101)) (k1 : x1 < (Int32.ofNat 10) → mWp mCd 114 (25, [some (.ref 5), some (.int x1)], [], h, 0, 0) Q) (k2 : ¬ (x1 < (Int32.ofNat 10)) → mWp mCd 114 (21, [some (.ref 5), some (.int x1)], [], h, 0, 0) Q) : mWp mCd 114 (12, [some (.ref 5), some (.int x1)], [], h, 0, 0) Q := by
  refine mWp_run 2 (t' := (14, [some (.ref 5), some (.int x1)], [.ref 5, .int x1], h, 0, 0)) rfl ?_
  refine mWp_gf rfl e1 rfl rfl ?_
  refine mWp_aln rfl e2 (by decide) ?_
  exact mWp_ic (P := fun x y => x < y) (a := x1) (b := Int32.ofNat 10) rfl k1 k2
theorem b114_25n {h : mH} {Q : Option Value → mH → Prop} {x1 : Int32} {vc : Int32} {g101 : Nat → Option Nat} (e1 : h[5]? = some (oJ vc)) (e2 : h[6]? = some (aR 2 10 g101)) (e3 : ¬ (x1 < 0 ∨ 10 ≤ x1.toNatClampNeg)) (e4 : g101 x1.toNatClampNeg = none) (k : Q (some (.null)) h) : mWp mCd 114 (25, [some (.ref 5), some (.int x1)], [], h, 0, 0) Q := by
  refine mWp_run 1 (t' := (26, [some (.ref 5), some (.int x1)], [.ref 5], h, 0, 0)) rfl ?_
  refine mWp_gf rfl e1 rfl rfl ?_
  refine mWp_run 1 (t' := (30, [some (.ref 5), some (.int x1)], [.int x1, .ref 6], h, 0, 0)) rfl ?_
  refine mWp_aal rfl (by decide) e2 e3 (by rw [e4]; rfl) ?_
  exact mWp_r (v := (some (.null))) rfl k
theorem b114_25r {h : mH} {Q : Option Value → mH → Prop} {x1 : Int32} {vc : Int32} {g101 : Nat → Option Nat} {q102 : Nat} (e1 : h[5]? = some (oJ vc)) (e2 : h[6]? = some (aR 2 10 g101)) (e3 : ¬ (x1 < 0 ∨ 10 ≤ x1.toNatClampNeg)) (e4 : g101 x1.toNatClampNeg = some q102) (k : Q (some (.ref q102)) h) : mWp mCd 114 (25, [some (.ref 5), some (.int x1)], [], h, 0, 0) Q := by
  refine mWp_run 1 (t' := (26, [some (.ref 5), some (.int x1)], [.ref 5], h, 0, 0)) rfl ?_
  refine mWp_gf rfl e1 rfl rfl ?_
  refine mWp_run 1 (t' := (30, [some (.ref 5), some (.int x1)], [.int x1, .ref 6], h, 0, 0)) rfl ?_
  refine mWp_aal rfl (by decide) e2 e3 (by rw [e4]; rfl) ?_
  exact mWp_r (v := (some (.ref q102))) rfl k
theorem b115_0 {h : mH} {Q : Option Value → mH → Prop} {vc : Int32} {g101 : Nat → Option Nat} (e1 : h[5]? = some (oJ vc)) (e2 : h[6]? = some (aR 2 10 g101)) (k1 : vc < (Int32.ofNat 10) → mWp mCd 115 (16, [some (.ref 5)], [], h, 0, 0) Q) (k2 : ¬ (vc < (Int32.ofNat 10)) → mWp mCd 115 (12, [some (.ref 5)], [], h, 0, 0) Q) : mWp mCd 115 (0, [some (.ref 5)], [], h, 0, 0) Q := by
  refine mWp_run 1 (t' := (1, [some (.ref 5)], [.ref 5], h, 0, 0)) rfl ?_
  refine mWp_gf rfl e1 rfl rfl ?_
  refine mWp_run 1 (t' := (5, [some (.ref 5)], [.ref 5, .int vc], h, 0, 0)) rfl ?_
  refine mWp_gf rfl e1 rfl rfl ?_
  refine mWp_aln rfl e2 (by decide) ?_
  exact mWp_ic (P := fun x y => x < y) (a := vc) (b := Int32.ofNat 10) rfl k1 k2
theorem b115_16 {h : mH} {Q : Option Value → mH → Prop}   (k : Q (some (.int 0)) h) : mWp mCd 115 (16, [some (.ref 5)], [], h, 0, 0) Q := by
  refine mWp_run 1 (t' := (17, [some (.ref 5)], [.int 0], h, 0, 0)) rfl ?_
  exact mWp_r (v := (some (.int 0))) rfl k
theorem b115_12 {h : mH} {Q : Option Value → mH → Prop}   (k : Q (some (.int 1)) h) : mWp mCd 115 (12, [some (.ref 5)], [], h, 0, 0) Q := by
  refine mWp_run 2 (t' := (17, [some (.ref 5)], [.int 1], h, 0, 0)) rfl ?_
  exact mWp_r (v := (some (.int 1))) rfl k
theorem b116_0 {h : mH} {Q : Option Value → mH → Prop} {r1 : Nat} {vc : Int32} (e1 : h[5]? = some (oJ vc)) (k1 : vc < 0 → mWp mCd 116 (14, [some (.ref 5), some (.ref r1)], [], h, 0, 0) Q) (k2 : ¬ (vc < 0) → mWp mCd 116 (7, [some (.ref 5), some (.ref r1)], [], h, 0, 0) Q) : mWp mCd 116 (0, [some (.ref 5), some (.ref r1)], [], h, 0, 0) Q := by
  refine mWp_run 1 (t' := (1, [some (.ref 5), some (.ref r1)], [.ref 5], h, 0, 0)) rfl ?_
  refine mWp_gf rfl e1 rfl rfl ?_
  exact mWp_if (P := fun x => x < 0) (a := vc) rfl k1 k2
theorem b116_14 {h : mH} {Q : Option Value → mH → Prop} {r1 : Nat}  (k : Q (some (.int (-4))) h) : mWp mCd 116 (14, [some (.ref 5), some (.ref r1)], [], h, 0, 0) Q := by
  refine mWp_run 1 (t' := (16, [some (.ref 5), some (.ref r1)], [.int (-4)], h, 0, 0)) rfl ?_
  exact mWp_r (v := (some (.int (-4)))) rfl k
theorem b116_7 {h : mH} {Q : Option Value → mH → Prop} {r1 : Nat} {vc : Int32} (e1 : h[5]? = some (oJ vc)) (k : mCt mCd 115 [.ref 5] h (fun r1 h1 => mWp mCd 116 (11, [some (.ref 5), some (.ref r1)], r1.toList ++ [], h1, 0, 0) Q)) : mWp mCd 116 (7, [some (.ref 5), some (.ref r1)], [], h, 0, 0) Q := by
  refine mWp_run 1 (t' := (8, [some (.ref 5), some (.ref r1)], [.ref 5], h, 0, 0)) rfl ?_
  exact mWp_iv rfl rfl e1 rfl rfl rfl rfl k
theorem b116_11 {h : mH} {Q : Option Value → mH → Prop} {r1 : Nat} {u0 : Int32}  (k1 : u0 = 0 → mWp mCd 116 (17, [some (.ref 5), some (.ref r1)], [], h, 0, 0) Q) (k2 : ¬ (u0 = 0) → mWp mCd 116 (14, [some (.ref 5), some (.ref r1)], [], h, 0, 0) Q) : mWp mCd 116 (11, [some (.ref 5), some (.ref r1)], [.int u0], h, 0, 0) Q := by
  exact mWp_if (P := fun x => x = 0) (a := u0) rfl k1 k2
theorem b116_17 {h : mH} {Q : Option Value → mH → Prop} {r1 : Nat} {vc : Int32} {g101 : Nat → Option Nat} {ci102 : Nat} {fs103 : List Value} (e1 : h[5]? = some (oJ vc)) (e2 : h[6]? = some (aR 2 10 g101)) (e3 : ¬ (vc < 0 ∨ 10 ≤ vc.toNatClampNeg)) (e4 : h[r1]? = some (.inr (ci102, fs103))) (e5 : mCok 2 ci102 = true) (k : Q (some (.int ((vc + 1) - 1))) ((h.set 6 (aR 2 10 (va_up g101 (vc.toNatClampNeg) (some r1)))).set 5 (oJ (vc + 1)))) : mWp mCd 116 (17, [some (.ref 5), some (.ref r1)], [], h, 0, 0) Q := by
  refine mWp_run 1 (t' := (18, [some (.ref 5), some (.ref r1)], [.ref 5], h, 0, 0)) rfl ?_
  refine mWp_gf rfl e1 rfl rfl ?_
  refine mWp_run 1 (t' := (22, [some (.ref 5), some (.ref r1)], [.ref 5, .ref 6], h, 0, 0)) rfl ?_
  refine mWp_gf rfl e1 rfl rfl ?_
  refine mWp_run 1 (t' := (26, [some (.ref 5), some (.ref r1)], [.ref r1, .int vc, .ref 6], h, 0, 0)) rfl ?_
  refine mWp_aas rfl (by decide) e2 e4 e5 e3 ?_
  show mWp mCd 116 (27, [some (.ref 5), some (.ref r1)], [], (h.set 6 (aR 2 10 (va_up g101 (vc.toNatClampNeg) (some r1)))), 0, 0) Q
  refine mWp_run 2 (t' := (29, [some (.ref 5), some (.ref r1)], [.ref 5, .ref 5], (h.set 6 (aR 2 10 (va_up g101 (vc.toNatClampNeg) (some r1)))), 0, 0)) rfl ?_
  refine mWp_gf rfl (mGn (by decide) e1) rfl rfl ?_
  refine mWp_run 2 (t' := (34, [some (.ref 5), some (.ref r1)], [.int (vc + 1), .ref 5], (h.set 6 (aR 2 10 (va_up g101 (vc.toNatClampNeg) (some r1)))), 0, 0)) rfl ?_
  refine mWp_pf rfl (mGn (by decide) e1) rfl rfl rfl ?_
  show mWp mCd 116 (37, [some (.ref 5), some (.ref r1)], [], ((h.set 6 (aR 2 10 (va_up g101 (vc.toNatClampNeg) (some r1)))).set 5 (oJ (vc + 1))), 0, 0) Q
  refine mWp_run 1 (t' := (38, [some (.ref 5), some (.ref r1)], [.ref 5], ((h.set 6 (aR 2 10 (va_up g101 (vc.toNatClampNeg) (some r1)))).set 5 (oJ (vc + 1))), 0, 0)) rfl ?_
  refine mWp_gf rfl (mGs (mGn (by decide) e1)) rfl rfl ?_
  refine mWp_run 2 (t' := (43, [some (.ref 5), some (.ref r1)], [.int ((vc + 1) - 1)], ((h.set 6 (aR 2 10 (va_up g101 (vc.toNatClampNeg) (some r1)))).set 5 (oJ (vc + 1))), 0, 0)) rfl ?_
  exact mWp_r (v := (some (.int ((vc + 1) - 1)))) rfl k
theorem b117_0 {h : mH} {Q : Option Value → mH → Prop} {r0 : Nat} {r1 : Nat} {x2 : Int32} {x3 : Int32}  (k : mWp mCd 117 (3, [some (.ref r0), some (.ref r1), some (.int x2), some (.int x3), some (.int 1), none], [], h, 0, 0) Q) : mWp mCd 117 (0, [some (.ref r0), some (.ref r1), some (.int x2), some (.int x3), none, none], [], h, 0, 0) Q := by
  refine mWp_run 2 (t' := (3, [some (.ref r0), some (.ref r1), some (.int x2), some (.int x3), some (.int 1), none], [], h, 0, 0)) rfl ?_
  exact k
theorem b117_3 {h : mH} {Q : Option Value → mH → Prop} {r0 : Nat} {r1 : Nat} {x2 : Int32} {x3 : Int32} {x4 : Int32} {ci : Nat} {num : Int32} {n : Int32} {fd : Int32} (hc : [1, 2, 4, 6, 8].contains ci = true) (e2 : h[r0]? = some (oV ci r0 num n fd)) (k : mCt mCd 42 [.ref r0] h (fun r1 h1 => mWp mCd 117 (9, [some (.ref r0), some (.ref r1), some (.int x2), some (.int x3), some (.int x4), none], r1.toList ++ [.int x4], h1, 0, 0) Q)) : mWp mCd 117 (3, [some (.ref r0), some (.ref r1), some (.int x2), some (.int x3), some (.int x4), none], [], h, 0, 0) Q := by
  refine mWp_run 2 (t' := (6, [some (.ref r0), some (.ref r1), some (.int x2), some (.int x3), some (.int x4), none], [.ref r0, .int x4], h, 0, 0)) rfl ?_
  exact mWp_iv rfl rfl e2 (mS5 hc) rfl rfl rfl k
theorem b117_9 {h : mH} {Q : Option Value → mH → Prop} {r0 : Nat} {r1 : Nat} {x2 : Int32} {x3 : Int32} {x4 : Int32} {u0 : Int32} {u1 : Int32}  (k1 : u0 < u1 → mWp mCd 117 (55, [some (.ref r0), some (.ref r1), some (.int x2), some (.int x3), some (.int x4), none], [], h, 0, 0) Q) (k2 : ¬ (u0 < u1) → mWp mCd 117 (12, [some (.ref r0), some (.ref r1), some (.int x2), some (.int x3), some (.int x4), none], [], h, 0, 0) Q) : mWp mCd 117 (9, [some (.ref r0), some (.ref r1), some (.int x2), some (.int x3), some (.int x4), none], [.int u0, .int u1], h, 0, 0) Q := by
  exact mWp_ic (P := fun x y => y < x) (a := u1) (b := u0) rfl k1 k2
theorem b117_55 {h : mH} {Q : Option Value → mH → Prop} {r0 : Nat} {r1 : Nat} {x2 : Int32} {x3 : Int32} {x4 : Int32}  (k : Q (some (.int 1)) h) : mWp mCd 117 (55, [some (.ref r0), some (.ref r1), some (.int x2), some (.int x3), some (.int x4), none], [], h, 0, 0) Q := by
  refine mWp_run 1 (t' := (56, [some (.ref r0), some (.ref r1), some (.int x2), some (.int x3), some (.int x4), none], [.int 1], h, 0, 0)) rfl ?_
  exact mWp_r (v := (some (.int 1))) rfl k
theorem b117_12 {h : mH} {Q : Option Value → mH → Prop} {r0 : Nat} {r1 : Nat} {x2 : Int32} {x3 : Int32} {x4 : Int32} {ci : Nat} {num : Int32} {n : Int32} {fd : Int32} (hc : [1, 2, 4, 6, 8].contains ci = true) (e2 : h[r0]? = some (oV ci r0 num n fd)) (k : mCt mCd 46 [.ref r0, .int x4] h (fun r1 h1 => mWp mCd 117 (19, [some (.ref r0), some (.ref r1), some (.int x2), some (.int x3), some (.int x4), none], r1.toList ++ [.int x2], h1, 0, 0) Q)) : mWp mCd 117 (12, [some (.ref r0), some (.ref r1), some (.int x2), some (.int x3), some (.int x4), none], [], h, 0, 0) Q := by
  refine mWp_run 3 (t' := (16, [some (.ref r0), some (.ref r1), some (.int x2), some (.int x3), some (.int x4), none], [.int x4, .ref r0, .int x2], h, 0, 0)) rfl ?_
  exact mWp_iv rfl rfl e2 (mS5 hc) rfl rfl rfl k
theorem b117_19 {h : mH} {Q : Option Value → mH → Prop} {r0 : Nat} {r1 : Nat} {x2 : Int32} {x3 : Int32} {x4 : Int32} {u0 : Int32} {u1 : Int32} {ci : Nat} {num : Int32} {n : Int32} {fd : Int32} (hc : [1, 2, 4, 6, 8].contains ci = true) (e2 : h[r1]? = some (oV ci r1 num n fd)) (k : mCt mCd 46 [.ref r1, .int x4] h (fun r1 h1 => mWp mCd 117 (27, [some (.ref r0), some (.ref r1), some (.int x2), some (.int x3), some (.int x4), none], r1.toList ++ [.int x3, .int (u1 * u0)], h1, 0, 0) Q)) : mWp mCd 117 (19, [some (.ref r0), some (.ref r1), some (.int x2), some (.int x3), some (.int x4), none], [.int u0, .int u1], h, 0, 0) Q := by
  refine mWp_run 4 (t' := (24, [some (.ref r0), some (.ref r1), some (.int x2), some (.int x3), some (.int x4), none], [.int x4, .ref r1, .int x3, .int (u1 * u0)], h, 0, 0)) rfl ?_
  exact mWp_iv rfl rfl e2 (mS5 hc) rfl rfl rfl k
theorem b117_27 {h : mH} {Q : Option Value → mH → Prop} {r0 : Nat} {r1 : Nat} {x2 : Int32} {x3 : Int32} {x4 : Int32} {u0 : Int32} {u1 : Int32} {u2 : Int32}  (k1 : (u2 + (u1 * u0)) < (-1000) → mWp mCd 117 (47, [some (.ref r0), some (.ref r1), some (.int x2), some (.int x3), some (.int x4), some (.int (u2 + (u1 * u0)))], [], h, 0, 0) Q) (k2 : ¬ ((u2 + (u1 * u0)) < (-1000)) → mWp mCd 117 (39, [some (.ref r0), some (.ref r1), some (.int x2), some (.int x3), some (.int x4), some (.int (u2 + (u1 * u0)))], [], h, 0, 0) Q) : mWp mCd 117 (27, [some (.ref r0), some (.ref r1), some (.int x2), some (.int x3), some (.int x4), none], [.int u0, .int u1, .int u2], h, 0, 0) Q := by
  refine mWp_run 5 (t' := (36, [some (.ref r0), some (.ref r1), some (.int x2), some (.int x3), some (.int x4), some (.int (u2 + (u1 * u0)))], [.int (-1000), .int (u2 + (u1 * u0))], h, 0, 0)) rfl ?_
  exact mWp_ic (P := fun x y => x < y) (a := u2 + (u1 * u0)) (b := (-1000)) rfl k1 k2
theorem b117_47 {h : mH} {Q : Option Value → mH → Prop} {r0 : Nat} {r1 : Nat} {x2 : Int32} {x3 : Int32} {x4 : Int32} {x5 : Int32}  (k : Q (some (.int 0)) h) : mWp mCd 117 (47, [some (.ref r0), some (.ref r1), some (.int x2), some (.int x3), some (.int x4), some (.int x5)], [], h, 0, 0) Q := by
  refine mWp_run 1 (t' := (48, [some (.ref r0), some (.ref r1), some (.int x2), some (.int x3), some (.int x4), some (.int x5)], [.int 0], h, 0, 0)) rfl ?_
  exact mWp_r (v := (some (.int 0))) rfl k
theorem b117_39 {h : mH} {Q : Option Value → mH → Prop} {r0 : Nat} {r1 : Nat} {x2 : Int32} {x3 : Int32} {x4 : Int32} {x5 : Int32}  (k1 : x5 ≤ 1000 → mWp mCd 117 (49, [some (.ref r0), some (.ref r1), some (.int x2), some (.int x3), some (.int x4), some (.int x5)], [], h, 0, 0) Q) (k2 : ¬ (x5 ≤ 1000) → mWp mCd 117 (47, [some (.ref r0), some (.ref r1), some (.int x2), some (.int x3), some (.int x4), some (.int x5)], [], h, 0, 0) Q) : mWp mCd 117 (39, [some (.ref r0), some (.ref r1), some (.int x2), some (.int x3), some (.int x4), some (.int x5)], [], h, 0, 0) Q := by
  refine mWp_run 2 (t' := (44, [some (.ref r0), some (.ref r1), some (.int x2), some (.int x3), some (.int x4), some (.int x5)], [.int 1000, .int x5], h, 0, 0)) rfl ?_
  exact mWp_ic (P := fun x y => x ≤ y) (a := x5) (b := 1000) rfl k1 k2
theorem b117_49 {h : mH} {Q : Option Value → mH → Prop} {r0 : Nat} {r1 : Nat} {x2 : Int32} {x3 : Int32} {x4 : Int32} {x5 : Int32}  (k : mWp mCd 117 (3, [some (.ref r0), some (.ref r1), some (.int x2), some (.int x3), some (.int (x4 + 1)), some (.int x5)], [], h, 0, 0) Q) : mWp mCd 117 (49, [some (.ref r0), some (.ref r1), some (.int x2), some (.int x3), some (.int x4), some (.int x5)], [], h, 0, 0) Q := by
  refine mWp_run 2 (t' := (3, [some (.ref r0), some (.ref r1), some (.int x2), some (.int x3), some (.int (x4 + 1)), some (.int x5)], [], h, 0, 0)) rfl ?_
  exact k
theorem b117_3_1 {h : mH} {Q : Option Value → mH → Prop} {r0 : Nat} {r1 : Nat} {x2 : Int32} {x3 : Int32} {x4 : Int32} {x5 : Int32} {ci : Nat} {num : Int32} {n : Int32} {fd : Int32} (hc : [1, 2, 4, 6, 8].contains ci = true) (e2 : h[r0]? = some (oV ci r0 num n fd)) (k : mCt mCd 42 [.ref r0] h (fun r1 h1 => mWp mCd 117 (9, [some (.ref r0), some (.ref r1), some (.int x2), some (.int x3), some (.int x4), some (.int x5)], r1.toList ++ [.int x4], h1, 0, 0) Q)) : mWp mCd 117 (3, [some (.ref r0), some (.ref r1), some (.int x2), some (.int x3), some (.int x4), some (.int x5)], [], h, 0, 0) Q := by
  refine mWp_run 2 (t' := (6, [some (.ref r0), some (.ref r1), some (.int x2), some (.int x3), some (.int x4), some (.int x5)], [.ref r0, .int x4], h, 0, 0)) rfl ?_
  exact mWp_iv rfl rfl e2 (mS5 hc) rfl rfl rfl k
theorem b117_9_1 {h : mH} {Q : Option Value → mH → Prop} {r0 : Nat} {r1 : Nat} {x2 : Int32} {x3 : Int32} {x4 : Int32} {x5 : Int32} {u0 : Int32} {u1 : Int32}  (k1 : u0 < u1 → mWp mCd 117 (55, [some (.ref r0), some (.ref r1), some (.int x2), some (.int x3), some (.int x4), some (.int x5)], [], h, 0, 0) Q) (k2 : ¬ (u0 < u1) → mWp mCd 117 (12, [some (.ref r0), some (.ref r1), some (.int x2), some (.int x3), some (.int x4), some (.int x5)], [], h, 0, 0) Q) : mWp mCd 117 (9, [some (.ref r0), some (.ref r1), some (.int x2), some (.int x3), some (.int x4), some (.int x5)], [.int u0, .int u1], h, 0, 0) Q := by
  exact mWp_ic (P := fun x y => y < x) (a := u1) (b := u0) rfl k1 k2
theorem b117_55_1 {h : mH} {Q : Option Value → mH → Prop} {r0 : Nat} {r1 : Nat} {x2 : Int32} {x3 : Int32} {x4 : Int32} {x5 : Int32}  (k : Q (some (.int 1)) h) : mWp mCd 117 (55, [some (.ref r0), some (.ref r1), some (.int x2), some (.int x3), some (.int x4), some (.int x5)], [], h, 0, 0) Q := by
  refine mWp_run 1 (t' := (56, [some (.ref r0), some (.ref r1), some (.int x2), some (.int x3), some (.int x4), some (.int x5)], [.int 1], h, 0, 0)) rfl ?_
  exact mWp_r (v := (some (.int 1))) rfl k
theorem b117_12_1 {h : mH} {Q : Option Value → mH → Prop} {r0 : Nat} {r1 : Nat} {x2 : Int32} {x3 : Int32} {x4 : Int32} {x5 : Int32} {ci : Nat} {num : Int32} {n : Int32} {fd : Int32} (hc : [1, 2, 4, 6, 8].contains ci = true) (e2 : h[r0]? = some (oV ci r0 num n fd)) (k : mCt mCd 46 [.ref r0, .int x4] h (fun r1 h1 => mWp mCd 117 (19, [some (.ref r0), some (.ref r1), some (.int x2), some (.int x3), some (.int x4), some (.int x5)], r1.toList ++ [.int x2], h1, 0, 0) Q)) : mWp mCd 117 (12, [some (.ref r0), some (.ref r1), some (.int x2), some (.int x3), some (.int x4), some (.int x5)], [], h, 0, 0) Q := by
  refine mWp_run 3 (t' := (16, [some (.ref r0), some (.ref r1), some (.int x2), some (.int x3), some (.int x4), some (.int x5)], [.int x4, .ref r0, .int x2], h, 0, 0)) rfl ?_
  exact mWp_iv rfl rfl e2 (mS5 hc) rfl rfl rfl k
theorem b117_19_1 {h : mH} {Q : Option Value → mH → Prop} {r0 : Nat} {r1 : Nat} {x2 : Int32} {x3 : Int32} {x4 : Int32} {x5 : Int32} {u0 : Int32} {u1 : Int32} {ci : Nat} {num : Int32} {n : Int32} {fd : Int32} (hc : [1, 2, 4, 6, 8].contains ci = true) (e2 : h[r1]? = some (oV ci r1 num n fd)) (k : mCt mCd 46 [.ref r1, .int x4] h (fun r1 h1 => mWp mCd 117 (27, [some (.ref r0), some (.ref r1), some (.int x2), some (.int x3), some (.int x4), some (.int x5)], r1.toList ++ [.int x3, .int (u1 * u0)], h1, 0, 0) Q)) : mWp mCd 117 (19, [some (.ref r0), some (.ref r1), some (.int x2), some (.int x3), some (.int x4), some (.int x5)], [.int u0, .int u1], h, 0, 0) Q := by
  refine mWp_run 4 (t' := (24, [some (.ref r0), some (.ref r1), some (.int x2), some (.int x3), some (.int x4), some (.int x5)], [.int x4, .ref r1, .int x3, .int (u1 * u0)], h, 0, 0)) rfl ?_
  exact mWp_iv rfl rfl e2 (mS5 hc) rfl rfl rfl k
theorem b117_27_1 {h : mH} {Q : Option Value → mH → Prop} {r0 : Nat} {r1 : Nat} {x2 : Int32} {x3 : Int32} {x4 : Int32} {x5 : Int32} {u0 : Int32} {u1 : Int32} {u2 : Int32}  (k1 : (u2 + (u1 * u0)) < (-1000) → mWp mCd 117 (47, [some (.ref r0), some (.ref r1), some (.int x2), some (.int x3), some (.int x4), some (.int (u2 + (u1 * u0)))], [], h, 0, 0) Q) (k2 : ¬ ((u2 + (u1 * u0)) < (-1000)) → mWp mCd 117 (39, [some (.ref r0), some (.ref r1), some (.int x2), some (.int x3), some (.int x4), some (.int (u2 + (u1 * u0)))], [], h, 0, 0) Q) : mWp mCd 117 (27, [some (.ref r0), some (.ref r1), some (.int x2), some (.int x3), some (.int x4), some (.int x5)], [.int u0, .int u1, .int u2], h, 0, 0) Q := by
  refine mWp_run 5 (t' := (36, [some (.ref r0), some (.ref r1), some (.int x2), some (.int x3), some (.int x4), some (.int (u2 + (u1 * u0)))], [.int (-1000), .int (u2 + (u1 * u0))], h, 0, 0)) rfl ?_
  exact mWp_ic (P := fun x y => x < y) (a := u2 + (u1 * u0)) (b := (-1000)) rfl k1 k2
theorem b118_0 {h : mH} {Q : Option Value → mH → Prop} {r0 : Nat} {x1 : Int32} {x2 : Int32}  (k : mWp mCd 118 (2, [some (.ref r0), some (.int x1), some (.int x2), some (.int 0)], [], h, 0, 0) Q) : mWp mCd 118 (0, [some (.ref r0), some (.int x1), some (.int x2), none], [], h, 0, 0) Q := by
  refine mWp_run 2 (t' := (2, [some (.ref r0), some (.int x1), some (.int x2), some (.int 0)], [], h, 0, 0)) rfl ?_
  exact k
theorem b118_2 {h : mH} {Q : Option Value → mH → Prop} {r0 : Nat} {x1 : Int32} {x2 : Int32} {x3 : Int32}  (k1 : x2 ≤ x3 → mWp mCd 118 (28, [some (.ref r0), some (.int x1), some (.int x2), some (.int x3)], [], h, 0, 0) Q) (k2 : ¬ (x2 ≤ x3) → mWp mCd 118 (7, [some (.ref r0), some (.int x1), some (.int x2), some (.int x3)], [], h, 0, 0) Q) : mWp mCd 118 (2, [some (.ref r0), some (.int x1), some (.int x2), some (.int x3)], [], h, 0, 0) Q := by
  refine mWp_run 2 (t' := (4, [some (.ref r0), some (.int x1), some (.int x2), some (.int x3)], [.int x2, .int x3], h, 0, 0)) rfl ?_
  exact mWp_ic (P := fun x y => y ≤ x) (a := x3) (b := x2) rfl k1 k2
theorem b118_28 {h : mH} {Q : Option Value → mH → Prop} {r0 : Nat} {x1 : Int32} {x2 : Int32} {x3 : Int32}  (k : Q (some (.int 1)) h) : mWp mCd 118 (28, [some (.ref r0), some (.int x1), some (.int x2), some (.int x3)], [], h, 0, 0) Q := by
  refine mWp_run 1 (t' := (29, [some (.ref r0), some (.int x1), some (.int x2), some (.int x3)], [.int 1], h, 0, 0)) rfl ?_
  exact mWp_r (v := (some (.int 1))) rfl k
theorem b118_7 {h : mH} {Q : Option Value → mH → Prop} {r0 : Nat} {x1 : Int32} {x2 : Int32} {x3 : Int32} {so : Int32} (e1 : h[r0]? = some (oS r0 so)) (k : mCt mCd 35 [.ref r0, .int (x1 + x3)] h (fun r1 h1 => mWp mCd 118 (14, [some (.ref r0), some (.int x1), some (.int x2), some (.int x3)], r1.toList ++ [], h1, 0, 0) Q)) : mWp mCd 118 (7, [some (.ref r0), some (.int x1), some (.int x2), some (.int x3)], [], h, 0, 0) Q := by
  refine mWp_run 4 (t' := (11, [some (.ref r0), some (.int x1), some (.int x2), some (.int x3)], [.int (x1 + x3), .ref r0], h, 0, 0)) rfl ?_
  exact mWp_iv rfl rfl e1 rfl rfl rfl rfl k
theorem b118_14 {h : mH} {Q : Option Value → mH → Prop} {r0 : Nat} {x1 : Int32} {x2 : Int32} {x3 : Int32} {w0 : Int64}  (k : mCt mCd 120 [.long w0] h (fun r1 h1 => mWp mCd 118 (17, [some (.ref r0), some (.int x1), some (.int x2), some (.int x3)], r1.toList ++ [], h1, 0, 0) Q)) : mWp mCd 118 (14, [some (.ref r0), some (.int x1), some (.int x2), some (.int x3)], [.long w0], h, 0, 0) Q := by
  exact mWp_is rfl rfl rfl rfl rfl k
theorem b118_17 {h : mH} {Q : Option Value → mH → Prop} {r0 : Nat} {x1 : Int32} {x2 : Int32} {x3 : Int32} {u0 : Int32}  (k1 : ¬ u0 = 0 → mWp mCd 118 (22, [some (.ref r0), some (.int x1), some (.int x2), some (.int x3)], [], h, 0, 0) Q) (k2 : ¬ (¬ u0 = 0) → mWp mCd 118 (20, [some (.ref r0), some (.int x1), some (.int x2), some (.int x3)], [], h, 0, 0) Q) : mWp mCd 118 (17, [some (.ref r0), some (.int x1), some (.int x2), some (.int x3)], [.int u0], h, 0, 0) Q := by
  exact mWp_if (P := fun x => ¬ x = 0) (a := u0) rfl k1 k2
theorem b118_22 {h : mH} {Q : Option Value → mH → Prop} {r0 : Nat} {x1 : Int32} {x2 : Int32} {x3 : Int32}  (k : mWp mCd 118 (2, [some (.ref r0), some (.int x1), some (.int x2), some (.int (x3 + 1))], [], h, 0, 0) Q) : mWp mCd 118 (22, [some (.ref r0), some (.int x1), some (.int x2), some (.int x3)], [], h, 0, 0) Q := by
  refine mWp_run 2 (t' := (2, [some (.ref r0), some (.int x1), some (.int x2), some (.int (x3 + 1))], [], h, 0, 0)) rfl ?_
  exact k
theorem b118_20 {h : mH} {Q : Option Value → mH → Prop} {r0 : Nat} {x1 : Int32} {x2 : Int32} {x3 : Int32}  (k : Q (some (.int 0)) h) : mWp mCd 118 (20, [some (.ref r0), some (.int x1), some (.int x2), some (.int x3)], [], h, 0, 0) Q := by
  refine mWp_run 1 (t' := (21, [some (.ref r0), some (.int x1), some (.int x2), some (.int x3)], [.int 0], h, 0, 0)) rfl ?_
  exact mWp_r (v := (some (.int 0))) rfl k
theorem b119_0 {h : mH} {Q : Option Value → mH → Prop} {x0 : Int32}  (k1 : x0 < 1 → mWp mCd 119 (14, [some (.int x0)], [], h, 0, 0) Q) (k2 : ¬ (x0 < 1) → mWp mCd 119 (5, [some (.int x0)], [], h, 0, 0) Q) : mWp mCd 119 (0, [some (.int x0)], [], h, 0, 0) Q := by
  refine mWp_run 2 (t' := (2, [some (.int x0)], [.int 1, .int x0], h, 0, 0)) rfl ?_
  exact mWp_ic (P := fun x y => x < y) (a := x0) (b := 1) rfl k1 k2
theorem b119_14 {h : mH} {Q : Option Value → mH → Prop} {x0 : Int32}  (k : Q (some (.int 0)) h) : mWp mCd 119 (14, [some (.int x0)], [], h, 0, 0) Q := by
  refine mWp_run 1 (t' := (15, [some (.int x0)], [.int 0], h, 0, 0)) rfl ?_
  exact mWp_r (v := (some (.int 0))) rfl k
theorem b119_5 {h : mH} {Q : Option Value → mH → Prop} {x0 : Int32}  (k1 : 4 < x0 → mWp mCd 119 (14, [some (.int x0)], [], h, 0, 0) Q) (k2 : ¬ (4 < x0) → mWp mCd 119 (10, [some (.int x0)], [], h, 0, 0) Q) : mWp mCd 119 (5, [some (.int x0)], [], h, 0, 0) Q := by
  refine mWp_run 2 (t' := (7, [some (.int x0)], [.int 4, .int x0], h, 0, 0)) rfl ?_
  exact mWp_ic (P := fun x y => y < x) (a := x0) (b := 4) rfl k1 k2
theorem b119_10 {h : mH} {Q : Option Value → mH → Prop} {x0 : Int32}  (k : Q (some (.int 1)) h) : mWp mCd 119 (10, [some (.int x0)], [], h, 0, 0) Q := by
  refine mWp_run 2 (t' := (15, [some (.int x0)], [.int 1], h, 0, 0)) rfl ?_
  exact mWp_r (v := (some (.int 1))) rfl k
theorem b120_0 {h : mH} {Q : Option Value → mH → Prop} {y0 : Int64}  (k1 : (lg_cmp y0 (-100)) < 0 → mWp mCd 120 (20, [some (.long y0), none], [], h, 0, 0) Q) (k2 : ¬ ((lg_cmp y0 (-100)) < 0) → mWp mCd 120 (8, [some (.long y0), none], [], h, 0, 0) Q) : mWp mCd 120 (0, [some (.long y0), none], [], h, 0, 0) Q := by
  refine mWp_run 3 (t' := (5, [some (.long y0), none], [.int (lg_cmp y0 (-100))], h, 0, 0)) rfl ?_
  exact mWp_if (P := fun x => x < 0) (a := lg_cmp y0 (-100)) rfl k1 k2
theorem b120_20 {h : mH} {Q : Option Value → mH → Prop} {y0 : Int64}  (k : Q (some (.int 0)) h) : mWp mCd 120 (20, [some (.long y0), none], [], h, 0, 0) Q := by
  refine mWp_run 1 (t' := (21, [some (.long y0), none], [.int 0], h, 0, 0)) rfl ?_
  exact mWp_r (v := (some (.int 0))) rfl k
theorem b120_8 {h : mH} {Q : Option Value → mH → Prop} {y0 : Int64}  (k1 : 0 < (lg_cmp y0 100) → mWp mCd 120 (20, [some (.long y0), none], [], h, 0, 0) Q) (k2 : ¬ (0 < (lg_cmp y0 100)) → mWp mCd 120 (16, [some (.long y0), none], [], h, 0, 0) Q) : mWp mCd 120 (8, [some (.long y0), none], [], h, 0, 0) Q := by
  refine mWp_run 3 (t' := (13, [some (.long y0), none], [.int (lg_cmp y0 100)], h, 0, 0)) rfl ?_
  exact mWp_if (P := fun x => 0 < x) (a := lg_cmp y0 100) rfl k1 k2
theorem b120_16 {h : mH} {Q : Option Value → mH → Prop} {y0 : Int64}  (k : Q (some (.int 1)) h) : mWp mCd 120 (16, [some (.long y0), none], [], h, 0, 0) Q := by
  refine mWp_run 2 (t' := (21, [some (.long y0), none], [.int 1], h, 0, 0)) rfl ?_
  exact mWp_r (v := (some (.int 1))) rfl k
theorem b121_0 {h : mH} {Q : Option Value → mH → Prop} {x0 : Int32}  (k1 : x0 < (-3) → mWp mCd 121 (15, [some (.int x0)], [], h, 0, 0) Q) (k2 : ¬ (x0 < (-3)) → mWp mCd 121 (6, [some (.int x0)], [], h, 0, 0) Q) : mWp mCd 121 (0, [some (.int x0)], [], h, 0, 0) Q := by
  refine mWp_run 2 (t' := (3, [some (.int x0)], [.int (-3), .int x0], h, 0, 0)) rfl ?_
  exact mWp_ic (P := fun x y => x < y) (a := x0) (b := (-3)) rfl k1 k2
theorem b121_15 {h : mH} {Q : Option Value → mH → Prop} {x0 : Int32}  (k : Q (some (.int 0)) h) : mWp mCd 121 (15, [some (.int x0)], [], h, 0, 0) Q := by
  refine mWp_run 1 (t' := (16, [some (.int x0)], [.int 0], h, 0, 0)) rfl ?_
  exact mWp_r (v := (some (.int 0))) rfl k
theorem b121_6 {h : mH} {Q : Option Value → mH → Prop} {x0 : Int32}  (k1 : 3 < x0 → mWp mCd 121 (15, [some (.int x0)], [], h, 0, 0) Q) (k2 : ¬ (3 < x0) → mWp mCd 121 (11, [some (.int x0)], [], h, 0, 0) Q) : mWp mCd 121 (6, [some (.int x0)], [], h, 0, 0) Q := by
  refine mWp_run 2 (t' := (8, [some (.int x0)], [.int 3, .int x0], h, 0, 0)) rfl ?_
  exact mWp_ic (P := fun x y => y < x) (a := x0) (b := 3) rfl k1 k2
theorem b121_11 {h : mH} {Q : Option Value → mH → Prop} {x0 : Int32}  (k : Q (some (.int 1)) h) : mWp mCd 121 (11, [some (.int x0)], [], h, 0, 0) Q := by
  refine mWp_run 2 (t' := (16, [some (.int x0)], [.int 1], h, 0, 0)) rfl ?_
  exact mWp_r (v := (some (.int 1))) rfl k
theorem b122_0 {h : mH} {Q : Option Value → mH → Prop} {x0 : Int32}  (k1 : x0 = 0 → mWp mCd 122 (9, [some (.int x0)], [], h, 0, 0) Q) (k2 : ¬ (x0 = 0) → mWp mCd 122 (4, [some (.int x0)], [], h, 0, 0) Q) : mWp mCd 122 (0, [some (.int x0)], [], h, 0, 0) Q := by
  refine mWp_run 1 (t' := (1, [some (.int x0)], [.int x0], h, 0, 0)) rfl ?_
  exact mWp_if (P := fun x => x = 0) (a := x0) rfl k1 k2
theorem b122_9 {h : mH} {Q : Option Value → mH → Prop} {x0 : Int32}  (k : Q (some (.int 1)) h) : mWp mCd 122 (9, [some (.int x0)], [], h, 0, 0) Q := by
  refine mWp_run 2 (t' := (14, [some (.int x0)], [.int 1], h, 0, 0)) rfl ?_
  exact mWp_r (v := (some (.int 1))) rfl k
theorem b122_4 {h : mH} {Q : Option Value → mH → Prop} {x0 : Int32}  (k1 : ¬ x0 = 1 → mWp mCd 122 (13, [some (.int x0)], [], h, 0, 0) Q) (k2 : ¬ (¬ x0 = 1) → mWp mCd 122 (9, [some (.int x0)], [], h, 0, 0) Q) : mWp mCd 122 (4, [some (.int x0)], [], h, 0, 0) Q := by
  refine mWp_run 2 (t' := (6, [some (.int x0)], [.int 1, .int x0], h, 0, 0)) rfl ?_
  exact mWp_ic (P := fun x y => ¬ x = y) (a := x0) (b := 1) rfl k1 k2
theorem b122_13 {h : mH} {Q : Option Value → mH → Prop} {x0 : Int32}  (k : Q (some (.int 0)) h) : mWp mCd 122 (13, [some (.int x0)], [], h, 0, 0) Q := by
  refine mWp_run 1 (t' := (14, [some (.int x0)], [.int 0], h, 0, 0)) rfl ?_
  exact mWp_r (v := (some (.int 0))) rfl k
theorem b123_0 {h : mH} {Q : Option Value → mH → Prop} {x1 : Int32}  (k1 : x1 < 0 → mWp mCd 123 (17, [some (.ref 5), some (.int x1)], [], h, 0, 0) Q) (k2 : ¬ (x1 < 0) → mWp mCd 123 (4, [some (.ref 5), some (.int x1)], [], h, 0, 0) Q) : mWp mCd 123 (0, [some (.ref 5), some (.int x1)], [], h, 0, 0) Q := by
  refine mWp_run 1 (t' := (1, [some (.ref 5), some (.int x1)], [.int x1], h, 0, 0)) rfl ?_
  exact mWp_if (P := fun x => x < 0) (a := x1) rfl k1 k2
theorem b123_17 {h : mH} {Q : Option Value → mH → Prop} {x1 : Int32}  (k : Q (some (.int 0)) h) : mWp mCd 123 (17, [some (.ref 5), some (.int x1)], [], h, 0, 0) Q := by
  refine mWp_run 1 (t' := (18, [some (.ref 5), some (.int x1)], [.int 0], h, 0, 0)) rfl ?_
  exact mWp_r (v := (some (.int 0))) rfl k
theorem b123_4 {h : mH} {Q : Option Value → mH → Prop} {x1 : Int32} {vc : Int32} {g101 : Nat → Option Nat} (e1 : h[5]? = some (oJ vc)) (e2 : h[13]? = some (aR 3 4 g101)) (k1 : (Int32.ofNat 4) ≤ x1 → mWp mCd 123 (17, [some (.ref 5), some (.int x1)], [], h, 0, 0) Q) (k2 : ¬ ((Int32.ofNat 4) ≤ x1) → mWp mCd 123 (13, [some (.ref 5), some (.int x1)], [], h, 0, 0) Q) : mWp mCd 123 (4, [some (.ref 5), some (.int x1)], [], h, 0, 0) Q := by
  refine mWp_run 2 (t' := (6, [some (.ref 5), some (.int x1)], [.ref 5, .int x1], h, 0, 0)) rfl ?_
  refine mWp_gf rfl e1 rfl rfl ?_
  refine mWp_aln rfl e2 (by decide) ?_
  exact mWp_ic (P := fun x y => y ≤ x) (a := x1) (b := Int32.ofNat 4) rfl k1 k2
theorem b123_13 {h : mH} {Q : Option Value → mH → Prop} {x1 : Int32}  (k : Q (some (.int 1)) h) : mWp mCd 123 (13, [some (.ref 5), some (.int x1)], [], h, 0, 0) Q := by
  refine mWp_run 2 (t' := (18, [some (.ref 5), some (.int x1)], [.int 1], h, 0, 0)) rfl ?_
  exact mWp_r (v := (some (.int 1))) rfl k
theorem b124_0 {h : mH} {Q : Option Value → mH → Prop} {x0 : Int32}  (k1 : x0 < 0 → mWp mCd 124 (13, [some (.int x0)], [], h, 0, 0) Q) (k2 : ¬ (x0 < 0) → mWp mCd 124 (4, [some (.int x0)], [], h, 0, 0) Q) : mWp mCd 124 (0, [some (.int x0)], [], h, 0, 0) Q := by
  refine mWp_run 1 (t' := (1, [some (.int x0)], [.int x0], h, 0, 0)) rfl ?_
  exact mWp_if (P := fun x => x < 0) (a := x0) rfl k1 k2
theorem b124_13 {h : mH} {Q : Option Value → mH → Prop} {x0 : Int32}  (k : Q (some (.int 0)) h) : mWp mCd 124 (13, [some (.int x0)], [], h, 0, 0) Q := by
  refine mWp_run 1 (t' := (14, [some (.int x0)], [.int 0], h, 0, 0)) rfl ?_
  exact mWp_r (v := (some (.int 0))) rfl k
theorem b124_4 {h : mH} {Q : Option Value → mH → Prop} {x0 : Int32}  (k1 : 2 < x0 → mWp mCd 124 (13, [some (.int x0)], [], h, 0, 0) Q) (k2 : ¬ (2 < x0) → mWp mCd 124 (9, [some (.int x0)], [], h, 0, 0) Q) : mWp mCd 124 (4, [some (.int x0)], [], h, 0, 0) Q := by
  refine mWp_run 2 (t' := (6, [some (.int x0)], [.int 2, .int x0], h, 0, 0)) rfl ?_
  exact mWp_ic (P := fun x y => y < x) (a := x0) (b := 2) rfl k1 k2
theorem b124_9 {h : mH} {Q : Option Value → mH → Prop} {x0 : Int32}  (k : Q (some (.int 1)) h) : mWp mCd 124 (9, [some (.int x0)], [], h, 0, 0) Q := by
  refine mWp_run 2 (t' := (14, [some (.int x0)], [.int 1], h, 0, 0)) rfl ?_
  exact mWp_r (v := (some (.int 1))) rfl k
theorem b125_0 {h : mH} {Q : Option Value → mH → Prop} {x0 : Int32} {x1 : Int32} {x2 : Int32}  (k : mWp mCd 125 (5, [some (.int x0), some (.int x1), some (.int x2), some (.int 1), some (.int 0)], [], h, 0, 0) Q) : mWp mCd 125 (0, [some (.int x0), some (.int x1), some (.int x2), none, none], [], h, 0, 0) Q := by
  refine mWp_run 4 (t' := (5, [some (.int x0), some (.int x1), some (.int x2), some (.int 1), some (.int 0)], [], h, 0, 0)) rfl ?_
  exact k
theorem b125_5 {h : mH} {Q : Option Value → mH → Prop} {x0 : Int32} {x1 : Int32} {x2 : Int32} {x3 : Int32} {x4 : Int32}  (k1 : x2 ≤ x4 → mWp mCd 125 (21, [some (.int x0), some (.int x1), some (.int x2), some (.int x3), some (.int x4)], [], h, 0, 0) Q) (k2 : ¬ (x2 ≤ x4) → mWp mCd 125 (11, [some (.int x0), some (.int x1), some (.int x2), some (.int x3), some (.int x4)], [], h, 0, 0) Q) : mWp mCd 125 (5, [some (.int x0), some (.int x1), some (.int x2), some (.int x3), some (.int x4)], [], h, 0, 0) Q := by
  refine mWp_run 2 (t' := (8, [some (.int x0), some (.int x1), some (.int x2), some (.int x3), some (.int x4)], [.int x2, .int x4], h, 0, 0)) rfl ?_
  exact mWp_ic (P := fun x y => y ≤ x) (a := x4) (b := x2) rfl k1 k2
theorem b125_21 {h : mH} {Q : Option Value → mH → Prop} {x0 : Int32} {x1 : Int32} {x2 : Int32} {x3 : Int32} {x4 : Int32}  (k1 : x0 < 0 → mWp mCd 125 (34, [some (.int x0), some (.int x1), some (.int x2), some (.int x3), some (.int x4)], [], h, 0, 0) Q) (k2 : ¬ (x0 < 0) → mWp mCd 125 (25, [some (.int x0), some (.int x1), some (.int x2), some (.int x3), some (.int x4)], [], h, 0, 0) Q) : mWp mCd 125 (21, [some (.int x0), some (.int x1), some (.int x2), some (.int x3), some (.int x4)], [], h, 0, 0) Q := by
  refine mWp_run 1 (t' := (22, [some (.int x0), some (.int x1), some (.int x2), some (.int x3), some (.int x4)], [.int x0], h, 0, 0)) rfl ?_
  exact mWp_if (P := fun x => x < 0) (a := x0) rfl k1 k2
theorem b125_11 {h : mH} {Q : Option Value → mH → Prop} {x0 : Int32} {x1 : Int32} {x2 : Int32} {x3 : Int32} {x4 : Int32}  (k : mWp mCd 125 (5, [some (.int x0), some (.int x1), some (.int x2), some (.int (x3 * x1)), some (.int (x4 + 1))], [], h, 0, 0) Q) : mWp mCd 125 (11, [some (.int x0), some (.int x1), some (.int x2), some (.int x3), some (.int x4)], [], h, 0, 0) Q := by
  refine mWp_run 6 (t' := (5, [some (.int x0), some (.int x1), some (.int x2), some (.int (x3 * x1)), some (.int (x4 + 1))], [], h, 0, 0)) rfl ?_
  exact k
theorem b125_34 {h : mH} {Q : Option Value → mH → Prop} {x0 : Int32} {x1 : Int32} {x2 : Int32} {x3 : Int32} {x4 : Int32}  (k : Q (some (.int 0)) h) : mWp mCd 125 (34, [some (.int x0), some (.int x1), some (.int x2), some (.int x3), some (.int x4)], [], h, 0, 0) Q := by
  refine mWp_run 1 (t' := (35, [some (.int x0), some (.int x1), some (.int x2), some (.int x3), some (.int x4)], [.int 0], h, 0, 0)) rfl ?_
  exact mWp_r (v := (some (.int 0))) rfl k
theorem b125_25 {h : mH} {Q : Option Value → mH → Prop} {x0 : Int32} {x1 : Int32} {x2 : Int32} {x3 : Int32} {x4 : Int32}  (k1 : x3 ≤ x0 → mWp mCd 125 (34, [some (.int x0), some (.int x1), some (.int x2), some (.int x3), some (.int x4)], [], h, 0, 0) Q) (k2 : ¬ (x3 ≤ x0) → mWp mCd 125 (30, [some (.int x0), some (.int x1), some (.int x2), some (.int x3), some (.int x4)], [], h, 0, 0) Q) : mWp mCd 125 (25, [some (.int x0), some (.int x1), some (.int x2), some (.int x3), some (.int x4)], [], h, 0, 0) Q := by
  refine mWp_run 2 (t' := (27, [some (.int x0), some (.int x1), some (.int x2), some (.int x3), some (.int x4)], [.int x3, .int x0], h, 0, 0)) rfl ?_
  exact mWp_ic (P := fun x y => y ≤ x) (a := x0) (b := x3) rfl k1 k2
