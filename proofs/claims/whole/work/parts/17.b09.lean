theorem b221_252 {h : mH} {Q : Option Value → mH → Prop} {r0 : Nat} {r1 : Nat} {r2 : Nat} {x3 : Int32} {c : Nat} {s : Nat} (e1 : Nat.ble c 600000 = true) (e2 : Nat.ble s 7302250 = true) (k : Q (some (.int 0)) h) : mWp mCd 221 (252, [some (.ref r0), some (.ref r1), some (.ref r2), some (.int x3)], [], h, c, s) Q := by
  refine mWp_run 1 (t' := (253, [some (.ref r0), some (.ref r1), some (.ref r2), some (.int x3)], [.int 0], h, c, s)) rfl ?_
  refine mWp_r (v := (some (.int 0))) (by show a_zret _ _ _ _ _ _ _ = _; simp only [a_zret, e1, e2]; rfl) k
theorem b221_295 {h : mH} {Q : Option Value → mH → Prop} {r0 : Nat} {r1 : Nat} {r2 : Nat} {x3 : Int32} {c : Nat} {s : Nat} (e1 : Nat.ble c 600000 = true) (e2 : Nat.ble s 7302250 = true) (k : Q (some (.int 0)) h) : mWp mCd 221 (295, [some (.ref r0), some (.ref r1), some (.ref r2), some (.int x3)], [], h, c, s) Q := by
  refine mWp_run 1 (t' := (296, [some (.ref r0), some (.ref r1), some (.ref r2), some (.int x3)], [.int 0], h, c, s)) rfl ?_
  refine mWp_r (v := (some (.int 0))) (by show a_zret _ _ _ _ _ _ _ = _; simp only [a_zret, e1, e2]; rfl) k
theorem b221_328 {h : mH} {Q : Option Value → mH → Prop} {r0 : Nat} {r1 : Nat} {r2 : Nat} {x3 : Int32} {c : Nat} {s : Nat} (e1 : Nat.ble c 600000 = true) (e2 : Nat.ble s 7302250 = true) (k : Q (some (.int 0)) h) : mWp mCd 221 (328, [some (.ref r0), some (.ref r1), some (.ref r2), some (.int x3)], [], h, c, s) Q := by
  refine mWp_run 1 (t' := (329, [some (.ref r0), some (.ref r1), some (.ref r2), some (.int x3)], [.int 0], h, c, s)) rfl ?_
  refine mWp_r (v := (some (.int 0))) (by show a_zret _ _ _ _ _ _ _ = _; simp only [a_zret, e1, e2]; rfl) k
theorem b221_361 {h : mH} {Q : Option Value → mH → Prop} {r0 : Nat} {r1 : Nat} {r2 : Nat} {x3 : Int32} {c : Nat} {s : Nat} (e1 : Nat.ble c 600000 = true) (e2 : Nat.ble s 7302250 = true) (k : Q (some (.int 0)) h) : mWp mCd 221 (361, [some (.ref r0), some (.ref r1), some (.ref r2), some (.int x3)], [], h, c, s) Q := by
  refine mWp_run 1 (t' := (362, [some (.ref r0), some (.ref r1), some (.ref r2), some (.int x3)], [.int 0], h, c, s)) rfl ?_
  refine mWp_r (v := (some (.int 0))) (by show a_zret _ _ _ _ _ _ _ = _; simp only [a_zret, e1, e2]; rfl) k
theorem b221_414 {h : mH} {Q : Option Value → mH → Prop} {r0 : Nat} {r1 : Nat} {r2 : Nat} {x3 : Int32} {c : Nat} {s : Nat} (e1 : Nat.ble c 600000 = true) (e2 : Nat.ble s 7302250 = true) (k : Q (some (.int 0)) h) : mWp mCd 221 (414, [some (.ref r0), some (.ref r1), some (.ref r2), some (.int x3)], [], h, c, s) Q := by
  refine mWp_run 1 (t' := (415, [some (.ref r0), some (.ref r1), some (.ref r2), some (.int x3)], [.int 0], h, c, s)) rfl ?_
  refine mWp_r (v := (some (.int 0))) (by show a_zret _ _ _ _ _ _ _ = _; simp only [a_zret, e1, e2]; rfl) k
theorem b221_447 {h : mH} {Q : Option Value → mH → Prop} {r0 : Nat} {r1 : Nat} {r2 : Nat} {x3 : Int32} {c : Nat} {s : Nat} (e1 : Nat.ble c 600000 = true) (e2 : Nat.ble s 7302250 = true) (k : Q (some (.int 0)) h) : mWp mCd 221 (447, [some (.ref r0), some (.ref r1), some (.ref r2), some (.int x3)], [], h, c, s) Q := by
  refine mWp_run 1 (t' := (448, [some (.ref r0), some (.ref r1), some (.ref r2), some (.int x3)], [.int 0], h, c, s)) rfl ?_
  refine mWp_r (v := (some (.int 0))) (by show a_zret _ _ _ _ _ _ _ = _; simp only [a_zret, e1, e2]; rfl) k
theorem b221_490 {h : mH} {Q : Option Value → mH → Prop} {r0 : Nat} {r1 : Nat} {r2 : Nat} {x3 : Int32} {c : Nat} {s : Nat} (e1 : Nat.ble c 600000 = true) (e2 : Nat.ble s 7302250 = true) (k : Q (some (.int 0)) h) : mWp mCd 221 (490, [some (.ref r0), some (.ref r1), some (.ref r2), some (.int x3)], [], h, c, s) Q := by
  refine mWp_run 1 (t' := (491, [some (.ref r0), some (.ref r1), some (.ref r2), some (.int x3)], [.int 0], h, c, s)) rfl ?_
  refine mWp_r (v := (some (.int 0))) (by show a_zret _ _ _ _ _ _ _ = _; simp only [a_zret, e1, e2]; rfl) k
theorem b221_513 {h : mH} {Q : Option Value → mH → Prop} {r0 : Nat} {r1 : Nat} {r2 : Nat} {x3 : Int32} {c : Nat} {s : Nat} (e1 : Nat.ble c 600000 = true) (e2 : Nat.ble s 7302250 = true) (k : Q (some (.int 0)) h) : mWp mCd 221 (513, [some (.ref r0), some (.ref r1), some (.ref r2), some (.int x3)], [], h, c, s) Q := by
  refine mWp_run 1 (t' := (514, [some (.ref r0), some (.ref r1), some (.ref r2), some (.int x3)], [.int 0], h, c, s)) rfl ?_
  refine mWp_r (v := (some (.int 0))) (by show a_zret _ _ _ _ _ _ _ = _; simp only [a_zret, e1, e2]; rfl) k
theorem b221_526 {h : mH} {Q : Option Value → mH → Prop} {r0 : Nat} {r1 : Nat} {r2 : Nat} {x3 : Int32} {c : Nat} {s : Nat} (e1 : Nat.ble c 600000 = true) (e2 : Nat.ble s 7302250 = true) (k : Q (some (.int 0)) h) : mWp mCd 221 (526, [some (.ref r0), some (.ref r1), some (.ref r2), some (.int x3)], [], h, c, s) Q := by
  refine mWp_run 1 (t' := (527, [some (.ref r0), some (.ref r1), some (.ref r2), some (.int x3)], [.int 0], h, c, s)) rfl ?_
  refine mWp_r (v := (some (.int 0))) (by show a_zret _ _ _ _ _ _ _ = _; simp only [a_zret, e1, e2]; rfl) k
theorem b221_559 {h : mH} {Q : Option Value → mH → Prop} {r0 : Nat} {r1 : Nat} {r2 : Nat} {x3 : Int32} {c : Nat} {s : Nat} (e1 : Nat.ble c 600000 = true) (e2 : Nat.ble s 7302250 = true) (k : Q (some (.int 0)) h) : mWp mCd 221 (559, [some (.ref r0), some (.ref r1), some (.ref r2), some (.int x3)], [], h, c, s) Q := by
  refine mWp_run 1 (t' := (560, [some (.ref r0), some (.ref r1), some (.ref r2), some (.int x3)], [.int 0], h, c, s)) rfl ?_
  refine mWp_r (v := (some (.int 0))) (by show a_zret _ _ _ _ _ _ _ = _; simp only [a_zret, e1, e2]; rfl) k
theorem b221_593 {h : mH} {Q : Option Value → mH → Prop} {r0 : Nat} {r1 : Nat} {r2 : Nat} {x3 : Int32} {c : Nat} {s : Nat} (e1 : Nat.ble c 600000 = true) (e2 : Nat.ble s 7302250 = true) (k : Q (some (.int 0)) h) : mWp mCd 221 (593, [some (.ref r0), some (.ref r1), some (.ref r2), some (.int x3)], [], h, c, s) Q := by
  refine mWp_run 1 (t' := (594, [some (.ref r0), some (.ref r1), some (.ref r2), some (.int x3)], [.int 0], h, c, s)) rfl ?_
  refine mWp_r (v := (some (.int 0))) (by show a_zret _ _ _ _ _ _ _ = _; simp only [a_zret, e1, e2]; rfl) k
theorem b221_637 {h : mH} {Q : Option Value → mH → Prop} {r0 : Nat} {r1 : Nat} {r2 : Nat} {x3 : Int32} {c : Nat} {s : Nat} (e1 : Nat.ble c 600000 = true) (e2 : Nat.ble s 7302250 = true) (k : Q (some (.int 0)) h) : mWp mCd 221 (637, [some (.ref r0), some (.ref r1), some (.ref r2), some (.int x3)], [], h, c, s) Q := by
  refine mWp_run 1 (t' := (638, [some (.ref r0), some (.ref r1), some (.ref r2), some (.int x3)], [.int 0], h, c, s)) rfl ?_
  refine mWp_r (v := (some (.int 0))) (by show a_zret _ _ _ _ _ _ _ = _; simp only [a_zret, e1, e2]; rfl) k
theorem b221_691 {h : mH} {Q : Option Value → mH → Prop} {r0 : Nat} {r1 : Nat} {r2 : Nat} {x3 : Int32} {c : Nat} {s : Nat} (e1 : Nat.ble c 600000 = true) (e2 : Nat.ble s 7302250 = true) (k : Q (some (.int 0)) h) : mWp mCd 221 (691, [some (.ref r0), some (.ref r1), some (.ref r2), some (.int x3)], [], h, c, s) Q := by
  refine mWp_run 1 (t' := (692, [some (.ref r0), some (.ref r1), some (.ref r2), some (.int x3)], [.int 0], h, c, s)) rfl ?_
  refine mWp_r (v := (some (.int 0))) (by show a_zret _ _ _ _ _ _ _ = _; simp only [a_zret, e1, e2]; rfl) k
theorem b221_745 {h : mH} {Q : Option Value → mH → Prop} {r0 : Nat} {r1 : Nat} {r2 : Nat} {x3 : Int32} {c : Nat} {s : Nat} (e1 : Nat.ble c 600000 = true) (e2 : Nat.ble s 7302250 = true) (k : Q (some (.int 0)) h) : mWp mCd 221 (745, [some (.ref r0), some (.ref r1), some (.ref r2), some (.int x3)], [], h, c, s) Q := by
  refine mWp_run 1 (t' := (746, [some (.ref r0), some (.ref r1), some (.ref r2), some (.int x3)], [.int 0], h, c, s)) rfl ?_
  refine mWp_r (v := (some (.int 0))) (by show a_zret _ _ _ _ _ _ _ = _; simp only [a_zret, e1, e2]; rfl) k
theorem b221_778 {h : mH} {Q : Option Value → mH → Prop} {r0 : Nat} {r1 : Nat} {r2 : Nat} {x3 : Int32} {c : Nat} {s : Nat} (e1 : Nat.ble c 600000 = true) (e2 : Nat.ble s 7302250 = true) (k : Q (some (.int 0)) h) : mWp mCd 221 (778, [some (.ref r0), some (.ref r1), some (.ref r2), some (.int x3)], [], h, c, s) Q := by
  refine mWp_run 1 (t' := (779, [some (.ref r0), some (.ref r1), some (.ref r2), some (.int x3)], [.int 0], h, c, s)) rfl ?_
  refine mWp_r (v := (some (.int 0))) (by show a_zret _ _ _ _ _ _ _ = _; simp only [a_zret, e1, e2]; rfl) k
theorem b221_832 {h : mH} {Q : Option Value → mH → Prop} {r0 : Nat} {r1 : Nat} {r2 : Nat} {x3 : Int32} {c : Nat} {s : Nat} (e1 : Nat.ble c 600000 = true) (e2 : Nat.ble s 7302250 = true) (k : Q (some (.int 0)) h) : mWp mCd 221 (832, [some (.ref r0), some (.ref r1), some (.ref r2), some (.int x3)], [], h, c, s) Q := by
  refine mWp_run 1 (t' := (833, [some (.ref r0), some (.ref r1), some (.ref r2), some (.int x3)], [.int 0], h, c, s)) rfl ?_
  refine mWp_r (v := (some (.int 0))) (by show a_zret _ _ _ _ _ _ _ = _; simp only [a_zret, e1, e2]; rfl) k
theorem b221_886 {h : mH} {Q : Option Value → mH → Prop} {r0 : Nat} {r1 : Nat} {r2 : Nat} {x3 : Int32} {c : Nat} {s : Nat} (e1 : Nat.ble c 600000 = true) (e2 : Nat.ble s 7302250 = true) (k : Q (some (.int 0)) h) : mWp mCd 221 (886, [some (.ref r0), some (.ref r1), some (.ref r2), some (.int x3)], [], h, c, s) Q := by
  refine mWp_run 1 (t' := (887, [some (.ref r0), some (.ref r1), some (.ref r2), some (.int x3)], [.int 0], h, c, s)) rfl ?_
  refine mWp_r (v := (some (.int 0))) (by show a_zret _ _ _ _ _ _ _ = _; simp only [a_zret, e1, e2]; rfl) k
theorem b221_920 {h : mH} {Q : Option Value → mH → Prop} {r0 : Nat} {r1 : Nat} {r2 : Nat} {x3 : Int32} {c : Nat} {s : Nat} (e1 : Nat.ble c 600000 = true) (e2 : Nat.ble s 7302250 = true) (k : Q (some (.int 0)) h) : mWp mCd 221 (920, [some (.ref r0), some (.ref r1), some (.ref r2), some (.int x3)], [], h, c, s) Q := by
  refine mWp_run 1 (t' := (921, [some (.ref r0), some (.ref r1), some (.ref r2), some (.int x3)], [.int 0], h, c, s)) rfl ?_
  refine mWp_r (v := (some (.int 0))) (by show a_zret _ _ _ _ _ _ _ = _; simp only [a_zret, e1, e2]; rfl) k
theorem b221_964 {h : mH} {Q : Option Value → mH → Prop} {r0 : Nat} {r1 : Nat} {r2 : Nat} {x3 : Int32} {c : Nat} {s : Nat} (e1 : Nat.ble c 600000 = true) (e2 : Nat.ble s 7302250 = true) (k : Q (some (.int 0)) h) : mWp mCd 221 (964, [some (.ref r0), some (.ref r1), some (.ref r2), some (.int x3)], [], h, c, s) Q := by
  refine mWp_run 1 (t' := (965, [some (.ref r0), some (.ref r1), some (.ref r2), some (.int x3)], [.int 0], h, c, s)) rfl ?_
  refine mWp_r (v := (some (.int 0))) (by show a_zret _ _ _ _ _ _ _ = _; simp only [a_zret, e1, e2]; rfl) k
theorem b221_987 {h : mH} {Q : Option Value → mH → Prop} {r0 : Nat} {r1 : Nat} {r2 : Nat} {x3 : Int32} {c : Nat} {s : Nat} (e1 : Nat.ble c 600000 = true) (e2 : Nat.ble s 7302250 = true) (k : Q (some (.int 0)) h) : mWp mCd 221 (987, [some (.ref r0), some (.ref r1), some (.ref r2), some (.int x3)], [], h, c, s) Q := by
  refine mWp_run 1 (t' := (988, [some (.ref r0), some (.ref r1), some (.ref r2), some (.int x3)], [.int 0], h, c, s)) rfl ?_
  refine mWp_r (v := (some (.int 0))) (by show a_zret _ _ _ _ _ _ _ = _; simp only [a_zret, e1, e2]; rfl) k
theorem b221_1030 {h : mH} {Q : Option Value → mH → Prop} {r0 : Nat} {r1 : Nat} {r2 : Nat} {x3 : Int32} {c : Nat} {s : Nat} (e1 : Nat.ble c 600000 = true) (e2 : Nat.ble s 7302250 = true) (k : Q (some (.int 0)) h) : mWp mCd 221 (1030, [some (.ref r0), some (.ref r1), some (.ref r2), some (.int x3)], [], h, c, s) Q := by
  refine mWp_run 1 (t' := (1031, [some (.ref r0), some (.ref r1), some (.ref r2), some (.int x3)], [.int 0], h, c, s)) rfl ?_
  refine mWp_r (v := (some (.int 0))) (by show a_zret _ _ _ _ _ _ _ = _; simp only [a_zret, e1, e2]; rfl) k
theorem b221_1073 {h : mH} {Q : Option Value → mH → Prop} {r0 : Nat} {r1 : Nat} {r2 : Nat} {x3 : Int32} {c : Nat} {s : Nat} (e1 : Nat.ble c 600000 = true) (e2 : Nat.ble s 7302250 = true) (k : Q (some (.int 0)) h) : mWp mCd 221 (1073, [some (.ref r0), some (.ref r1), some (.ref r2), some (.int x3)], [], h, c, s) Q := by
  refine mWp_run 1 (t' := (1074, [some (.ref r0), some (.ref r1), some (.ref r2), some (.int x3)], [.int 0], h, c, s)) rfl ?_
  refine mWp_r (v := (some (.int 0))) (by show a_zret _ _ _ _ _ _ _ = _; simp only [a_zret, e1, e2]; rfl) k
theorem b221_1096 {h : mH} {Q : Option Value → mH → Prop} {r0 : Nat} {r1 : Nat} {r2 : Nat} {x3 : Int32} {c : Nat} {s : Nat} (e1 : Nat.ble c 600000 = true) (e2 : Nat.ble s 7302250 = true) (k : Q (some (.int 0)) h) : mWp mCd 221 (1096, [some (.ref r0), some (.ref r1), some (.ref r2), some (.int x3)], [], h, c, s) Q := by
  refine mWp_run 1 (t' := (1097, [some (.ref r0), some (.ref r1), some (.ref r2), some (.int x3)], [.int 0], h, c, s)) rfl ?_
  refine mWp_r (v := (some (.int 0))) (by show a_zret _ _ _ _ _ _ _ = _; simp only [a_zret, e1, e2]; rfl) k
theorem b221_1120 {h : mH} {Q : Option Value → mH → Prop} {r0 : Nat} {r1 : Nat} {r2 : Nat} {x3 : Int32} {c : Nat} {s : Nat} (e1 : Nat.ble c 600000 = true) (e2 : Nat.ble s 7302250 = true) (k : Q (some (.int 0)) h) : mWp mCd 221 (1120, [some (.ref r0), some (.ref r1), some (.ref r2), some (.int x3)], [], h, c, s) Q := by
  refine mWp_run 1 (t' := (1121, [some (.ref r0), some (.ref r1), some (.ref r2), some (.int x3)], [.int 0], h, c, s)) rfl ?_
  refine mWp_r (v := (some (.int 0))) (by show a_zret _ _ _ _ _ _ _ = _; simp only [a_zret, e1, e2]; rfl) k
theorem b221_1183 {h : mH} {Q : Option Value → mH → Prop} {r0 : Nat} {r1 : Nat} {r2 : Nat} {x3 : Int32} {c : Nat} {s : Nat} (e1 : Nat.ble c 600000 = true) (e2 : Nat.ble s 7302250 = true) (k : Q (some (.int 0)) h) : mWp mCd 221 (1183, [some (.ref r0), some (.ref r1), some (.ref r2), some (.int x3)], [], h, c, s) Q := by
  refine mWp_run 1 (t' := (1184, [some (.ref r0), some (.ref r1), some (.ref r2), some (.int x3)], [.int 0], h, c, s)) rfl ?_
  refine mWp_r (v := (some (.int 0))) (by show a_zret _ _ _ _ _ _ _ = _; simp only [a_zret, e1, e2]; rfl) k
theorem b221_1206 {h : mH} {Q : Option Value → mH → Prop} {r0 : Nat} {r1 : Nat} {r2 : Nat} {x3 : Int32} {c : Nat} {s : Nat} (e1 : Nat.ble c 600000 = true) (e2 : Nat.ble s 7302250 = true) (k : Q (some (.int 0)) h) : mWp mCd 221 (1206, [some (.ref r0), some (.ref r1), some (.ref r2), some (.int x3)], [], h, c, s) Q := by
  refine mWp_run 1 (t' := (1207, [some (.ref r0), some (.ref r1), some (.ref r2), some (.int x3)], [.int 0], h, c, s)) rfl ?_
  refine mWp_r (v := (some (.int 0))) (by show a_zret _ _ _ _ _ _ _ = _; simp only [a_zret, e1, e2]; rfl) k
theorem b221_1249 {h : mH} {Q : Option Value → mH → Prop} {r0 : Nat} {r1 : Nat} {r2 : Nat} {x3 : Int32} {c : Nat} {s : Nat} (e1 : Nat.ble c 600000 = true) (e2 : Nat.ble s 7302250 = true) (k : Q (some (.int 0)) h) : mWp mCd 221 (1249, [some (.ref r0), some (.ref r1), some (.ref r2), some (.int x3)], [], h, c, s) Q := by
  refine mWp_run 1 (t' := (1250, [some (.ref r0), some (.ref r1), some (.ref r2), some (.int x3)], [.int 0], h, c, s)) rfl ?_
  refine mWp_r (v := (some (.int 0))) (by show a_zret _ _ _ _ _ _ _ = _; simp only [a_zret, e1, e2]; rfl) k
theorem b221_1272 {h : mH} {Q : Option Value → mH → Prop} {r0 : Nat} {r1 : Nat} {r2 : Nat} {x3 : Int32} {c : Nat} {s : Nat} (e1 : Nat.ble c 600000 = true) (e2 : Nat.ble s 7302250 = true) (k : Q (some (.int 0)) h) : mWp mCd 221 (1272, [some (.ref r0), some (.ref r1), some (.ref r2), some (.int x3)], [], h, c, s) Q := by
  refine mWp_run 1 (t' := (1273, [some (.ref r0), some (.ref r1), some (.ref r2), some (.int x3)], [.int 0], h, c, s)) rfl ?_
  refine mWp_r (v := (some (.int 0))) (by show a_zret _ _ _ _ _ _ _ = _; simp only [a_zret, e1, e2]; rfl) k
theorem b221_1295 {h : mH} {Q : Option Value → mH → Prop} {r0 : Nat} {r1 : Nat} {r2 : Nat} {x3 : Int32} {c : Nat} {s : Nat} (e1 : Nat.ble c 600000 = true) (e2 : Nat.ble s 7302250 = true) (k : Q (some (.int 0)) h) : mWp mCd 221 (1295, [some (.ref r0), some (.ref r1), some (.ref r2), some (.int x3)], [], h, c, s) Q := by
  refine mWp_run 1 (t' := (1296, [some (.ref r0), some (.ref r1), some (.ref r2), some (.int x3)], [.int 0], h, c, s)) rfl ?_
  refine mWp_r (v := (some (.int 0))) (by show a_zret _ _ _ _ _ _ _ = _; simp only [a_zret, e1, e2]; rfl) k
theorem b221_1338 {h : mH} {Q : Option Value → mH → Prop} {r0 : Nat} {r1 : Nat} {r2 : Nat} {x3 : Int32} {c : Nat} {s : Nat} (e1 : Nat.ble c 600000 = true) (e2 : Nat.ble s 7302250 = true) (k : Q (some (.int 0)) h) : mWp mCd 221 (1338, [some (.ref r0), some (.ref r1), some (.ref r2), some (.int x3)], [], h, c, s) Q := by
  refine mWp_run 1 (t' := (1339, [some (.ref r0), some (.ref r1), some (.ref r2), some (.int x3)], [.int 0], h, c, s)) rfl ?_
  refine mWp_r (v := (some (.int 0))) (by show a_zret _ _ _ _ _ _ _ = _; simp only [a_zret, e1, e2]; rfl) k
theorem b221_1381 {h : mH} {Q : Option Value → mH → Prop} {r0 : Nat} {r1 : Nat} {r2 : Nat} {x3 : Int32} {c : Nat} {s : Nat} (e1 : Nat.ble c 600000 = true) (e2 : Nat.ble s 7302250 = true) (k : Q (some (.int 0)) h) : mWp mCd 221 (1381, [some (.ref r0), some (.ref r1), some (.ref r2), some (.int x3)], [], h, c, s) Q := by
  refine mWp_run 1 (t' := (1382, [some (.ref r0), some (.ref r1), some (.ref r2), some (.int x3)], [.int 0], h, c, s)) rfl ?_
  refine mWp_r (v := (some (.int 0))) (by show a_zret _ _ _ _ _ _ _ = _; simp only [a_zret, e1, e2]; rfl) k
theorem b221_1434 {h : mH} {Q : Option Value → mH → Prop} {r0 : Nat} {r1 : Nat} {r2 : Nat} {x3 : Int32} {c : Nat} {s : Nat} (e1 : Nat.ble c 600000 = true) (e2 : Nat.ble s 7302250 = true) (k : Q (some (.int 0)) h) : mWp mCd 221 (1434, [some (.ref r0), some (.ref r1), some (.ref r2), some (.int x3)], [], h, c, s) Q := by
  refine mWp_run 1 (t' := (1435, [some (.ref r0), some (.ref r1), some (.ref r2), some (.int x3)], [.int 0], h, c, s)) rfl ?_
  refine mWp_r (v := (some (.int 0))) (by show a_zret _ _ _ _ _ _ _ = _; simp only [a_zret, e1, e2]; rfl) k
theorem b221_1497 {h : mH} {Q : Option Value → mH → Prop} {r0 : Nat} {r1 : Nat} {r2 : Nat} {x3 : Int32} {c : Nat} {s : Nat} (e1 : Nat.ble c 600000 = true) (e2 : Nat.ble s 7302250 = true) (k : Q (some (.int 0)) h) : mWp mCd 221 (1497, [some (.ref r0), some (.ref r1), some (.ref r2), some (.int x3)], [], h, c, s) Q := by
  refine mWp_run 1 (t' := (1498, [some (.ref r0), some (.ref r1), some (.ref r2), some (.int x3)], [.int 0], h, c, s)) rfl ?_
  refine mWp_r (v := (some (.int 0))) (by show a_zret _ _ _ _ _ _ _ = _; simp only [a_zret, e1, e2]; rfl) k
theorem b221_1530 {h : mH} {Q : Option Value → mH → Prop} {r0 : Nat} {r1 : Nat} {r2 : Nat} {x3 : Int32} {c : Nat} {s : Nat} (e1 : Nat.ble c 600000 = true) (e2 : Nat.ble s 7302250 = true) (k : Q (some (.int 0)) h) : mWp mCd 221 (1530, [some (.ref r0), some (.ref r1), some (.ref r2), some (.int x3)], [], h, c, s) Q := by
  refine mWp_run 1 (t' := (1531, [some (.ref r0), some (.ref r1), some (.ref r2), some (.int x3)], [.int 0], h, c, s)) rfl ?_
  refine mWp_r (v := (some (.int 0))) (by show a_zret _ _ _ _ _ _ _ = _; simp only [a_zret, e1, e2]; rfl) k
