theorem b221_745 {h : mH} {Q : Option Value → mH → Prop} {c : Nat} {s : Nat} (e1 : Nat.ble c 600000 = true) (e2 : Nat.ble s 7302250 = true) (k : Q (some (.int (iZ 0))) h) : mWp mCd 221 (745, [none, none, none, none], [], h, c, s) Q := by
  refine mWp_run 1 (t' := (746, [none, none, none, none], [.int (iZ 0)], h, c, s)) rfl ?_
  exact mWp_zr rfl (by decide +kernel) e1 e2 k
theorem b221_778 {h : mH} {Q : Option Value → mH → Prop} {c : Nat} {s : Nat} (e1 : Nat.ble c 600000 = true) (e2 : Nat.ble s 7302250 = true) (k : Q (some (.int (iZ 0))) h) : mWp mCd 221 (778, [none, none, none, none], [], h, c, s) Q := by
  refine mWp_run 1 (t' := (779, [none, none, none, none], [.int (iZ 0)], h, c, s)) rfl ?_
  exact mWp_zr rfl (by decide +kernel) e1 e2 k
theorem b221_832 {h : mH} {Q : Option Value → mH → Prop} {c : Nat} {s : Nat} (e1 : Nat.ble c 600000 = true) (e2 : Nat.ble s 7302250 = true) (k : Q (some (.int (iZ 0))) h) : mWp mCd 221 (832, [none, none, none, none], [], h, c, s) Q := by
  refine mWp_run 1 (t' := (833, [none, none, none, none], [.int (iZ 0)], h, c, s)) rfl ?_
  exact mWp_zr rfl (by decide +kernel) e1 e2 k
theorem b221_886 {h : mH} {Q : Option Value → mH → Prop} {c : Nat} {s : Nat} (e1 : Nat.ble c 600000 = true) (e2 : Nat.ble s 7302250 = true) (k : Q (some (.int (iZ 0))) h) : mWp mCd 221 (886, [none, none, none, none], [], h, c, s) Q := by
  refine mWp_run 1 (t' := (887, [none, none, none, none], [.int (iZ 0)], h, c, s)) rfl ?_
  exact mWp_zr rfl (by decide +kernel) e1 e2 k
theorem b221_920 {h : mH} {Q : Option Value → mH → Prop} {c : Nat} {s : Nat} (e1 : Nat.ble c 600000 = true) (e2 : Nat.ble s 7302250 = true) (k : Q (some (.int (iZ 0))) h) : mWp mCd 221 (920, [none, none, none, none], [], h, c, s) Q := by
  refine mWp_run 1 (t' := (921, [none, none, none, none], [.int (iZ 0)], h, c, s)) rfl ?_
  exact mWp_zr rfl (by decide +kernel) e1 e2 k
theorem b221_964 {h : mH} {Q : Option Value → mH → Prop} {c : Nat} {s : Nat} (e1 : Nat.ble c 600000 = true) (e2 : Nat.ble s 7302250 = true) (k : Q (some (.int (iZ 0))) h) : mWp mCd 221 (964, [none, none, none, none], [], h, c, s) Q := by
  refine mWp_run 1 (t' := (965, [none, none, none, none], [.int (iZ 0)], h, c, s)) rfl ?_
  exact mWp_zr rfl (by decide +kernel) e1 e2 k
theorem b221_987 {h : mH} {Q : Option Value → mH → Prop} {c : Nat} {s : Nat} (e1 : Nat.ble c 600000 = true) (e2 : Nat.ble s 7302250 = true) (k : Q (some (.int (iZ 0))) h) : mWp mCd 221 (987, [none, none, none, none], [], h, c, s) Q := by
  refine mWp_run 1 (t' := (988, [none, none, none, none], [.int (iZ 0)], h, c, s)) rfl ?_
  exact mWp_zr rfl (by decide +kernel) e1 e2 k
theorem b221_1030 {h : mH} {Q : Option Value → mH → Prop} {c : Nat} {s : Nat} (e1 : Nat.ble c 600000 = true) (e2 : Nat.ble s 7302250 = true) (k : Q (some (.int (iZ 0))) h) : mWp mCd 221 (1030, [none, none, none, none], [], h, c, s) Q := by
  refine mWp_run 1 (t' := (1031, [none, none, none, none], [.int (iZ 0)], h, c, s)) rfl ?_
  exact mWp_zr rfl (by decide +kernel) e1 e2 k
theorem b221_1073 {h : mH} {Q : Option Value → mH → Prop} {c : Nat} {s : Nat} (e1 : Nat.ble c 600000 = true) (e2 : Nat.ble s 7302250 = true) (k : Q (some (.int (iZ 0))) h) : mWp mCd 221 (1073, [none, none, none, none], [], h, c, s) Q := by
  refine mWp_run 1 (t' := (1074, [none, none, none, none], [.int (iZ 0)], h, c, s)) rfl ?_
  exact mWp_zr rfl (by decide +kernel) e1 e2 k
theorem b221_1096 {h : mH} {Q : Option Value → mH → Prop} {c : Nat} {s : Nat} (e1 : Nat.ble c 600000 = true) (e2 : Nat.ble s 7302250 = true) (k : Q (some (.int (iZ 0))) h) : mWp mCd 221 (1096, [none, none, none, none], [], h, c, s) Q := by
  refine mWp_run 1 (t' := (1097, [none, none, none, none], [.int (iZ 0)], h, c, s)) rfl ?_
  exact mWp_zr rfl (by decide +kernel) e1 e2 k
theorem b221_1120 {h : mH} {Q : Option Value → mH → Prop} {c : Nat} {s : Nat} (e1 : Nat.ble c 600000 = true) (e2 : Nat.ble s 7302250 = true) (k : Q (some (.int (iZ 0))) h) : mWp mCd 221 (1120, [none, none, none, none], [], h, c, s) Q := by
  refine mWp_run 1 (t' := (1121, [none, none, none, none], [.int (iZ 0)], h, c, s)) rfl ?_
  exact mWp_zr rfl (by decide +kernel) e1 e2 k
theorem b221_1183 {h : mH} {Q : Option Value → mH → Prop} {c : Nat} {s : Nat} (e1 : Nat.ble c 600000 = true) (e2 : Nat.ble s 7302250 = true) (k : Q (some (.int (iZ 0))) h) : mWp mCd 221 (1183, [none, none, none, none], [], h, c, s) Q := by
  refine mWp_run 1 (t' := (1184, [none, none, none, none], [.int (iZ 0)], h, c, s)) rfl ?_
  exact mWp_zr rfl (by decide +kernel) e1 e2 k
theorem b221_1206 {h : mH} {Q : Option Value → mH → Prop} {c : Nat} {s : Nat} (e1 : Nat.ble c 600000 = true) (e2 : Nat.ble s 7302250 = true) (k : Q (some (.int (iZ 0))) h) : mWp mCd 221 (1206, [none, none, none, none], [], h, c, s) Q := by
  refine mWp_run 1 (t' := (1207, [none, none, none, none], [.int (iZ 0)], h, c, s)) rfl ?_
  exact mWp_zr rfl (by decide +kernel) e1 e2 k
theorem b221_1249 {h : mH} {Q : Option Value → mH → Prop} {c : Nat} {s : Nat} (e1 : Nat.ble c 600000 = true) (e2 : Nat.ble s 7302250 = true) (k : Q (some (.int (iZ 0))) h) : mWp mCd 221 (1249, [none, none, none, none], [], h, c, s) Q := by
  refine mWp_run 1 (t' := (1250, [none, none, none, none], [.int (iZ 0)], h, c, s)) rfl ?_
  exact mWp_zr rfl (by decide +kernel) e1 e2 k
theorem b221_1272 {h : mH} {Q : Option Value → mH → Prop} {c : Nat} {s : Nat} (e1 : Nat.ble c 600000 = true) (e2 : Nat.ble s 7302250 = true) (k : Q (some (.int (iZ 0))) h) : mWp mCd 221 (1272, [none, none, none, none], [], h, c, s) Q := by
  refine mWp_run 1 (t' := (1273, [none, none, none, none], [.int (iZ 0)], h, c, s)) rfl ?_
  exact mWp_zr rfl (by decide +kernel) e1 e2 k
theorem b221_1295 {h : mH} {Q : Option Value → mH → Prop} {c : Nat} {s : Nat} (e1 : Nat.ble c 600000 = true) (e2 : Nat.ble s 7302250 = true) (k : Q (some (.int (iZ 0))) h) : mWp mCd 221 (1295, [none, none, none, none], [], h, c, s) Q := by
  refine mWp_run 1 (t' := (1296, [none, none, none, none], [.int (iZ 0)], h, c, s)) rfl ?_
  exact mWp_zr rfl (by decide +kernel) e1 e2 k
theorem b221_1338 {h : mH} {Q : Option Value → mH → Prop} {c : Nat} {s : Nat} (e1 : Nat.ble c 600000 = true) (e2 : Nat.ble s 7302250 = true) (k : Q (some (.int (iZ 0))) h) : mWp mCd 221 (1338, [none, none, none, none], [], h, c, s) Q := by
  refine mWp_run 1 (t' := (1339, [none, none, none, none], [.int (iZ 0)], h, c, s)) rfl ?_
  exact mWp_zr rfl (by decide +kernel) e1 e2 k
theorem b221_1381 {h : mH} {Q : Option Value → mH → Prop} {c : Nat} {s : Nat} (e1 : Nat.ble c 600000 = true) (e2 : Nat.ble s 7302250 = true) (k : Q (some (.int (iZ 0))) h) : mWp mCd 221 (1381, [none, none, none, none], [], h, c, s) Q := by
  refine mWp_run 1 (t' := (1382, [none, none, none, none], [.int (iZ 0)], h, c, s)) rfl ?_
  exact mWp_zr rfl (by decide +kernel) e1 e2 k
theorem b221_1434 {h : mH} {Q : Option Value → mH → Prop} {c : Nat} {s : Nat} (e1 : Nat.ble c 600000 = true) (e2 : Nat.ble s 7302250 = true) (k : Q (some (.int (iZ 0))) h) : mWp mCd 221 (1434, [none, none, none, none], [], h, c, s) Q := by
  refine mWp_run 1 (t' := (1435, [none, none, none, none], [.int (iZ 0)], h, c, s)) rfl ?_
  exact mWp_zr rfl (by decide +kernel) e1 e2 k
theorem b221_1497 {h : mH} {Q : Option Value → mH → Prop} {c : Nat} {s : Nat} (e1 : Nat.ble c 600000 = true) (e2 : Nat.ble s 7302250 = true) (k : Q (some (.int (iZ 0))) h) : mWp mCd 221 (1497, [none, none, none, none], [], h, c, s) Q := by
  refine mWp_run 1 (t' := (1498, [none, none, none, none], [.int (iZ 0)], h, c, s)) rfl ?_
  exact mWp_zr rfl (by decide +kernel) e1 e2 k
theorem b221_1530 {h : mH} {Q : Option Value → mH → Prop} {c : Nat} {s : Nat} (e1 : Nat.ble c 600000 = true) (e2 : Nat.ble s 7302250 = true) (k : Q (some (.int (iZ 0))) h) : mWp mCd 221 (1530, [none, none, none, none], [], h, c, s) Q := by
  refine mWp_run 1 (t' := (1531, [none, none, none, none], [.int (iZ 0)], h, c, s)) rfl ?_
  exact mWp_zr rfl (by decide +kernel) e1 e2 k
