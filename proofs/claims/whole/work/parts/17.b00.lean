/-! ===== cells by their kinds ===== -/
abbrev oM (v cor : Int32) (bA bB : Int64) (rw bo : Int32) : mE := .inr (10, [.int v, .ref 15, .ref 16, .ref 17, .ref 18, .int cor, .ref 19, .ref 20, .long bA, .long bB, .ref 21, .ref 22, .ref 23, .int rw, .ref 24, .ref 25, .int bo, .ref 26, .ref 27, .ref 28, .ref 29])
abbrev oJ (vc : Int32) : mE := .inr (9, [.ref 6, .int vc, .ref 7, .ref 9, .ref 11, .ref 13])
abbrev oT (ran : Int32) : mE := .inr (7, [.int ran, .ref 12])
abbrev oV (ci a : Nat) (num n fd : Int32) : mE := .inr (ci, [.int num, .int n, .ref (a + 1), .ref (a + 2), .ref (a + 3), .int fd])
abbrev oK (a : Nat) (cc tw : Int32) : mE := .inr (0, [.int cc, .ref (a + 1), .ref (a + 2), .ref (a + 3), .ref (a + 4), .ref (a + 5), .int tw])
abbrev oP (a : Nat) (sz : Int32) : mE := .inr (3, [.int sz, .ref (a + 1)])
abbrev oS (a : Nat) (so : Int32) : mE := .inr (5, [.int so, .ref (a + 1)])
abbrev aI (n : Nat) (f : Nat → Int32) : mE := .inl (0, n, .inl f)
abbrev aL (n : Nat) (f : Nat → Int64) : mE := .inl (1, n, .inr (.inl f))
abbrev aR (t n : Nat) (f : Nat → Option Nat) : mE := .inl (t, n, .inr (.inr (.inr (.inr f))))

theorem en0 {h : mH} {Q : Option Value → mH → Prop} {r0 : Nat} (k : mWp mCd 0 (0, [some (.ref r0)], [], h, 0, 0) Q) : mCt mCd 0 [.ref r0] h Q := mCt_in (Nat.le_of_ble_eq_true rfl) k
theorem en1 {h : mH} {Q : Option Value → mH → Prop} {r0 : Nat} {x1 : Int32} {x2 : Int32} (k : mWp mCd 1 (0, [some (.ref r0), some (.int x1), some (.int x2), none], [], h, 0, 0) Q) : mCt mCd 1 [.ref r0, .int x1, .int x2] h Q := mCt_in (Nat.le_of_ble_eq_true rfl) k
theorem en2 {h : mH} {Q : Option Value → mH → Prop} {r0 : Nat} {x1 : Int32} {x2 : Int32} (k : mWp mCd 2 (0, [some (.ref r0), some (.int x1), some (.int x2), none, none, none], [], h, 0, 0) Q) : mCt mCd 2 [.ref r0, .int x1, .int x2] h Q := mCt_in (Nat.le_of_ble_eq_true rfl) k
theorem en3 {h : mH} {Q : Option Value → mH → Prop} {r0 : Nat} {r1 : Nat} (k : mWp mCd 3 (0, [some (.ref r0), some (.ref r1), none, none, none], [], h, 0, 0) Q) : mCt mCd 3 [.ref r0, .ref r1] h Q := mCt_in (Nat.le_of_ble_eq_true rfl) k
theorem en4 {h : mH} {Q : Option Value → mH → Prop} {r0 : Nat} {r1 : Nat} (k : mWp mCd 4 (0, [some (.ref r0), some (.ref r1), none, none], [], h, 0, 0) Q) : mCt mCd 4 [.ref r0, .ref r1] h Q := mCt_in (Nat.le_of_ble_eq_true rfl) k
theorem en5 {h : mH} {Q : Option Value → mH → Prop} {r0 : Nat} (k : mWp mCd 5 (0, [some (.ref r0), none], [], h, 0, 0) Q) : mCt mCd 5 [.ref r0] h Q := mCt_in (Nat.le_of_ble_eq_true rfl) k
theorem en6 {h : mH} {Q : Option Value → mH → Prop} {r0 : Nat} {x1 : Int32} {x2 : Int32} {x3 : Int32} (k : mWp mCd 6 (0, [some (.ref r0), some (.int x1), some (.int x2), some (.int x3), none, none], [], h, 0, 0) Q) : mCt mCd 6 [.ref r0, .int x1, .int x2, .int x3] h Q := mCt_in (Nat.le_of_ble_eq_true rfl) k
theorem en7 {h : mH} {Q : Option Value → mH → Prop} {x0 : Int32} {x1 : Int32} {x2 : Int32} (k : mWp mCd 7 (0, [some (.int x0), some (.int x1), some (.int x2), none, none], [], h, 0, 0) Q) : mCt mCd 7 [.int x0, .int x1, .int x2] h Q := mCt_in (Nat.le_of_ble_eq_true rfl) k
theorem en8 {h : mH} {Q : Option Value → mH → Prop} {r0 : Nat} {x1 : Int32} {x2 : Int32} (k : mWp mCd 8 (0, [some (.ref r0), some (.int x1), some (.int x2)], [], h, 0, 0) Q) : mCt mCd 8 [.ref r0, .int x1, .int x2] h Q := mCt_in (Nat.le_of_ble_eq_true rfl) k
theorem en9 {h : mH} {Q : Option Value → mH → Prop} {r0 : Nat} {x1 : Int32} {x2 : Int32} {x3 : Int32} {x4 : Int32} (k : mWp mCd 9 (0, [some (.ref r0), some (.int x1), some (.int x2), some (.int x3), some (.int x4), none, none, none], [], h, 0, 0) Q) : mCt mCd 9 [.ref r0, .int x1, .int x2, .int x3, .int x4] h Q := mCt_in (Nat.le_of_ble_eq_true rfl) k
theorem en10 {h : mH} {Q : Option Value → mH → Prop} {r0 : Nat} (k : mWp mCd 10 (0, [some (.ref r0), none, none, none], [], h, 0, 0) Q) : mCt mCd 10 [.ref r0] h Q := mCt_in (Nat.le_of_ble_eq_true rfl) k
theorem en11 {h : mH} {Q : Option Value → mH → Prop} {r0 : Nat} {x1 : Int32} {x2 : Int32} (k : mWp mCd 11 (0, [some (.ref r0), some (.int x1), some (.int x2)], [], h, 0, 0) Q) : mCt mCd 11 [.ref r0, .int x1, .int x2] h Q := mCt_in (Nat.le_of_ble_eq_true rfl) k
theorem en12 {h : mH} {Q : Option Value → mH → Prop} {r0 : Nat} (k : mWp mCd 12 (0, [some (.ref r0), none, none, none, none], [], h, 0, 0) Q) : mCt mCd 12 [.ref r0] h Q := mCt_in (Nat.le_of_ble_eq_true rfl) k
theorem en13 {h : mH} {Q : Option Value → mH → Prop} {r0 : Nat} {x1 : Int32} (k : mWp mCd 13 (0, [some (.ref r0), some (.int x1), none, none], [], h, 0, 0) Q) : mCt mCd 13 [.ref r0, .int x1] h Q := mCt_in (Nat.le_of_ble_eq_true rfl) k
theorem en14 {h : mH} {Q : Option Value → mH → Prop} {r0 : Nat} {x1 : Int32} {x2 : Int32} {x3 : Int32} (k : mWp mCd 14 (0, [some (.ref r0), some (.int x1), some (.int x2), some (.int x3), none], [], h, 0, 0) Q) : mCt mCd 14 [.ref r0, .int x1, .int x2, .int x3] h Q := mCt_in (Nat.le_of_ble_eq_true rfl) k
theorem en15 {h : mH} {Q : Option Value → mH → Prop} {r0 : Nat} (k : mWp mCd 15 (0, [some (.ref r0)], [], h, 0, 0) Q) : mCt mCd 15 [.ref r0] h Q := mCt_in (Nat.le_of_ble_eq_true rfl) k
theorem en16 {h : mH} {Q : Option Value → mH → Prop} {r0 : Nat} {x1 : Int32} {r2 : Nat} (k : mWp mCd 16 (0, [some (.ref r0), some (.int x1), some (.ref r2), none], [], h, 0, 0) Q) : mCt mCd 16 [.ref r0, .int x1, .ref r2] h Q := mCt_in (Nat.le_of_ble_eq_true rfl) k
theorem en17 {h : mH} {Q : Option Value → mH → Prop} {r0 : Nat} {x1 : Int32} {x2 : Int32} (k : mWp mCd 17 (0, [some (.ref r0), some (.int x1), some (.int x2)], [], h, 0, 0) Q) : mCt mCd 17 [.ref r0, .int x1, .int x2] h Q := mCt_in (Nat.le_of_ble_eq_true rfl) k
theorem en18 {h : mH} {Q : Option Value → mH → Prop} {r0 : Nat} (k : mWp mCd 18 (0, [some (.ref r0)], [], h, 0, 0) Q) : mCt mCd 18 [.ref r0] h Q := mCt_in (Nat.le_of_ble_eq_true rfl) k
theorem en19 {h : mH} {Q : Option Value → mH → Prop} {r0 : Nat} {x1 : Int32} {r2 : Nat} (k : mWp mCd 19 (0, [some (.ref r0), some (.int x1), some (.ref r2)], [], h, 0, 0) Q) : mCt mCd 19 [.ref r0, .int x1, .ref r2] h Q := mCt_in (Nat.le_of_ble_eq_true rfl) k
theorem en20 {h : mH} {Q : Option Value → mH → Prop} {r0 : Nat} {x1 : Int32} {r2 : Nat} (k : mWp mCd 20 (0, [some (.ref r0), some (.int x1), some (.ref r2), none], [], h, 0, 0) Q) : mCt mCd 20 [.ref r0, .int x1, .ref r2] h Q := mCt_in (Nat.le_of_ble_eq_true rfl) k
theorem en21 {h : mH} {Q : Option Value → mH → Prop} {r0 : Nat} (k : mWp mCd 21 (0, [some (.ref r0)], [], h, 0, 0) Q) : mCt mCd 21 [.ref r0] h Q := mCt_in (Nat.le_of_ble_eq_true rfl) k
theorem en22 {h : mH} {Q : Option Value → mH → Prop} {r0 : Nat} {r1 : Nat} (k : mWp mCd 22 (0, [some (.ref r0), some (.ref r1), none, none], [], h, 0, 0) Q) : mCt mCd 22 [.ref r0, .ref r1] h Q := mCt_in (Nat.le_of_ble_eq_true rfl) k
theorem en23 {h : mH} {Q : Option Value → mH → Prop} {r0 : Nat} {y1 : Int64} {y3 : Int64} (k : mWp mCd 23 (0, [some (.ref r0), some (.long y1), none, some (.long y3), none], [], h, 0, 0) Q) : mCt mCd 23 [.ref r0, .long y1, .long y3] h Q := mCt_in (Nat.le_of_ble_eq_true rfl) k
theorem en24 {h : mH} {Q : Option Value → mH → Prop} {r0 : Nat} {y1 : Int64} (k : mWp mCd 24 (0, [some (.ref r0), some (.long y1), none], [], h, 0, 0) Q) : mCt mCd 24 [.ref r0, .long y1] h Q := mCt_in (Nat.le_of_ble_eq_true rfl) k
theorem en25 {h : mH} {Q : Option Value → mH → Prop} {r0 : Nat} {x1 : Int32} (k : mWp mCd 25 (0, [some (.ref r0), some (.int x1)], [], h, 0, 0) Q) : mCt mCd 25 [.ref r0, .int x1] h Q := mCt_in (Nat.le_of_ble_eq_true rfl) k
theorem en26 {h : mH} {Q : Option Value → mH → Prop} {r0 : Nat} {x1 : Int32} (k : mWp mCd 26 (0, [some (.ref r0), some (.int x1)], [], h, 0, 0) Q) : mCt mCd 26 [.ref r0, .int x1] h Q := mCt_in (Nat.le_of_ble_eq_true rfl) k
theorem en27 {h : mH} {Q : Option Value → mH → Prop} {r0 : Nat} {x1 : Int32} {y2 : Int64} (k : mWp mCd 27 (0, [some (.ref r0), some (.int x1), some (.long y2), none], [], h, 0, 0) Q) : mCt mCd 27 [.ref r0, .int x1, .long y2] h Q := mCt_in (Nat.le_of_ble_eq_true rfl) k
theorem en28 {h : mH} {Q : Option Value → mH → Prop} {r0 : Nat} {r1 : Nat} (k : mWp mCd 28 (0, [some (.ref r0), some (.ref r1), none], [], h, 0, 0) Q) : mCt mCd 28 [.ref r0, .ref r1] h Q := mCt_in (Nat.le_of_ble_eq_true rfl) k
theorem en29 {h : mH} {Q : Option Value → mH → Prop} {r0 : Nat} {x1 : Int32} {x2 : Int32} {x3 : Int32} (k : mWp mCd 29 (0, [some (.ref r0), some (.int x1), some (.int x2), some (.int x3), none], [], h, 0, 0) Q) : mCt mCd 29 [.ref r0, .int x1, .int x2, .int x3] h Q := mCt_in (Nat.le_of_ble_eq_true rfl) k
theorem en30 {h : mH} {Q : Option Value → mH → Prop} {x0 : Int32} {x1 : Int32} (k : mWp mCd 30 (0, [some (.int x0), some (.int x1), none, none, none], [], h, 0, 0) Q) : mCt mCd 30 [.int x0, .int x1] h Q := mCt_in (Nat.le_of_ble_eq_true rfl) k
theorem en31 {h : mH} {Q : Option Value → mH → Prop} {r0 : Nat} (k : mWp mCd 31 (0, [some (.ref r0)], [], h, 0, 0) Q) : mCt mCd 31 [.ref r0] h Q := mCt_in (Nat.le_of_ble_eq_true rfl) k
theorem en32 {h : mH} {Q : Option Value → mH → Prop} {r0 : Nat} {x1 : Int32} {r2 : Nat} (k : mWp mCd 32 (0, [some (.ref r0), some (.int x1), some (.ref r2)], [], h, 0, 0) Q) : mCt mCd 32 [.ref r0, .int x1, .ref r2] h Q := mCt_in (Nat.le_of_ble_eq_true rfl) k
theorem en33 {h : mH} {Q : Option Value → mH → Prop} {r0 : Nat} {x1 : Int32} {x2 : Int32} (k : mWp mCd 33 (0, [some (.ref r0), some (.int x1), some (.int x2)], [], h, 0, 0) Q) : mCt mCd 33 [.ref r0, .int x1, .int x2] h Q := mCt_in (Nat.le_of_ble_eq_true rfl) k
theorem en34 {h : mH} {Q : Option Value → mH → Prop} {r0 : Nat} {x1 : Int32} {x2 : Int32} (k : mWp mCd 34 (0, [some (.ref r0), some (.int x1), some (.int x2)], [], h, 0, 0) Q) : mCt mCd 34 [.ref r0, .int x1, .int x2] h Q := mCt_in (Nat.le_of_ble_eq_true rfl) k
theorem en35 {h : mH} {Q : Option Value → mH → Prop} {r0 : Nat} {x1 : Int32} (k : mWp mCd 35 (0, [some (.ref r0), some (.int x1)], [], h, 0, 0) Q) : mCt mCd 35 [.ref r0, .int x1] h Q := mCt_in (Nat.le_of_ble_eq_true rfl) k
theorem en36 {h : mH} {Q : Option Value → mH → Prop} {r0 : Nat} {x1 : Int32} {x2 : Int32} (k : mWp mCd 36 (0, [some (.ref r0), some (.int x1), some (.int x2)], [], h, 0, 0) Q) : mCt mCd 36 [.ref r0, .int x1, .int x2] h Q := mCt_in (Nat.le_of_ble_eq_true rfl) k
theorem en37 {h : mH} {Q : Option Value → mH → Prop} {r0 : Nat} {x1 : Int32} {x2 : Int32} (k : mWp mCd 37 (0, [some (.ref r0), some (.int x1), some (.int x2)], [], h, 0, 0) Q) : mCt mCd 37 [.ref r0, .int x1, .int x2] h Q := mCt_in (Nat.le_of_ble_eq_true rfl) k
theorem en38 {h : mH} {Q : Option Value → mH → Prop} {r0 : Nat} (k : mWp mCd 38 (0, [some (.ref r0)], [], h, 0, 0) Q) : mCt mCd 38 [.ref r0] h Q := mCt_in (Nat.le_of_ble_eq_true rfl) k
theorem en39 {h : mH} {Q : Option Value → mH → Prop} {r0 : Nat} {x1 : Int32} {r2 : Nat} (k : mWp mCd 39 (0, [some (.ref r0), some (.int x1), some (.ref r2)], [], h, 0, 0) Q) : mCt mCd 39 [.ref r0, .int x1, .ref r2] h Q := mCt_in (Nat.le_of_ble_eq_true rfl) k
theorem en40 {h : mH} {Q : Option Value → mH → Prop} {r0 : Nat} {x1 : Int32} {r2 : Nat} (k : mWp mCd 40 (0, [some (.ref r0), some (.int x1), some (.ref r2)], [], h, 0, 0) Q) : mCt mCd 40 [.ref r0, .int x1, .ref r2] h Q := mCt_in (Nat.le_of_ble_eq_true rfl) k
theorem en41 {h : mH} {Q : Option Value → mH → Prop} {r0 : Nat} {x1 : Int32} {r2 : Nat} (k : mWp mCd 41 (0, [some (.ref r0), some (.int x1), some (.ref r2), none], [], h, 0, 0) Q) : mCt mCd 41 [.ref r0, .int x1, .ref r2] h Q := mCt_in (Nat.le_of_ble_eq_true rfl) k
theorem en42 {h : mH} {Q : Option Value → mH → Prop} {r0 : Nat} (k : mWp mCd 42 (0, [some (.ref r0)], [], h, 0, 0) Q) : mCt mCd 42 [.ref r0] h Q := mCt_in (Nat.le_of_ble_eq_true rfl) k
theorem en43 {h : mH} {Q : Option Value → mH → Prop} {r0 : Nat} {x1 : Int32} (k : mWp mCd 43 (0, [some (.ref r0), some (.int x1)], [], h, 0, 0) Q) : mCt mCd 43 [.ref r0, .int x1] h Q := mCt_in (Nat.le_of_ble_eq_true rfl) k
theorem en44 {h : mH} {Q : Option Value → mH → Prop} {r0 : Nat} {x1 : Int32} (k : mWp mCd 44 (0, [some (.ref r0), some (.int x1)], [], h, 0, 0) Q) : mCt mCd 44 [.ref r0, .int x1] h Q := mCt_in (Nat.le_of_ble_eq_true rfl) k
theorem en45 {h : mH} {Q : Option Value → mH → Prop} {r0 : Nat} {x1 : Int32} (k : mWp mCd 45 (0, [some (.ref r0), some (.int x1)], [], h, 0, 0) Q) : mCt mCd 45 [.ref r0, .int x1] h Q := mCt_in (Nat.le_of_ble_eq_true rfl) k
theorem en46 {h : mH} {Q : Option Value → mH → Prop} {r0 : Nat} {x1 : Int32} (k : mWp mCd 46 (0, [some (.ref r0), some (.int x1)], [], h, 0, 0) Q) : mCt mCd 46 [.ref r0, .int x1] h Q := mCt_in (Nat.le_of_ble_eq_true rfl) k
theorem en47 {h : mH} {Q : Option Value → mH → Prop} {r0 : Nat} (k : mWp mCd 47 (0, [some (.ref r0)], [], h, 0, 0) Q) : mCt mCd 47 [.ref r0] h Q := mCt_in (Nat.le_of_ble_eq_true rfl) k
theorem en48 {h : mH} {Q : Option Value → mH → Prop} {r0 : Nat} {x1 : Int32} {x2 : Int32} (k : mWp mCd 48 (0, [some (.ref r0), some (.int x1), some (.int x2)], [], h, 0, 0) Q) : mCt mCd 48 [.ref r0, .int x1, .int x2] h Q := mCt_in (Nat.le_of_ble_eq_true rfl) k
theorem en49 {h : mH} {Q : Option Value → mH → Prop} {r0 : Nat} (k : mWp mCd 49 (0, [some (.ref r0)], [], h, 0, 0) Q) : mCt mCd 49 [.ref r0] h Q := mCt_in (Nat.le_of_ble_eq_true rfl) k
theorem en50 {h : mH} {Q : Option Value → mH → Prop} {r0 : Nat} {x1 : Int32} {x2 : Int32} (k : mWp mCd 50 (0, [some (.ref r0), some (.int x1), some (.int x2)], [], h, 0, 0) Q) : mCt mCd 50 [.ref r0, .int x1, .int x2] h Q := mCt_in (Nat.le_of_ble_eq_true rfl) k
theorem en51 {h : mH} {Q : Option Value → mH → Prop} {r0 : Nat} (k : mWp mCd 51 (0, [some (.ref r0), none, none], [], h, 0, 0) Q) : mCt mCd 51 [.ref r0] h Q := mCt_in (Nat.le_of_ble_eq_true rfl) k
theorem en52 {h : mH} {Q : Option Value → mH → Prop} {r0 : Nat} {x1 : Int32} (k : mWp mCd 52 (0, [some (.ref r0), some (.int x1), none, none], [], h, 0, 0) Q) : mCt mCd 52 [.ref r0, .int x1] h Q := mCt_in (Nat.le_of_ble_eq_true rfl) k
theorem en53 {h : mH} {Q : Option Value → mH → Prop} {r0 : Nat} {x1 : Int32} {x2 : Int32} (k : mWp mCd 53 (0, [some (.ref r0), some (.int x1), some (.int x2), none], [], h, 0, 0) Q) : mCt mCd 53 [.ref r0, .int x1, .int x2] h Q := mCt_in (Nat.le_of_ble_eq_true rfl) k
theorem en54 {h : mH} {Q : Option Value → mH → Prop} {r0 : Nat} (k : mWp mCd 54 (0, [some (.ref r0), none, none], [], h, 0, 0) Q) : mCt mCd 54 [.ref r0] h Q := mCt_in (Nat.le_of_ble_eq_true rfl) k
theorem en55 {h : mH} {Q : Option Value → mH → Prop} {r0 : Nat} (k : mWp mCd 55 (0, [some (.ref r0), none, none, none], [], h, 0, 0) Q) : mCt mCd 55 [.ref r0] h Q := mCt_in (Nat.le_of_ble_eq_true rfl) k
theorem en56 {h : mH} {Q : Option Value → mH → Prop} {r0 : Nat} {x1 : Int32} {x2 : Int32} (k : mWp mCd 56 (0, [some (.ref r0), some (.int x1), some (.int x2), none, none], [], h, 0, 0) Q) : mCt mCd 56 [.ref r0, .int x1, .int x2] h Q := mCt_in (Nat.le_of_ble_eq_true rfl) k
theorem en57 {h : mH} {Q : Option Value → mH → Prop} {r0 : Nat} {x1 : Int32} (k : mWp mCd 57 (0, [some (.ref r0), some (.int x1), none], [], h, 0, 0) Q) : mCt mCd 57 [.ref r0, .int x1] h Q := mCt_in (Nat.le_of_ble_eq_true rfl) k
theorem en58 {h : mH} {Q : Option Value → mH → Prop} {r0 : Nat} {x1 : Int32} {x2 : Int32} (k : mWp mCd 58 (0, [some (.ref r0), some (.int x1), some (.int x2), none, none], [], h, 0, 0) Q) : mCt mCd 58 [.ref r0, .int x1, .int x2] h Q := mCt_in (Nat.le_of_ble_eq_true rfl) k
theorem en59 {h : mH} {Q : Option Value → mH → Prop} {r0 : Nat} {x1 : Int32} (k : mWp mCd 59 (0, [some (.ref r0), some (.int x1)], [], h, 0, 0) Q) : mCt mCd 59 [.ref r0, .int x1] h Q := mCt_in (Nat.le_of_ble_eq_true rfl) k
theorem en60 {h : mH} {Q : Option Value → mH → Prop} {r0 : Nat} {x1 : Int32} {x2 : Int32} (k : mWp mCd 60 (0, [some (.ref r0), some (.int x1), some (.int x2)], [], h, 0, 0) Q) : mCt mCd 60 [.ref r0, .int x1, .int x2] h Q := mCt_in (Nat.le_of_ble_eq_true rfl) k
theorem en61 {h : mH} {Q : Option Value → mH → Prop} {r0 : Nat} {x1 : Int32} (k : mWp mCd 61 (0, [some (.ref r0), some (.int x1), none, none], [], h, 0, 0) Q) : mCt mCd 61 [.ref r0, .int x1] h Q := mCt_in (Nat.le_of_ble_eq_true rfl) k
theorem en62 {h : mH} {Q : Option Value → mH → Prop} {r0 : Nat} {x1 : Int32} (k : mWp mCd 62 (0, [some (.ref r0), some (.int x1), none, none], [], h, 0, 0) Q) : mCt mCd 62 [.ref r0, .int x1] h Q := mCt_in (Nat.le_of_ble_eq_true rfl) k
theorem en63 {h : mH} {Q : Option Value → mH → Prop} {r0 : Nat} {x1 : Int32} {x2 : Int32} (k : mWp mCd 63 (0, [some (.ref r0), some (.int x1), some (.int x2)], [], h, 0, 0) Q) : mCt mCd 63 [.ref r0, .int x1, .int x2] h Q := mCt_in (Nat.le_of_ble_eq_true rfl) k
theorem en64 {h : mH} {Q : Option Value → mH → Prop} {r0 : Nat} {x1 : Int32} (k : mWp mCd 64 (0, [some (.ref r0), some (.int x1), none], [], h, 0, 0) Q) : mCt mCd 64 [.ref r0, .int x1] h Q := mCt_in (Nat.le_of_ble_eq_true rfl) k
theorem en65 {h : mH} {Q : Option Value → mH → Prop} {r0 : Nat} {x1 : Int32} {x2 : Int32} (k : mWp mCd 65 (0, [some (.ref r0), some (.int x1), some (.int x2), none, none], [], h, 0, 0) Q) : mCt mCd 65 [.ref r0, .int x1, .int x2] h Q := mCt_in (Nat.le_of_ble_eq_true rfl) k
theorem en66 {h : mH} {Q : Option Value → mH → Prop} {r0 : Nat} {x1 : Int32} (k : mWp mCd 66 (0, [some (.ref r0), some (.int x1), none, none, none, none], [], h, 0, 0) Q) : mCt mCd 66 [.ref r0, .int x1] h Q := mCt_in (Nat.le_of_ble_eq_true rfl) k
theorem en67 {h : mH} {Q : Option Value → mH → Prop} {r0 : Nat} (k : mWp mCd 67 (0, [some (.ref r0), none, none, none, none, none, none, none, none, none, none, none, none], [], h, 0, 0) Q) : mCt mCd 67 [.ref r0] h Q := mCt_in (Nat.le_of_ble_eq_true rfl) k
theorem en68 {h : mH} {Q : Option Value → mH → Prop} {r0 : Nat} {y1 : Int64} (k : mWp mCd 68 (0, [some (.ref r0), some (.long y1), none, none, none], [], h, 0, 0) Q) : mCt mCd 68 [.ref r0, .long y1] h Q := mCt_in (Nat.le_of_ble_eq_true rfl) k
theorem en69 {h : mH} {Q : Option Value → mH → Prop} {r0 : Nat} (k : mWp mCd 69 (0, [some (.ref r0)], [], h, 0, 0) Q) : mCt mCd 69 [.ref r0] h Q := mCt_in (Nat.le_of_ble_eq_true rfl) k
theorem en70 {h : mH} {Q : Option Value → mH → Prop}  (k : mWp mCd 70 (0, [some (.ref 11)], [], h, 0, 0) Q) : mCt mCd 70 [.ref 11] h Q := mCt_in (Nat.le_of_ble_eq_true rfl) k
theorem en71 {h : mH} {Q : Option Value → mH → Prop} {x1 : Int32} (k : mWp mCd 71 (0, [some (.ref 11), some (.int x1)], [], h, 0, 0) Q) : mCt mCd 71 [.ref 11, .int x1] h Q := mCt_in (Nat.le_of_ble_eq_true rfl) k
theorem en72 {h : mH} {Q : Option Value → mH → Prop} {x1 : Int32} (k : mWp mCd 72 (0, [some (.ref 11), some (.int x1)], [], h, 0, 0) Q) : mCt mCd 72 [.ref 11, .int x1] h Q := mCt_in (Nat.le_of_ble_eq_true rfl) k
theorem en73 {h : mH} {Q : Option Value → mH → Prop} {r0 : Nat} {x1 : Int32} {x2 : Int32} {x3 : Int32} {x4 : Int32} (k : mWp mCd 73 (0, [some (.ref r0), some (.int x1), some (.int x2), some (.int x3), some (.int x4), none], [], h, 0, 0) Q) : mCt mCd 73 [.ref r0, .int x1, .int x2, .int x3, .int x4] h Q := mCt_in (Nat.le_of_ble_eq_true rfl) k
theorem en74 {h : mH} {Q : Option Value → mH → Prop} {x0 : Int32} {x1 : Int32} (k : mWp mCd 74 (0, [some (.int x0), some (.int x1), none, none, none], [], h, 0, 0) Q) : mCt mCd 74 [.int x0, .int x1] h Q := mCt_in (Nat.le_of_ble_eq_true rfl) k
theorem en75 {h : mH} {Q : Option Value → mH → Prop} {r0 : Nat} (k : mWp mCd 75 (0, [some (.ref r0)], [], h, 0, 0) Q) : mCt mCd 75 [.ref r0] h Q := mCt_in (Nat.le_of_ble_eq_true rfl) k
theorem en76 {h : mH} {Q : Option Value → mH → Prop} {r0 : Nat} {x1 : Int32} {r2 : Nat} (k : mWp mCd 76 (0, [some (.ref r0), some (.int x1), some (.ref r2)], [], h, 0, 0) Q) : mCt mCd 76 [.ref r0, .int x1, .ref r2] h Q := mCt_in (Nat.le_of_ble_eq_true rfl) k
theorem en77 {h : mH} {Q : Option Value → mH → Prop} {r0 : Nat} {x1 : Int32} {r2 : Nat} (k : mWp mCd 77 (0, [some (.ref r0), some (.int x1), some (.ref r2)], [], h, 0, 0) Q) : mCt mCd 77 [.ref r0, .int x1, .ref r2] h Q := mCt_in (Nat.le_of_ble_eq_true rfl) k
theorem en78 {h : mH} {Q : Option Value → mH → Prop} {r0 : Nat} (k : mWp mCd 78 (0, [some (.ref r0)], [], h, 0, 0) Q) : mCt mCd 78 [.ref r0] h Q := mCt_in (Nat.le_of_ble_eq_true rfl) k
theorem en79 {h : mH} {Q : Option Value → mH → Prop} {x1 : Int32} (k : mWp mCd 79 (0, [some (.ref 5), some (.int x1)], [], h, 0, 0) Q) : mCt mCd 79 [.ref 5, .int x1] h Q := mCt_in (Nat.le_of_ble_eq_true rfl) k
theorem en80 {h : mH} {Q : Option Value → mH → Prop} {x1 : Int32} {x2 : Int32} {x3 : Int32} (k : mWp mCd 80 (0, [some (.ref 5), some (.int x1), some (.int x2), some (.int x3), none], [], h, 0, 0) Q) : mCt mCd 80 [.ref 5, .int x1, .int x2, .int x3] h Q := mCt_in (Nat.le_of_ble_eq_true rfl) k
theorem en81 {h : mH} {Q : Option Value → mH → Prop} {x1 : Int32} {x2 : Int32} {x3 : Int32} (k : mWp mCd 81 (0, [some (.ref 5), some (.int x1), some (.int x2), some (.int x3)], [], h, 0, 0) Q) : mCt mCd 81 [.ref 5, .int x1, .int x2, .int x3] h Q := mCt_in (Nat.le_of_ble_eq_true rfl) k
theorem en82 {h : mH} {Q : Option Value → mH → Prop} {x1 : Int32} {x2 : Int32} (k : mWp mCd 82 (0, [some (.ref 5), some (.int x1), some (.int x2)], [], h, 0, 0) Q) : mCt mCd 82 [.ref 5, .int x1, .int x2] h Q := mCt_in (Nat.le_of_ble_eq_true rfl) k
theorem en83 {h : mH} {Q : Option Value → mH → Prop} {x1 : Int32} {x2 : Int32} (k : mWp mCd 83 (0, [some (.ref 5), some (.int x1), some (.int x2)], [], h, 0, 0) Q) : mCt mCd 83 [.ref 5, .int x1, .int x2] h Q := mCt_in (Nat.le_of_ble_eq_true rfl) k
theorem en84 {h : mH} {Q : Option Value → mH → Prop} {x1 : Int32} {x2 : Int32} {x3 : Int32} {x4 : Int32} (k : mWp mCd 84 (0, [some (.ref 5), some (.int x1), some (.int x2), some (.int x3), some (.int x4), none, none, none, none], [], h, 0, 0) Q) : mCt mCd 84 [.ref 5, .int x1, .int x2, .int x3, .int x4] h Q := mCt_in (Nat.le_of_ble_eq_true rfl) k
theorem en85 {h : mH} {Q : Option Value → mH → Prop} {x1 : Int32} {x2 : Int32} (k : mWp mCd 85 (0, [some (.ref 5), some (.int x1), some (.int x2), none, none, none], [], h, 0, 0) Q) : mCt mCd 85 [.ref 5, .int x1, .int x2] h Q := mCt_in (Nat.le_of_ble_eq_true rfl) k
theorem en86 {h : mH} {Q : Option Value → mH → Prop} {x1 : Int32} {x2 : Int32} {x3 : Int32} (k : mWp mCd 86 (0, [some (.ref 5), some (.int x1), some (.int x2), some (.int x3), none, none, none], [], h, 0, 0) Q) : mCt mCd 86 [.ref 5, .int x1, .int x2, .int x3] h Q := mCt_in (Nat.le_of_ble_eq_true rfl) k
theorem en87 {h : mH} {Q : Option Value → mH → Prop} {x1 : Int32} (k : mWp mCd 87 (0, [some (.ref 5), some (.int x1), none, none, none], [], h, 0, 0) Q) : mCt mCd 87 [.ref 5, .int x1] h Q := mCt_in (Nat.le_of_ble_eq_true rfl) k
theorem en88 {h : mH} {Q : Option Value → mH → Prop}  (k : mWp mCd 88 (0, [some (.ref 5)], [], h, 0, 0) Q) : mCt mCd 88 [.ref 5] h Q := mCt_in (Nat.le_of_ble_eq_true rfl) k
theorem en89 {h : mH} {Q : Option Value → mH → Prop} {x1 : Int32} {x2 : Int32} (k : mWp mCd 89 (0, [some (.ref 5), some (.int x1), some (.int x2), none], [], h, 0, 0) Q) : mCt mCd 89 [.ref 5, .int x1, .int x2] h Q := mCt_in (Nat.le_of_ble_eq_true rfl) k
theorem en90 {h : mH} {Q : Option Value → mH → Prop} {x1 : Int32} {x2 : Int32} (k : mWp mCd 90 (0, [some (.ref 5), some (.int x1), some (.int x2), none], [], h, 0, 0) Q) : mCt mCd 90 [.ref 5, .int x1, .int x2] h Q := mCt_in (Nat.le_of_ble_eq_true rfl) k
theorem en91 {h : mH} {Q : Option Value → mH → Prop} {x1 : Int32} {x2 : Int32} {x3 : Int32} (k : mWp mCd 91 (0, [some (.ref 5), some (.int x1), some (.int x2), some (.int x3), none], [], h, 0, 0) Q) : mCt mCd 91 [.ref 5, .int x1, .int x2, .int x3] h Q := mCt_in (Nat.le_of_ble_eq_true rfl) k
theorem en92 {h : mH} {Q : Option Value → mH → Prop} {x1 : Int32} {x2 : Int32} {x3 : Int32} {x4 : Int32} (k : mWp mCd 92 (0, [some (.ref 5), some (.int x1), some (.int x2), some (.int x3), some (.int x4), none], [], h, 0, 0) Q) : mCt mCd 92 [.ref 5, .int x1, .int x2, .int x3, .int x4] h Q := mCt_in (Nat.le_of_ble_eq_true rfl) k
theorem en93 {h : mH} {Q : Option Value → mH → Prop} {x1 : Int32} {x2 : Int32} {x3 : Int32} {x4 : Int32} (k : mWp mCd 93 (0, [some (.ref 5), some (.int x1), some (.int x2), some (.int x3), some (.int x4), none], [], h, 0, 0) Q) : mCt mCd 93 [.ref 5, .int x1, .int x2, .int x3, .int x4] h Q := mCt_in (Nat.le_of_ble_eq_true rfl) k
theorem en94 {h : mH} {Q : Option Value → mH → Prop} {x1 : Int32} {x2 : Int32} (k : mWp mCd 94 (0, [some (.ref 5), some (.int x1), some (.int x2), none], [], h, 0, 0) Q) : mCt mCd 94 [.ref 5, .int x1, .int x2] h Q := mCt_in (Nat.le_of_ble_eq_true rfl) k
theorem en95 {h : mH} {Q : Option Value → mH → Prop} {x1 : Int32} {x2 : Int32} {x3 : Int32} {x4 : Int32} (k : mWp mCd 95 (0, [some (.ref 5), some (.int x1), some (.int x2), some (.int x3), some (.int x4), none, none], [], h, 0, 0) Q) : mCt mCd 95 [.ref 5, .int x1, .int x2, .int x3, .int x4] h Q := mCt_in (Nat.le_of_ble_eq_true rfl) k
theorem en96 {h : mH} {Q : Option Value → mH → Prop} {x1 : Int32} {x2 : Int32} {x3 : Int32} {x4 : Int32} (k : mWp mCd 96 (0, [some (.ref 5), some (.int x1), some (.int x2), some (.int x3), some (.int x4), none, none], [], h, 0, 0) Q) : mCt mCd 96 [.ref 5, .int x1, .int x2, .int x3, .int x4] h Q := mCt_in (Nat.le_of_ble_eq_true rfl) k
theorem en97 {h : mH} {Q : Option Value → mH → Prop} {x1 : Int32} {x2 : Int32} (k : mWp mCd 97 (0, [some (.ref 5), some (.int x1), some (.int x2), none, none, none], [], h, 0, 0) Q) : mCt mCd 97 [.ref 5, .int x1, .int x2] h Q := mCt_in (Nat.le_of_ble_eq_true rfl) k
theorem en98 {h : mH} {Q : Option Value → mH → Prop} {x1 : Int32} {x2 : Int32} {x3 : Int32} (k : mWp mCd 98 (0, [some (.ref 5), some (.int x1), some (.int x2), some (.int x3), none], [], h, 0, 0) Q) : mCt mCd 98 [.ref 5, .int x1, .int x2, .int x3] h Q := mCt_in (Nat.le_of_ble_eq_true rfl) k
theorem en99 {h : mH} {Q : Option Value → mH → Prop} {x1 : Int32} (k : mWp mCd 99 (0, [some (.ref 5), some (.int x1), none], [], h, 0, 0) Q) : mCt mCd 99 [.ref 5, .int x1] h Q := mCt_in (Nat.le_of_ble_eq_true rfl) k
theorem en100 {h : mH} {Q : Option Value → mH → Prop} {x1 : Int32} {x2 : Int32} {x3 : Int32} (k : mWp mCd 100 (0, [some (.ref 5), some (.int x1), some (.int x2), some (.int x3), none], [], h, 0, 0) Q) : mCt mCd 100 [.ref 5, .int x1, .int x2, .int x3] h Q := mCt_in (Nat.le_of_ble_eq_true rfl) k
theorem en101 {h : mH} {Q : Option Value → mH → Prop} {x1 : Int32} {x2 : Int32} {x3 : Int32} (k : mWp mCd 101 (0, [some (.ref 5), some (.int x1), some (.int x2), some (.int x3), none], [], h, 0, 0) Q) : mCt mCd 101 [.ref 5, .int x1, .int x2, .int x3] h Q := mCt_in (Nat.le_of_ble_eq_true rfl) k
theorem en102 {h : mH} {Q : Option Value → mH → Prop} {x1 : Int32} (k : mWp mCd 102 (0, [some (.ref 5), some (.int x1), none], [], h, 0, 0) Q) : mCt mCd 102 [.ref 5, .int x1] h Q := mCt_in (Nat.le_of_ble_eq_true rfl) k
theorem en103 {h : mH} {Q : Option Value → mH → Prop} {x1 : Int32} (k : mWp mCd 103 (0, [some (.ref 5), some (.int x1)], [], h, 0, 0) Q) : mCt mCd 103 [.ref 5, .int x1] h Q := mCt_in (Nat.le_of_ble_eq_true rfl) k
theorem en104 {h : mH} {Q : Option Value → mH → Prop} {x1 : Int32} {y2 : Int64} (k : mWp mCd 104 (0, [some (.ref 5), some (.int x1), some (.long y2), none], [], h, 0, 0) Q) : mCt mCd 104 [.ref 5, .int x1, .long y2] h Q := mCt_in (Nat.le_of_ble_eq_true rfl) k
theorem en105 {h : mH} {Q : Option Value → mH → Prop} {x1 : Int32} (k : mWp mCd 105 (0, [some (.ref 5), some (.int x1), none], [], h, 0, 0) Q) : mCt mCd 105 [.ref 5, .int x1] h Q := mCt_in (Nat.le_of_ble_eq_true rfl) k
theorem en106 {h : mH} {Q : Option Value → mH → Prop} {x1 : Int32} {x2 : Int32} {x3 : Int32} (k : mWp mCd 106 (0, [some (.ref 5), some (.int x1), some (.int x2), some (.int x3), none], [], h, 0, 0) Q) : mCt mCd 106 [.ref 5, .int x1, .int x2, .int x3] h Q := mCt_in (Nat.le_of_ble_eq_true rfl) k
theorem en107 {h : mH} {Q : Option Value → mH → Prop} {x1 : Int32} (k : mWp mCd 107 (0, [some (.ref 5), some (.int x1)], [], h, 0, 0) Q) : mCt mCd 107 [.ref 5, .int x1] h Q := mCt_in (Nat.le_of_ble_eq_true rfl) k
theorem en108 {h : mH} {Q : Option Value → mH → Prop} {x1 : Int32} (k : mWp mCd 108 (0, [some (.ref 5), some (.int x1)], [], h, 0, 0) Q) : mCt mCd 108 [.ref 5, .int x1] h Q := mCt_in (Nat.le_of_ble_eq_true rfl) k
theorem en109 {h : mH} {Q : Option Value → mH → Prop} {x1 : Int32} {x2 : Int32} {x3 : Int32} (k : mWp mCd 109 (0, [some (.ref 5), some (.int x1), some (.int x2), some (.int x3)], [], h, 0, 0) Q) : mCt mCd 109 [.ref 5, .int x1, .int x2, .int x3] h Q := mCt_in (Nat.le_of_ble_eq_true rfl) k
theorem en110 {h : mH} {Q : Option Value → mH → Prop} {x1 : Int32} {x2 : Int32} {x3 : Int32} (k : mWp mCd 110 (0, [some (.ref 5), some (.int x1), some (.int x2), some (.int x3), none], [], h, 0, 0) Q) : mCt mCd 110 [.ref 5, .int x1, .int x2, .int x3] h Q := mCt_in (Nat.le_of_ble_eq_true rfl) k
theorem en111 {h : mH} {Q : Option Value → mH → Prop} {x1 : Int32} {x2 : Int32} {x3 : Int32} {x4 : Int32} (k : mWp mCd 111 (0, [some (.ref 5), some (.int x1), some (.int x2), some (.int x3), some (.int x4), none, none, none], [], h, 0, 0) Q) : mCt mCd 111 [.ref 5, .int x1, .int x2, .int x3, .int x4] h Q := mCt_in (Nat.le_of_ble_eq_true rfl) k
theorem en112 {h : mH} {Q : Option Value → mH → Prop} {x1 : Int32} {x2 : Int32} {x3 : Int32} {x4 : Int32} {x5 : Int32} (k : mWp mCd 112 (0, [some (.ref 5), some (.int x1), some (.int x2), some (.int x3), some (.int x4), some (.int x5), none, none], [], h, 0, 0) Q) : mCt mCd 112 [.ref 5, .int x1, .int x2, .int x3, .int x4, .int x5] h Q := mCt_in (Nat.le_of_ble_eq_true rfl) k
theorem en113 {h : mH} {Q : Option Value → mH → Prop} {x1 : Int32} {x2 : Int32} (k : mWp mCd 113 (0, [some (.ref 5), some (.int x1), some (.int x2), none], [], h, 0, 0) Q) : mCt mCd 113 [.ref 5, .int x1, .int x2] h Q := mCt_in (Nat.le_of_ble_eq_true rfl) k
theorem en114 {h : mH} {Q : Option Value → mH → Prop} {x1 : Int32} (k : mWp mCd 114 (0, [some (.ref 5), some (.int x1)], [], h, 0, 0) Q) : mCt mCd 114 [.ref 5, .int x1] h Q := mCt_in (Nat.le_of_ble_eq_true rfl) k
theorem en115 {h : mH} {Q : Option Value → mH → Prop}  (k : mWp mCd 115 (0, [some (.ref 5)], [], h, 0, 0) Q) : mCt mCd 115 [.ref 5] h Q := mCt_in (Nat.le_of_ble_eq_true rfl) k
theorem en116 {h : mH} {Q : Option Value → mH → Prop} {r1 : Nat} (k : mWp mCd 116 (0, [some (.ref 5), some (.ref r1)], [], h, 0, 0) Q) : mCt mCd 116 [.ref 5, .ref r1] h Q := mCt_in (Nat.le_of_ble_eq_true rfl) k
theorem en117 {h : mH} {Q : Option Value → mH → Prop} {r0 : Nat} {r1 : Nat} {x2 : Int32} {x3 : Int32} (k : mWp mCd 117 (0, [some (.ref r0), some (.ref r1), some (.int x2), some (.int x3), none, none], [], h, 0, 0) Q) : mCt mCd 117 [.ref r0, .ref r1, .int x2, .int x3] h Q := mCt_in (Nat.le_of_ble_eq_true rfl) k
theorem en118 {h : mH} {Q : Option Value → mH → Prop} {r0 : Nat} {x1 : Int32} {x2 : Int32} (k : mWp mCd 118 (0, [some (.ref r0), some (.int x1), some (.int x2), none], [], h, 0, 0) Q) : mCt mCd 118 [.ref r0, .int x1, .int x2] h Q := mCt_in (Nat.le_of_ble_eq_true rfl) k
theorem en119 {h : mH} {Q : Option Value → mH → Prop} {x0 : Int32} (k : mWp mCd 119 (0, [some (.int x0)], [], h, 0, 0) Q) : mCt mCd 119 [.int x0] h Q := mCt_in (Nat.le_of_ble_eq_true rfl) k
theorem en120 {h : mH} {Q : Option Value → mH → Prop} {y0 : Int64} (k : mWp mCd 120 (0, [some (.long y0), none], [], h, 0, 0) Q) : mCt mCd 120 [.long y0] h Q := mCt_in (Nat.le_of_ble_eq_true rfl) k
theorem en121 {h : mH} {Q : Option Value → mH → Prop} {x0 : Int32} (k : mWp mCd 121 (0, [some (.int x0)], [], h, 0, 0) Q) : mCt mCd 121 [.int x0] h Q := mCt_in (Nat.le_of_ble_eq_true rfl) k
theorem en122 {h : mH} {Q : Option Value → mH → Prop} {x0 : Int32} (k : mWp mCd 122 (0, [some (.int x0)], [], h, 0, 0) Q) : mCt mCd 122 [.int x0] h Q := mCt_in (Nat.le_of_ble_eq_true rfl) k
theorem en123 {h : mH} {Q : Option Value → mH → Prop} {x1 : Int32} (k : mWp mCd 123 (0, [some (.ref 5), some (.int x1)], [], h, 0, 0) Q) : mCt mCd 123 [.ref 5, .int x1] h Q := mCt_in (Nat.le_of_ble_eq_true rfl) k
theorem en124 {h : mH} {Q : Option Value → mH → Prop} {x0 : Int32} (k : mWp mCd 124 (0, [some (.int x0)], [], h, 0, 0) Q) : mCt mCd 124 [.int x0] h Q := mCt_in (Nat.le_of_ble_eq_true rfl) k
theorem en125 {h : mH} {Q : Option Value → mH → Prop} {x0 : Int32} {x1 : Int32} {x2 : Int32} (k : mWp mCd 125 (0, [some (.int x0), some (.int x1), some (.int x2), none, none], [], h, 0, 0) Q) : mCt mCd 125 [.int x0, .int x1, .int x2] h Q := mCt_in (Nat.le_of_ble_eq_true rfl) k
theorem en126 {h : mH} {Q : Option Value → mH → Prop} {x0 : Int32} {x1 : Int32} (k : mWp mCd 126 (0, [some (.int x0), some (.int x1)], [], h, 0, 0) Q) : mCt mCd 126 [.int x0, .int x1] h Q := mCt_in (Nat.le_of_ble_eq_true rfl) k
theorem en127 {h : mH} {Q : Option Value → mH → Prop} {x0 : Int32} {x1 : Int32} (k : mWp mCd 127 (0, [some (.int x0), some (.int x1), none], [], h, 0, 0) Q) : mCt mCd 127 [.int x0, .int x1] h Q := mCt_in (Nat.le_of_ble_eq_true rfl) k
theorem en128 {h : mH} {Q : Option Value → mH → Prop} {x0 : Int32} (k : mWp mCd 128 (0, [some (.int x0), none, none], [], h, 0, 0) Q) : mCt mCd 128 [.int x0] h Q := mCt_in (Nat.le_of_ble_eq_true rfl) k
theorem en129 {h : mH} {Q : Option Value → mH → Prop} {x0 : Int32} (k : mWp mCd 129 (0, [some (.int x0)], [], h, 0, 0) Q) : mCt mCd 129 [.int x0] h Q := mCt_in (Nat.le_of_ble_eq_true rfl) k
theorem en130 {h : mH} {Q : Option Value → mH → Prop} {y0 : Int64} {x2 : Int32} (k : mWp mCd 130 (0, [some (.long y0), none, some (.int x2)], [], h, 0, 0) Q) : mCt mCd 130 [.long y0, .int x2] h Q := mCt_in (Nat.le_of_ble_eq_true rfl) k
theorem en131 {h : mH} {Q : Option Value → mH → Prop} {y0 : Int64} {x2 : Int32} (k : mWp mCd 131 (0, [some (.long y0), none, some (.int x2)], [], h, 0, 0) Q) : mCt mCd 131 [.long y0, .int x2] h Q := mCt_in (Nat.le_of_ble_eq_true rfl) k
theorem en132 {h : mH} {Q : Option Value → mH → Prop} {y0 : Int64} {x2 : Int32} (k : mWp mCd 132 (0, [some (.long y0), none, some (.int x2), none], [], h, 0, 0) Q) : mCt mCd 132 [.long y0, .int x2] h Q := mCt_in (Nat.le_of_ble_eq_true rfl) k
theorem en133 {h : mH} {Q : Option Value → mH → Prop} {y0 : Int64} (k : mWp mCd 133 (0, [some (.long y0), none, none, none], [], h, 0, 0) Q) : mCt mCd 133 [.long y0] h Q := mCt_in (Nat.le_of_ble_eq_true rfl) k
theorem en134 {h : mH} {Q : Option Value → mH → Prop} {y0 : Int64} {y2 : Int64} {x4 : Int32} (k : mWp mCd 134 (0, [some (.long y0), none, some (.long y2), none, some (.int x4), none, none], [], h, 0, 0) Q) : mCt mCd 134 [.long y0, .long y2, .int x4] h Q := mCt_in (Nat.le_of_ble_eq_true rfl) k
theorem en135 {h : mH} {Q : Option Value → mH → Prop} {y0 : Int64} {y2 : Int64} (k : mWp mCd 135 (0, [some (.long y0), none, some (.long y2), none, none, none, none, none, none, none, none], [], h, 0, 0) Q) : mCt mCd 135 [.long y0, .long y2] h Q := mCt_in (Nat.le_of_ble_eq_true rfl) k
theorem en136 {h : mH} {Q : Option Value → mH → Prop} {r0 : Nat} (k : mWp mCd 136 (0, [some (.ref r0)], [], h, 0, 0) Q) : mCt mCd 136 [.ref r0] h Q := mCt_in (Nat.le_of_ble_eq_true rfl) k
theorem en137 {h : mH} {Q : Option Value → mH → Prop} {x1 : Int32} {x2 : Int32} {x3 : Int32} (k : mWp mCd 137 (0, [some (.ref 14), some (.int x1), some (.int x2), some (.int x3)], [], h, 0, 0) Q) : mCt mCd 137 [.ref 14, .int x1, .int x2, .int x3] h Q := mCt_in (Nat.le_of_ble_eq_true rfl) k
theorem en138 {h : mH} {Q : Option Value → mH → Prop} {x1 : Int32} (k : mWp mCd 138 (0, [some (.ref 14), some (.int x1)], [], h, 0, 0) Q) : mCt mCd 138 [.ref 14, .int x1] h Q := mCt_in (Nat.le_of_ble_eq_true rfl) k
theorem en139 {h : mH} {Q : Option Value → mH → Prop} {x1 : Int32} (k : mWp mCd 139 (0, [some (.ref 14), some (.int x1)], [], h, 0, 0) Q) : mCt mCd 139 [.ref 14, .int x1] h Q := mCt_in (Nat.le_of_ble_eq_true rfl) k
theorem en140 {h : mH} {Q : Option Value → mH → Prop} {x1 : Int32} (k : mWp mCd 140 (0, [some (.ref 14), some (.int x1)], [], h, 0, 0) Q) : mCt mCd 140 [.ref 14, .int x1] h Q := mCt_in (Nat.le_of_ble_eq_true rfl) k
theorem en141 {h : mH} {Q : Option Value → mH → Prop} {x1 : Int32} {x2 : Int32} (k : mWp mCd 141 (0, [some (.ref 14), some (.int x1), some (.int x2)], [], h, 0, 0) Q) : mCt mCd 141 [.ref 14, .int x1, .int x2] h Q := mCt_in (Nat.le_of_ble_eq_true rfl) k
theorem en142 {h : mH} {Q : Option Value → mH → Prop} {x1 : Int32} {x2 : Int32} (k : mWp mCd 142 (0, [some (.ref 14), some (.int x1), some (.int x2)], [], h, 0, 0) Q) : mCt mCd 142 [.ref 14, .int x1, .int x2] h Q := mCt_in (Nat.le_of_ble_eq_true rfl) k
theorem en143 {h : mH} {Q : Option Value → mH → Prop} {x1 : Int32} {x2 : Int32} (k : mWp mCd 143 (0, [some (.ref 14), some (.int x1), some (.int x2)], [], h, 0, 0) Q) : mCt mCd 143 [.ref 14, .int x1, .int x2] h Q := mCt_in (Nat.le_of_ble_eq_true rfl) k
theorem en144 {h : mH} {Q : Option Value → mH → Prop} {x1 : Int32} {x2 : Int32} (k : mWp mCd 144 (0, [some (.ref 14), some (.int x1), some (.int x2)], [], h, 0, 0) Q) : mCt mCd 144 [.ref 14, .int x1, .int x2] h Q := mCt_in (Nat.le_of_ble_eq_true rfl) k
theorem en145 {h : mH} {Q : Option Value → mH → Prop} {x1 : Int32} {x2 : Int32} (k : mWp mCd 145 (0, [some (.ref 14), some (.int x1), some (.int x2), none], [], h, 0, 0) Q) : mCt mCd 145 [.ref 14, .int x1, .int x2] h Q := mCt_in (Nat.le_of_ble_eq_true rfl) k
theorem en146 {h : mH} {Q : Option Value → mH → Prop}  (k : mWp mCd 146 (0, [some (.ref 14)], [], h, 0, 0) Q) : mCt mCd 146 [.ref 14] h Q := mCt_in (Nat.le_of_ble_eq_true rfl) k
theorem en147 {h : mH} {Q : Option Value → mH → Prop} {x1 : Int32} (k : mWp mCd 147 (0, [some (.ref 14), some (.int x1), none], [], h, 0, 0) Q) : mCt mCd 147 [.ref 14, .int x1] h Q := mCt_in (Nat.le_of_ble_eq_true rfl) k
theorem en148 {h : mH} {Q : Option Value → mH → Prop} {x1 : Int32} {x2 : Int32} {x3 : Int32} (k : mWp mCd 148 (0, [some (.ref 14), some (.int x1), some (.int x2), some (.int x3)], [], h, 0, 0) Q) : mCt mCd 148 [.ref 14, .int x1, .int x2, .int x3] h Q := mCt_in (Nat.le_of_ble_eq_true rfl) k
theorem en149 {h : mH} {Q : Option Value → mH → Prop} {x1 : Int32} {x2 : Int32} (k : mWp mCd 149 (0, [some (.ref 14), some (.int x1), some (.int x2), none, none], [], h, 0, 0) Q) : mCt mCd 149 [.ref 14, .int x1, .int x2] h Q := mCt_in (Nat.le_of_ble_eq_true rfl) k
theorem en150 {h : mH} {Q : Option Value → mH → Prop} {x1 : Int32} {x2 : Int32} {x3 : Int32} (k : mWp mCd 150 (0, [some (.ref 14), some (.int x1), some (.int x2), some (.int x3)], [], h, 0, 0) Q) : mCt mCd 150 [.ref 14, .int x1, .int x2, .int x3] h Q := mCt_in (Nat.le_of_ble_eq_true rfl) k
theorem en151 {h : mH} {Q : Option Value → mH → Prop} {x1 : Int32} {x2 : Int32} {x3 : Int32} (k : mWp mCd 151 (0, [some (.ref 14), some (.int x1), some (.int x2), some (.int x3), none, none, none, none], [], h, 0, 0) Q) : mCt mCd 151 [.ref 14, .int x1, .int x2, .int x3] h Q := mCt_in (Nat.le_of_ble_eq_true rfl) k
theorem en152 {h : mH} {Q : Option Value → mH → Prop} {x1 : Int32} {x2 : Int32} (k : mWp mCd 152 (0, [some (.ref 14), some (.int x1), some (.int x2), none, none, none, none], [], h, 0, 0) Q) : mCt mCd 152 [.ref 14, .int x1, .int x2] h Q := mCt_in (Nat.le_of_ble_eq_true rfl) k
theorem en153 {h : mH} {Q : Option Value → mH → Prop} {x1 : Int32} {x2 : Int32} (k : mWp mCd 153 (0, [some (.ref 14), some (.int x1), some (.int x2), none, none, none, none], [], h, 0, 0) Q) : mCt mCd 153 [.ref 14, .int x1, .int x2] h Q := mCt_in (Nat.le_of_ble_eq_true rfl) k
theorem en154 {h : mH} {Q : Option Value → mH → Prop} {x1 : Int32} {x2 : Int32} {x3 : Int32} {x4 : Int32} (k : mWp mCd 154 (0, [some (.ref 14), some (.int x1), some (.int x2), some (.int x3), some (.int x4), none, none, none, none, none], [], h, 0, 0) Q) : mCt mCd 154 [.ref 14, .int x1, .int x2, .int x3, .int x4] h Q := mCt_in (Nat.le_of_ble_eq_true rfl) k
theorem en155 {h : mH} {Q : Option Value → mH → Prop} {x1 : Int32} {x2 : Int32} (k : mWp mCd 155 (0, [some (.ref 14), some (.int x1), some (.int x2)], [], h, 0, 0) Q) : mCt mCd 155 [.ref 14, .int x1, .int x2] h Q := mCt_in (Nat.le_of_ble_eq_true rfl) k
theorem en156 {h : mH} {Q : Option Value → mH → Prop} {x1 : Int32} {x2 : Int32} (k : mWp mCd 156 (0, [some (.ref 14), some (.int x1), some (.int x2), none, none], [], h, 0, 0) Q) : mCt mCd 156 [.ref 14, .int x1, .int x2] h Q := mCt_in (Nat.le_of_ble_eq_true rfl) k
theorem en157 {h : mH} {Q : Option Value → mH → Prop} {x1 : Int32} {x2 : Int32} {x3 : Int32} (k : mWp mCd 157 (0, [some (.ref 14), some (.int x1), some (.int x2), some (.int x3), none, none], [], h, 0, 0) Q) : mCt mCd 157 [.ref 14, .int x1, .int x2, .int x3] h Q := mCt_in (Nat.le_of_ble_eq_true rfl) k
theorem en158 {h : mH} {Q : Option Value → mH → Prop} {x1 : Int32} (k : mWp mCd 158 (0, [some (.ref 14), some (.int x1), none, none], [], h, 0, 0) Q) : mCt mCd 158 [.ref 14, .int x1] h Q := mCt_in (Nat.le_of_ble_eq_true rfl) k
theorem en159 {h : mH} {Q : Option Value → mH → Prop}  (k : mWp mCd 159 (0, [some (.ref 14)], [], h, 0, 0) Q) : mCt mCd 159 [.ref 14] h Q := mCt_in (Nat.le_of_ble_eq_true rfl) k
theorem en160 {h : mH} {Q : Option Value → mH → Prop} {y1 : Int64} {y3 : Int64} (k : mWp mCd 160 (0, [some (.ref 14), some (.long y1), none, some (.long y3), none, none, none, none, none, none, none], [], h, 0, 0) Q) : mCt mCd 160 [.ref 14, .long y1, .long y3] h Q := mCt_in (Nat.le_of_ble_eq_true rfl) k
theorem en161 {h : mH} {Q : Option Value → mH → Prop} {y1 : Int64} {y3 : Int64} {x5 : Int32} (k : mWp mCd 161 (0, [some (.ref 14), some (.long y1), none, some (.long y3), none, some (.int x5), none, none], [], h, 0, 0) Q) : mCt mCd 161 [.ref 14, .long y1, .long y3, .int x5] h Q := mCt_in (Nat.le_of_ble_eq_true rfl) k
theorem en162 {h : mH} {Q : Option Value → mH → Prop} {x1 : Int32} {x2 : Int32} {x3 : Int32} (k : mWp mCd 162 (0, [some (.ref 14), some (.int x1), some (.int x2), some (.int x3)], [], h, 0, 0) Q) : mCt mCd 162 [.ref 14, .int x1, .int x2, .int x3] h Q := mCt_in (Nat.le_of_ble_eq_true rfl) k
theorem en163 {h : mH} {Q : Option Value → mH → Prop} {x1 : Int32} {x2 : Int32} (k : mWp mCd 163 (0, [some (.ref 14), some (.int x1), some (.int x2)], [], h, 0, 0) Q) : mCt mCd 163 [.ref 14, .int x1, .int x2] h Q := mCt_in (Nat.le_of_ble_eq_true rfl) k
theorem en164 {h : mH} {Q : Option Value → mH → Prop} {x1 : Int32} {x2 : Int32} {x3 : Int32} (k : mWp mCd 164 (0, [some (.ref 14), some (.int x1), some (.int x2), some (.int x3)], [], h, 0, 0) Q) : mCt mCd 164 [.ref 14, .int x1, .int x2, .int x3] h Q := mCt_in (Nat.le_of_ble_eq_true rfl) k
theorem en165 {h : mH} {Q : Option Value → mH → Prop} {x1 : Int32} (k : mWp mCd 165 (0, [some (.ref 14), some (.int x1), none, none, none], [], h, 0, 0) Q) : mCt mCd 165 [.ref 14, .int x1] h Q := mCt_in (Nat.le_of_ble_eq_true rfl) k
theorem en166 {h : mH} {Q : Option Value → mH → Prop} {x1 : Int32} {x2 : Int32} (k : mWp mCd 166 (0, [some (.ref 14), some (.int x1), some (.int x2), none, none, none], [], h, 0, 0) Q) : mCt mCd 166 [.ref 14, .int x1, .int x2] h Q := mCt_in (Nat.le_of_ble_eq_true rfl) k
theorem en167 {h : mH} {Q : Option Value → mH → Prop} {x1 : Int32} (k : mWp mCd 167 (0, [some (.ref 14), some (.int x1), none, none, none], [], h, 0, 0) Q) : mCt mCd 167 [.ref 14, .int x1] h Q := mCt_in (Nat.le_of_ble_eq_true rfl) k
theorem en168 {h : mH} {Q : Option Value → mH → Prop} {x1 : Int32} {x2 : Int32} (k : mWp mCd 168 (0, [some (.ref 14), some (.int x1), some (.int x2)], [], h, 0, 0) Q) : mCt mCd 168 [.ref 14, .int x1, .int x2] h Q := mCt_in (Nat.le_of_ble_eq_true rfl) k
theorem en169 {h : mH} {Q : Option Value → mH → Prop} {x1 : Int32} {x2 : Int32} {x3 : Int32} (k : mWp mCd 169 (0, [some (.ref 14), some (.int x1), some (.int x2), some (.int x3)], [], h, 0, 0) Q) : mCt mCd 169 [.ref 14, .int x1, .int x2, .int x3] h Q := mCt_in (Nat.le_of_ble_eq_true rfl) k
theorem en170 {h : mH} {Q : Option Value → mH → Prop} {x1 : Int32} {x2 : Int32} {x3 : Int32} {x4 : Int32} (k : mWp mCd 170 (0, [some (.ref 14), some (.int x1), some (.int x2), some (.int x3), some (.int x4)], [], h, 0, 0) Q) : mCt mCd 170 [.ref 14, .int x1, .int x2, .int x3, .int x4] h Q := mCt_in (Nat.le_of_ble_eq_true rfl) k
theorem en171 {h : mH} {Q : Option Value → mH → Prop} {x1 : Int32} {x2 : Int32} {x3 : Int32} (k : mWp mCd 171 (0, [some (.ref 14), some (.int x1), some (.int x2), some (.int x3), none, none, none], [], h, 0, 0) Q) : mCt mCd 171 [.ref 14, .int x1, .int x2, .int x3] h Q := mCt_in (Nat.le_of_ble_eq_true rfl) k
theorem en172 {h : mH} {Q : Option Value → mH → Prop} {x1 : Int32} {x2 : Int32} {x3 : Int32} {x4 : Int32} (k : mWp mCd 172 (0, [some (.ref 14), some (.int x1), some (.int x2), some (.int x3), some (.int x4)], [], h, 0, 0) Q) : mCt mCd 172 [.ref 14, .int x1, .int x2, .int x3, .int x4] h Q := mCt_in (Nat.le_of_ble_eq_true rfl) k
theorem en173 {h : mH} {Q : Option Value → mH → Prop} {x1 : Int32} {x2 : Int32} (k : mWp mCd 173 (0, [some (.ref 14), some (.int x1), some (.int x2), none, none], [], h, 0, 0) Q) : mCt mCd 173 [.ref 14, .int x1, .int x2] h Q := mCt_in (Nat.le_of_ble_eq_true rfl) k
theorem en174 {h : mH} {Q : Option Value → mH → Prop} {x1 : Int32} (k : mWp mCd 174 (0, [some (.ref 14), some (.int x1), none, none, none], [], h, 0, 0) Q) : mCt mCd 174 [.ref 14, .int x1] h Q := mCt_in (Nat.le_of_ble_eq_true rfl) k
theorem en175 {h : mH} {Q : Option Value → mH → Prop} {x1 : Int32} {x2 : Int32} (k : mWp mCd 175 (0, [some (.ref 14), some (.int x1), some (.int x2), none, none, none], [], h, 0, 0) Q) : mCt mCd 175 [.ref 14, .int x1, .int x2] h Q := mCt_in (Nat.le_of_ble_eq_true rfl) k
theorem en176 {h : mH} {Q : Option Value → mH → Prop} {x1 : Int32} {x2 : Int32} (k : mWp mCd 176 (0, [some (.ref 14), some (.int x1), some (.int x2), none, none, none, none, none, none, none, none], [], h, 0, 0) Q) : mCt mCd 176 [.ref 14, .int x1, .int x2] h Q := mCt_in (Nat.le_of_ble_eq_true rfl) k
theorem en177 {h : mH} {Q : Option Value → mH → Prop}  (k : mWp mCd 177 (0, [some (.ref 14), none], [], h, 0, 0) Q) : mCt mCd 177 [.ref 14] h Q := mCt_in (Nat.le_of_ble_eq_true rfl) k
theorem en178 {h : mH} {Q : Option Value → mH → Prop} {x1 : Int32} {x2 : Int32} {x3 : Int32} (k : mWp mCd 178 (0, [some (.ref 14), some (.int x1), some (.int x2), some (.int x3), none], [], h, 0, 0) Q) : mCt mCd 178 [.ref 14, .int x1, .int x2, .int x3] h Q := mCt_in (Nat.le_of_ble_eq_true rfl) k
theorem en179 {h : mH} {Q : Option Value → mH → Prop} {x1 : Int32} (k : mWp mCd 179 (0, [some (.ref 14), some (.int x1), none, none, none, none, none, none], [], h, 0, 0) Q) : mCt mCd 179 [.ref 14, .int x1] h Q := mCt_in (Nat.le_of_ble_eq_true rfl) k
theorem en180 {h : mH} {Q : Option Value → mH → Prop} {x1 : Int32} {x2 : Int32} (k : mWp mCd 180 (0, [some (.ref 14), some (.int x1), some (.int x2), none, none, none], [], h, 0, 0) Q) : mCt mCd 180 [.ref 14, .int x1, .int x2] h Q := mCt_in (Nat.le_of_ble_eq_true rfl) k
theorem en181 {h : mH} {Q : Option Value → mH → Prop} {x1 : Int32} (k : mWp mCd 181 (0, [some (.ref 14), some (.int x1), none, none], [], h, 0, 0) Q) : mCt mCd 181 [.ref 14, .int x1] h Q := mCt_in (Nat.le_of_ble_eq_true rfl) k
theorem en182 {h : mH} {Q : Option Value → mH → Prop} {x1 : Int32} (k : mWp mCd 182 (0, [some (.ref 14), some (.int x1), none, none, none, none, none, none], [], h, 0, 0) Q) : mCt mCd 182 [.ref 14, .int x1] h Q := mCt_in (Nat.le_of_ble_eq_true rfl) k
theorem en183 {h : mH} {Q : Option Value → mH → Prop} {x1 : Int32} {x2 : Int32} {x3 : Int32} {x4 : Int32} (k : mWp mCd 183 (0, [some (.ref 14), some (.int x1), some (.int x2), some (.int x3), some (.int x4)], [], h, 0, 0) Q) : mCt mCd 183 [.ref 14, .int x1, .int x2, .int x3, .int x4] h Q := mCt_in (Nat.le_of_ble_eq_true rfl) k
theorem en184 {h : mH} {Q : Option Value → mH → Prop} {x1 : Int32} {x2 : Int32} {x3 : Int32} {x4 : Int32} (k : mWp mCd 184 (0, [some (.ref 14), some (.int x1), some (.int x2), some (.int x3), some (.int x4), none, none, none, none], [], h, 0, 0) Q) : mCt mCd 184 [.ref 14, .int x1, .int x2, .int x3, .int x4] h Q := mCt_in (Nat.le_of_ble_eq_true rfl) k
theorem en185 {h : mH} {Q : Option Value → mH → Prop} {x1 : Int32} {x2 : Int32} {x3 : Int32} (k : mWp mCd 185 (0, [some (.ref 14), some (.int x1), some (.int x2), some (.int x3), none, none, none, none, none, none, none, none, none, none], [], h, 0, 0) Q) : mCt mCd 185 [.ref 14, .int x1, .int x2, .int x3] h Q := mCt_in (Nat.le_of_ble_eq_true rfl) k
theorem en186 {h : mH} {Q : Option Value → mH → Prop} {x1 : Int32} (k : mWp mCd 186 (0, [some (.ref 14), some (.int x1), none, none, none, none, none, none, none], [], h, 0, 0) Q) : mCt mCd 186 [.ref 14, .int x1] h Q := mCt_in (Nat.le_of_ble_eq_true rfl) k
theorem en187 {h : mH} {Q : Option Value → mH → Prop} {x1 : Int32} {x2 : Int32} (k : mWp mCd 187 (0, [some (.ref 14), some (.int x1), some (.int x2)], [], h, 0, 0) Q) : mCt mCd 187 [.ref 14, .int x1, .int x2] h Q := mCt_in (Nat.le_of_ble_eq_true rfl) k
theorem en188 {h : mH} {Q : Option Value → mH → Prop} {x1 : Int32} {x2 : Int32} {x3 : Int32} (k : mWp mCd 188 (0, [some (.ref 14), some (.int x1), some (.int x2), some (.int x3)], [], h, 0, 0) Q) : mCt mCd 188 [.ref 14, .int x1, .int x2, .int x3] h Q := mCt_in (Nat.le_of_ble_eq_true rfl) k
theorem en189 {h : mH} {Q : Option Value → mH → Prop} {x1 : Int32} (k : mWp mCd 189 (0, [some (.ref 14), some (.int x1), none, none, none, none], [], h, 0, 0) Q) : mCt mCd 189 [.ref 14, .int x1] h Q := mCt_in (Nat.le_of_ble_eq_true rfl) k
theorem en190 {h : mH} {Q : Option Value → mH → Prop} {x1 : Int32} (k : mWp mCd 190 (0, [some (.ref 14), some (.int x1), none, none, none, none], [], h, 0, 0) Q) : mCt mCd 190 [.ref 14, .int x1] h Q := mCt_in (Nat.le_of_ble_eq_true rfl) k
theorem en191 {h : mH} {Q : Option Value → mH → Prop} {x1 : Int32} (k : mWp mCd 191 (0, [some (.ref 14), some (.int x1), none, none], [], h, 0, 0) Q) : mCt mCd 191 [.ref 14, .int x1] h Q := mCt_in (Nat.le_of_ble_eq_true rfl) k
theorem en192 {h : mH} {Q : Option Value → mH → Prop} {x1 : Int32} {x2 : Int32} (k : mWp mCd 192 (0, [some (.ref 14), some (.int x1), some (.int x2)], [], h, 0, 0) Q) : mCt mCd 192 [.ref 14, .int x1, .int x2] h Q := mCt_in (Nat.le_of_ble_eq_true rfl) k
theorem en193 {h : mH} {Q : Option Value → mH → Prop} {x1 : Int32} {x2 : Int32} {x3 : Int32} (k : mWp mCd 193 (0, [some (.ref 14), some (.int x1), some (.int x2), some (.int x3), none, none], [], h, 0, 0) Q) : mCt mCd 193 [.ref 14, .int x1, .int x2, .int x3] h Q := mCt_in (Nat.le_of_ble_eq_true rfl) k
theorem en194 {h : mH} {Q : Option Value → mH → Prop} {x1 : Int32} {x2 : Int32} {x3 : Int32} (k : mWp mCd 194 (0, [some (.ref 14), some (.int x1), some (.int x2), some (.int x3), none, none, none], [], h, 0, 0) Q) : mCt mCd 194 [.ref 14, .int x1, .int x2, .int x3] h Q := mCt_in (Nat.le_of_ble_eq_true rfl) k
theorem en195 {h : mH} {Q : Option Value → mH → Prop} {x1 : Int32} (k : mWp mCd 195 (0, [some (.ref 14), some (.int x1), none, none], [], h, 0, 0) Q) : mCt mCd 195 [.ref 14, .int x1] h Q := mCt_in (Nat.le_of_ble_eq_true rfl) k
theorem en196 {h : mH} {Q : Option Value → mH → Prop} {x1 : Int32} (k : mWp mCd 196 (0, [some (.ref 14), some (.int x1), none], [], h, 0, 0) Q) : mCt mCd 196 [.ref 14, .int x1] h Q := mCt_in (Nat.le_of_ble_eq_true rfl) k
theorem en197 {h : mH} {Q : Option Value → mH → Prop} {x1 : Int32} (k : mWp mCd 197 (0, [some (.ref 14), some (.int x1)], [], h, 0, 0) Q) : mCt mCd 197 [.ref 14, .int x1] h Q := mCt_in (Nat.le_of_ble_eq_true rfl) k
theorem en198 {h : mH} {Q : Option Value → mH → Prop} {x1 : Int32} {y2 : Int64} (k : mWp mCd 198 (0, [some (.ref 14), some (.int x1), some (.long y2), none], [], h, 0, 0) Q) : mCt mCd 198 [.ref 14, .int x1, .long y2] h Q := mCt_in (Nat.le_of_ble_eq_true rfl) k
theorem en199 {h : mH} {Q : Option Value → mH → Prop} {x1 : Int32} (k : mWp mCd 199 (0, [some (.ref 14), some (.int x1), none, none], [], h, 0, 0) Q) : mCt mCd 199 [.ref 14, .int x1] h Q := mCt_in (Nat.le_of_ble_eq_true rfl) k
theorem en200 {h : mH} {Q : Option Value → mH → Prop} {x1 : Int32} (k : mWp mCd 200 (0, [some (.ref 14), some (.int x1)], [], h, 0, 0) Q) : mCt mCd 200 [.ref 14, .int x1] h Q := mCt_in (Nat.le_of_ble_eq_true rfl) k
theorem en201 {h : mH} {Q : Option Value → mH → Prop} {x1 : Int32} {x2 : Int32} (k : mWp mCd 201 (0, [some (.ref 14), some (.int x1), some (.int x2)], [], h, 0, 0) Q) : mCt mCd 201 [.ref 14, .int x1, .int x2] h Q := mCt_in (Nat.le_of_ble_eq_true rfl) k
theorem en202 {h : mH} {Q : Option Value → mH → Prop} {x1 : Int32} {x2 : Int32} (k : mWp mCd 202 (0, [some (.ref 14), some (.int x1), some (.int x2)], [], h, 0, 0) Q) : mCt mCd 202 [.ref 14, .int x1, .int x2] h Q := mCt_in (Nat.le_of_ble_eq_true rfl) k
theorem en203 {h : mH} {Q : Option Value → mH → Prop} {x1 : Int32} {x2 : Int32} (k : mWp mCd 203 (0, [some (.ref 14), some (.int x1), some (.int x2)], [], h, 0, 0) Q) : mCt mCd 203 [.ref 14, .int x1, .int x2] h Q := mCt_in (Nat.le_of_ble_eq_true rfl) k
theorem en204 {h : mH} {Q : Option Value → mH → Prop} {x1 : Int32} {x2 : Int32} (k : mWp mCd 204 (0, [some (.ref 14), some (.int x1), some (.int x2), none], [], h, 0, 0) Q) : mCt mCd 204 [.ref 14, .int x1, .int x2] h Q := mCt_in (Nat.le_of_ble_eq_true rfl) k
theorem en205 {h : mH} {Q : Option Value → mH → Prop} {x1 : Int32} {x2 : Int32} (k : mWp mCd 205 (0, [some (.ref 14), some (.int x1), some (.int x2), none], [], h, 0, 0) Q) : mCt mCd 205 [.ref 14, .int x1, .int x2] h Q := mCt_in (Nat.le_of_ble_eq_true rfl) k
theorem en206 {h : mH} {Q : Option Value → mH → Prop} {x1 : Int32} {x2 : Int32} (k : mWp mCd 206 (0, [some (.ref 14), some (.int x1), some (.int x2), none], [], h, 0, 0) Q) : mCt mCd 206 [.ref 14, .int x1, .int x2] h Q := mCt_in (Nat.le_of_ble_eq_true rfl) k
theorem en207 {h : mH} {Q : Option Value → mH → Prop} {x1 : Int32} {x2 : Int32} {x3 : Int32} (k : mWp mCd 207 (0, [some (.ref 14), some (.int x1), some (.int x2), some (.int x3)], [], h, 0, 0) Q) : mCt mCd 207 [.ref 14, .int x1, .int x2, .int x3] h Q := mCt_in (Nat.le_of_ble_eq_true rfl) k
theorem en208 {h : mH} {Q : Option Value → mH → Prop} {x1 : Int32} (k : mWp mCd 208 (0, [some (.ref 14), some (.int x1)], [], h, 0, 0) Q) : mCt mCd 208 [.ref 14, .int x1] h Q := mCt_in (Nat.le_of_ble_eq_true rfl) k
theorem en209 {h : mH} {Q : Option Value → mH → Prop} {x1 : Int32} (k : mWp mCd 209 (0, [some (.ref 14), some (.int x1)], [], h, 0, 0) Q) : mCt mCd 209 [.ref 14, .int x1] h Q := mCt_in (Nat.le_of_ble_eq_true rfl) k
theorem en210 {h : mH} {Q : Option Value → mH → Prop} {x1 : Int32} (k : mWp mCd 210 (0, [some (.ref 14), some (.int x1)], [], h, 0, 0) Q) : mCt mCd 210 [.ref 14, .int x1] h Q := mCt_in (Nat.le_of_ble_eq_true rfl) k
theorem en211 {h : mH} {Q : Option Value → mH → Prop} {x1 : Int32} {x2 : Int32} {x3 : Int32} (k : mWp mCd 211 (0, [some (.ref 14), some (.int x1), some (.int x2), some (.int x3), none], [], h, 0, 0) Q) : mCt mCd 211 [.ref 14, .int x1, .int x2, .int x3] h Q := mCt_in (Nat.le_of_ble_eq_true rfl) k
theorem en212 {h : mH} {Q : Option Value → mH → Prop} {x1 : Int32} {x2 : Int32} {x3 : Int32} (k : mWp mCd 212 (0, [some (.ref 14), some (.int x1), some (.int x2), some (.int x3)], [], h, 0, 0) Q) : mCt mCd 212 [.ref 14, .int x1, .int x2, .int x3] h Q := mCt_in (Nat.le_of_ble_eq_true rfl) k
theorem en213 {h : mH} {Q : Option Value → mH → Prop} {x1 : Int32} {x2 : Int32} {x3 : Int32} {x4 : Int32} (k : mWp mCd 213 (0, [some (.ref 14), some (.int x1), some (.int x2), some (.int x3), some (.int x4), none], [], h, 0, 0) Q) : mCt mCd 213 [.ref 14, .int x1, .int x2, .int x3, .int x4] h Q := mCt_in (Nat.le_of_ble_eq_true rfl) k
theorem en214 {h : mH} {Q : Option Value → mH → Prop} {x1 : Int32} {x2 : Int32} {x3 : Int32} {x4 : Int32} {x5 : Int32} (k : mWp mCd 214 (0, [some (.ref 14), some (.int x1), some (.int x2), some (.int x3), some (.int x4), some (.int x5), none], [], h, 0, 0) Q) : mCt mCd 214 [.ref 14, .int x1, .int x2, .int x3, .int x4, .int x5] h Q := mCt_in (Nat.le_of_ble_eq_true rfl) k
theorem en215 {h : mH} {Q : Option Value → mH → Prop} {x1 : Int32} {x2 : Int32} (k : mWp mCd 215 (0, [some (.ref 14), some (.int x1), some (.int x2)], [], h, 0, 0) Q) : mCt mCd 215 [.ref 14, .int x1, .int x2] h Q := mCt_in (Nat.le_of_ble_eq_true rfl) k
theorem en216 {h : mH} {Q : Option Value → mH → Prop} {x0 : Int32} {x1 : Int32} (k : mWp mCd 216 (0, [some (.int x0), some (.int x1)], [], h, 0, 0) Q) : mCt mCd 216 [.int x0, .int x1] h Q := mCt_in (Nat.le_of_ble_eq_true rfl) k
theorem en217 {h : mH} {Q : Option Value → mH → Prop} {x0 : Int32} (k : mWp mCd 217 (0, [some (.int x0)], [], h, 0, 0) Q) : mCt mCd 217 [.int x0] h Q := mCt_in (Nat.le_of_ble_eq_true rfl) k
theorem en218 {h : mH} {Q : Option Value → mH → Prop} {y0 : Int64} (k : mWp mCd 218 (0, [some (.long y0), none], [], h, 0, 0) Q) : mCt mCd 218 [.long y0] h Q := mCt_in (Nat.le_of_ble_eq_true rfl) k
theorem en219 {h : mH} {Q : Option Value → mH → Prop} {x0 : Int32} {x1 : Int32} (k : mWp mCd 219 (0, [some (.int x0), some (.int x1)], [], h, 0, 0) Q) : mCt mCd 219 [.int x0, .int x1] h Q := mCt_in (Nat.le_of_ble_eq_true rfl) k
theorem en220 {h : mH} {Q : Option Value → mH → Prop} {x0 : Int32} {x1 : Int32} (k : mWp mCd 220 (0, [some (.int x0), some (.int x1)], [], h, 0, 0) Q) : mCt mCd 220 [.int x0, .int x1] h Q := mCt_in (Nat.le_of_ble_eq_true rfl) k
theorem en221 {h : mH} {Q : Option Value → mH → Prop} {r0 : Nat} (k : mWp mCd 221 (0, [some (.ref r0), none, none, none], [], h, 0, 0) Q) : mCt mCd 221 [.ref r0] h Q := mCt_in (Nat.le_of_ble_eq_true rfl) k
theorem b0_0 {h : mH} {Q : Option Value → mH → Prop} {r0 : Nat} {ci101 : Nat} {fs102 : List Value} (e1 : h[r0]? = some (.inr (ci101, fs102))) (e2 : ([0] : List Nat).contains ci101 = true) (e3 : Nat.blt 0 fs102.length = true) (k : mWp mCd 0 (14, [some (.ref r0)], [.ref (((h.set r0 (.inr (ci101, fs102.set 0 (.int (iZ 0)))))).length), .ref r0], ((h.set r0 (.inr (ci101, fs102.set 0 (.int (iZ 0))))) ++ [aI 96 (fun _ => 0)]), 1, 96) Q) : mWp mCd 0 (0, [some (.ref r0)], [], h, 0, 0) Q := by
  refine mWp_run 1 (t' := (1, [some (.ref r0)], [.ref r0], h, 0, 0)) rfl ?_
  refine mWp_run 3 (t' := (6, [some (.ref r0)], [.int (iZ 0), .ref r0], h, 0, 0)) rfl ?_
  refine mWp_pf rfl e1 e2 rfl e3 ?_
  show mWp mCd 0 (9, [some (.ref r0)], [], (h.set r0 (.inr (ci101, fs102.set 0 (.int (iZ 0))))), 0, 0) Q
  refine mWp_run 2 (t' := (12, [some (.ref r0)], [.int (iZ 96), .ref r0], (h.set r0 (.inr (ci101, fs102.set 0 (.int (iZ 0))))), 0, 0)) rfl ?_
  refine mWp_run 1 (t' := (14, [some (.ref r0)], [.ref (((h.set r0 (.inr (ci101, fs102.set 0 (.int (iZ 0)))))).length), .ref r0], ((h.set r0 (.inr (ci101, fs102.set 0 (.int (iZ 0))))) ++ [aI 96 (fun _ => 0)]), 1, 96)) rfl ?_
  exact k
theorem b0_14 {h : mH} {Q : Option Value → mH → Prop} {r0 : Nat} {q0 : Nat} {q1 : Nat} {ci101 : Nat} {fs102 : List Value} (e1 : h[q1]? = some (.inr (ci101, fs102))) (e2 : ([0] : List Nat).contains ci101 = true) (e3 : Nat.blt 1 fs102.length = true) (k : mWp mCd 0 (21, [some (.ref r0)], [.ref (((h.set q1 (.inr (ci101, fs102.set 1 (.ref q0))))).length), .ref r0], ((h.set q1 (.inr (ci101, fs102.set 1 (.ref q0)))) ++ [aI 4 (fun _ => 0)]), 2, 100) Q) : mWp mCd 0 (14, [some (.ref r0)], [.ref q0, .ref q1], h, 1, 96) Q := by
  refine mWp_pf rfl e1 e2 rfl e3 ?_
  show mWp mCd 0 (17, [some (.ref r0)], [], (h.set q1 (.inr (ci101, fs102.set 1 (.ref q0)))), 1, 96) Q
  refine mWp_run 2 (t' := (19, [some (.ref r0)], [.int (iZ 4), .ref r0], (h.set q1 (.inr (ci101, fs102.set 1 (.ref q0)))), 1, 96)) rfl ?_
  refine mWp_run 1 (t' := (21, [some (.ref r0)], [.ref (((h.set q1 (.inr (ci101, fs102.set 1 (.ref q0))))).length), .ref r0], ((h.set q1 (.inr (ci101, fs102.set 1 (.ref q0)))) ++ [aI 4 (fun _ => 0)]), 2, 100)) rfl ?_
  exact k
theorem b0_21 {h : mH} {Q : Option Value → mH → Prop} {r0 : Nat} {q0 : Nat} {q1 : Nat} {ci101 : Nat} {fs102 : List Value} (e1 : h[q1]? = some (.inr (ci101, fs102))) (e2 : ([0] : List Nat).contains ci101 = true) (e3 : Nat.blt 2 fs102.length = true) (k : mWp mCd 0 (29, [some (.ref r0)], [.ref (((h.set q1 (.inr (ci101, fs102.set 2 (.ref q0))))).length), .ref r0], ((h.set q1 (.inr (ci101, fs102.set 2 (.ref q0)))) ++ [aI 8 (fun _ => 0)]), 3, 108) Q) : mWp mCd 0 (21, [some (.ref r0)], [.ref q0, .ref q1], h, 2, 100) Q := by
  refine mWp_pf rfl e1 e2 rfl e3 ?_
  show mWp mCd 0 (24, [some (.ref r0)], [], (h.set q1 (.inr (ci101, fs102.set 2 (.ref q0)))), 2, 100) Q
  refine mWp_run 2 (t' := (27, [some (.ref r0)], [.int (iZ 8), .ref r0], (h.set q1 (.inr (ci101, fs102.set 2 (.ref q0)))), 2, 100)) rfl ?_
  refine mWp_run 1 (t' := (29, [some (.ref r0)], [.ref (((h.set q1 (.inr (ci101, fs102.set 2 (.ref q0))))).length), .ref r0], ((h.set q1 (.inr (ci101, fs102.set 2 (.ref q0)))) ++ [aI 8 (fun _ => 0)]), 3, 108)) rfl ?_
  exact k
theorem b0_29 {h : mH} {Q : Option Value → mH → Prop} {r0 : Nat} {q0 : Nat} {q1 : Nat} {ci101 : Nat} {fs102 : List Value} (e1 : h[q1]? = some (.inr (ci101, fs102))) (e2 : ([0] : List Nat).contains ci101 = true) (e3 : Nat.blt 3 fs102.length = true) (k : mWp mCd 0 (37, [some (.ref r0)], [.ref (((h.set q1 (.inr (ci101, fs102.set 3 (.ref q0))))).length), .ref r0], ((h.set q1 (.inr (ci101, fs102.set 3 (.ref q0)))) ++ [aI 8 (fun _ => 0)]), 4, 116) Q) : mWp mCd 0 (29, [some (.ref r0)], [.ref q0, .ref q1], h, 3, 108) Q := by
  refine mWp_pf rfl e1 e2 rfl e3 ?_
  show mWp mCd 0 (32, [some (.ref r0)], [], (h.set q1 (.inr (ci101, fs102.set 3 (.ref q0)))), 3, 108) Q
  refine mWp_run 2 (t' := (35, [some (.ref r0)], [.int (iZ 8), .ref r0], (h.set q1 (.inr (ci101, fs102.set 3 (.ref q0)))), 3, 108)) rfl ?_
  refine mWp_run 1 (t' := (37, [some (.ref r0)], [.ref (((h.set q1 (.inr (ci101, fs102.set 3 (.ref q0))))).length), .ref r0], ((h.set q1 (.inr (ci101, fs102.set 3 (.ref q0)))) ++ [aI 8 (fun _ => 0)]), 4, 116)) rfl ?_
  exact k
theorem b0_37 {h : mH} {Q : Option Value → mH → Prop} {r0 : Nat} {q0 : Nat} {q1 : Nat} {ci101 : Nat} {fs102 : List Value} (e1 : h[q1]? = some (.inr (ci101, fs102))) (e2 : ([0] : List Nat).contains ci101 = true) (e3 : Nat.blt 4 fs102.length = true) (k : mWp mCd 0 (45, [some (.ref r0)], [.ref (((h.set q1 (.inr (ci101, fs102.set 4 (.ref q0))))).length), .ref r0], ((h.set q1 (.inr (ci101, fs102.set 4 (.ref q0)))) ++ [aI 9 (fun _ => 0)]), 5, 125) Q) : mWp mCd 0 (37, [some (.ref r0)], [.ref q0, .ref q1], h, 4, 116) Q := by
  refine mWp_pf rfl e1 e2 rfl e3 ?_
  show mWp mCd 0 (40, [some (.ref r0)], [], (h.set q1 (.inr (ci101, fs102.set 4 (.ref q0)))), 4, 116) Q
  refine mWp_run 2 (t' := (43, [some (.ref r0)], [.int (iZ 9), .ref r0], (h.set q1 (.inr (ci101, fs102.set 4 (.ref q0)))), 4, 116)) rfl ?_
  refine mWp_run 1 (t' := (45, [some (.ref r0)], [.ref (((h.set q1 (.inr (ci101, fs102.set 4 (.ref q0))))).length), .ref r0], ((h.set q1 (.inr (ci101, fs102.set 4 (.ref q0)))) ++ [aI 9 (fun _ => 0)]), 5, 125)) rfl ?_
  exact k
theorem b0_45 {h : mH} {Q : Option Value → mH → Prop} {r0 : Nat} {q0 : Nat} {q1 : Nat} {ci101 : Nat} {fs102 : List Value} {ci103 : Nat} {fs104 : List Value} (e1 : h[q1]? = some (.inr (ci101, fs102))) (e2 : ([0] : List Nat).contains ci101 = true) (e3 : Nat.blt 5 fs102.length = true) (e4 : h[r0]? = some (.inr (ci103, fs104))) (e5 : q1 ≠ r0) (e6 : ([0] : List Nat).contains ci103 = true) (e7 : Nat.blt 6 fs104.length = true) (k : Q none ((h.set q1 (.inr (ci101, fs102.set 5 (.ref q0)))).set r0 (.inr (ci103, fs104.set 6 (.int (iZ 0)))))) : mWp mCd 0 (45, [some (.ref r0)], [.ref q0, .ref q1], h, 5, 125) Q := by
  refine mWp_pf rfl e1 e2 rfl e3 ?_
  show mWp mCd 0 (48, [some (.ref r0)], [], (h.set q1 (.inr (ci101, fs102.set 5 (.ref q0)))), 5, 125) Q
  refine mWp_run 2 (t' := (50, [some (.ref r0)], [.int (iZ 0), .ref r0], (h.set q1 (.inr (ci101, fs102.set 5 (.ref q0)))), 5, 125)) rfl ?_
  refine mWp_pf rfl (mGn e5 e4) e6 rfl e7 ?_
  show mWp mCd 0 (53, [some (.ref r0)], [], ((h.set q1 (.inr (ci101, fs102.set 5 (.ref q0)))).set r0 (.inr (ci103, fs104.set 6 (.int (iZ 0))))), 5, 125) Q
  exact mWp_r (v := none) rfl k
theorem b1_0 {h : mH} {Q : Option Value → mH → Prop} {r0 : Nat} {x1 : Int32} {x2 : Int32}  (k1 : ((x1 * (iZ 4)) + x2) < 0 → mWp mCd 1 (19, [none, none, none, none], [], h, 0, 0) Q) (k2 : ¬ (((x1 * (iZ 4)) + x2) < 0) → mWp mCd 1 (10, [some (.ref r0), none, none, some (.int ((x1 * (iZ 4)) + x2))], [], h, 0, 0) Q) : mWp mCd 1 (0, [some (.ref r0), some (.int x1), some (.int x2), none], [], h, 0, 0) Q := by
  refine mWp_run 7 (t' := (7, [some (.ref r0), some (.int x1), some (.int x2), some (.int ((x1 * (iZ 4)) + x2))], [.int ((x1 * (iZ 4)) + x2)], h, 0, 0)) rfl ?_
  exact mWp_if (P := fun x => x < 0) (a := (x1 * (iZ 4)) + x2) rfl (fun q => mWp_weak (mLe_n (mLe_n (mLe_n (mLe_n mLe_0)))) (k1 q)) (fun q => mWp_weak (mLe_s (mLe_n (mLe_n (mLe_s mLe_0)))) (k2 q))
theorem b1_19 {h : mH} {Q : Option Value → mH → Prop}   (k : Q (some (.int (iZ 0))) h) : mWp mCd 1 (19, [none, none, none, none], [], h, 0, 0) Q := by
  refine mWp_run 2 (t' := (29, [none, none, none, none], [.int (iZ 0)], h, 0, 0)) rfl ?_
  exact mWp_r (v := (some (.int (iZ 0)))) rfl k
theorem b1_10 {h : mH} {Q : Option Value → mH → Prop} {r0 : Nat} {x3 : Int32} {cc : Int32} {tw : Int32} {g101 : Nat → Int32} (e1 : h[r0]? = some (oK r0 cc tw)) (e2 : h[((r0 + 1))]? = some (aI 96 g101)) (k1 : x3 < (Int32.ofNat 96) → mWp mCd 1 (23, [some (.ref r0), none, none, some (.int x3)], [], h, 0, 0) Q) (k2 : ¬ (x3 < (Int32.ofNat 96)) → mWp mCd 1 (19, [none, none, none, none], [], h, 0, 0) Q) : mWp mCd 1 (10, [some (.ref r0), none, none, some (.int x3)], [], h, 0, 0) Q := by
  refine mWp_run 2 (t' := (12, [some (.ref r0), none, none, some (.int x3)], [.ref r0, .int x3], h, 0, 0)) rfl ?_
  refine mWp_gf rfl e1 rfl rfl ?_
  refine mWp_aln rfl e2 (by decide) ?_
  exact mWp_ic (P := fun x y => x < y) (a := x3) (b := Int32.ofNat 96) rfl k1 (fun q => mWp_weak (mLe_n (mLe_n (mLe_n (mLe_n mLe_0)))) (k2 q))
theorem b1_23 {h : mH} {Q : Option Value → mH → Prop} {r0 : Nat} {x3 : Int32} {cc : Int32} {tw : Int32} {g101 : Nat → Int32} (e1 : h[r0]? = some (oK r0 cc tw)) (e2 : h[((r0 + 1))]? = some (aI 96 g101)) (e3 : ¬ (x3 < 0 ∨ 96 ≤ x3.toNatClampNeg)) (k : Q (some (.int (g101 x3.toNatClampNeg))) h) : mWp mCd 1 (23, [some (.ref r0), none, none, some (.int x3)], [], h, 0, 0) Q := by
  refine mWp_run 1 (t' := (24, [some (.ref r0), none, none, some (.int x3)], [.ref r0], h, 0, 0)) rfl ?_
  refine mWp_gf rfl e1 rfl rfl ?_
  refine mWp_run 1 (t' := (28, [some (.ref r0), none, none, some (.int x3)], [.int x3, .ref (r0 + 1)], h, 0, 0)) rfl ?_
  refine mWp_ial rfl e2 e3 ?_
  exact mWp_r (v := (some (.int (g101 x3.toNatClampNeg)))) rfl k
theorem b2_0 {h : mH} {Q : Option Value → mH → Prop} {r0 : Nat} {x1 : Int32} {x2 : Int32} {cc : Int32} {tw : Int32} (e1 : h[r0]? = some (oK r0 cc tw)) (k : mCt mCd 1 [.ref r0, .int (iZ 0), .int x1] h (fun rv hv => mWp mCd 2 (6, [some (.ref r0), some (.int x1), some (.int x2), none, none, none], rv.toList ++ [], hv, 0, 0) Q)) : mWp mCd 2 (0, [some (.ref r0), some (.int x1), some (.int x2), none, none, none], [], h, 0, 0) Q := by
  refine mWp_run 3 (t' := (3, [some (.ref r0), some (.int x1), some (.int x2), none, none, none], [.int x1, .int (iZ 0), .ref r0], h, 0, 0)) rfl ?_
  exact mWp_iv rfl rfl e1 rfl rfl rfl rfl k
theorem b2_6 {h : mH} {Q : Option Value → mH → Prop} {r0 : Nat} {x1 : Int32} {x2 : Int32} {u0 : Int32}  (k : mWp mCd 2 (10, [some (.ref r0), some (.int x1), some (.int x2), some (.int u0), some (.int (iZ 1)), none], [], h, 0, 0) Q) : mWp mCd 2 (6, [some (.ref r0), some (.int x1), some (.int x2), none, none, none], [.int u0], h, 0, 0) Q := by
  refine mWp_run 3 (t' := (10, [some (.ref r0), some (.int x1), some (.int x2), some (.int u0), some (.int (iZ 1)), none], [], h, 0, 0)) rfl ?_
  exact k
theorem b2_10 {h : mH} {Q : Option Value → mH → Prop} {r0 : Nat} {x1 : Int32} {x2 : Int32} {x3 : Int32} {x4 : Int32} {cc : Int32} {tw : Int32} (e1 : h[r0]? = some (oK r0 cc tw)) (k1 : cc ≤ x4 → mWp mCd 2 (54, [none, none, none, some (.int x3), none, none], [], h, 0, 0) Q) (k2 : ¬ (cc ≤ x4) → mWp mCd 2 (19, [some (.ref r0), some (.int x1), some (.int x2), some (.int x3), some (.int x4), none], [], h, 0, 0) Q) : mWp mCd 2 (10, [some (.ref r0), some (.int x1), some (.int x2), some (.int x3), some (.int x4), none], [], h, 0, 0) Q := by
  refine mWp_run 2 (t' := (13, [some (.ref r0), some (.int x1), some (.int x2), some (.int x3), some (.int x4), none], [.ref r0, .int x4], h, 0, 0)) rfl ?_
  refine mWp_gf rfl e1 rfl rfl ?_
  exact mWp_ic (P := fun x y => y ≤ x) (a := x4) (b := cc) rfl (fun q => mWp_weak (mLe_n (mLe_n (mLe_n (mLe_s (mLe_n (mLe_n mLe_0)))))) (k1 q)) k2
theorem b2_54 {h : mH} {Q : Option Value → mH → Prop} {x3 : Int32}  (k : Q (some (.int x3)) h) : mWp mCd 2 (54, [none, none, none, some (.int x3), none, none], [], h, 0, 0) Q := by
  refine mWp_run 1 (t' := (55, [none, none, none, some (.int x3), none, none], [.int x3], h, 0, 0)) rfl ?_
  exact mWp_r (v := (some (.int x3))) rfl k
theorem b2_19 {h : mH} {Q : Option Value → mH → Prop} {r0 : Nat} {x1 : Int32} {x2 : Int32} {x3 : Int32} {x4 : Int32} {cc : Int32} {tw : Int32} (e1 : h[r0]? = some (oK r0 cc tw)) (k : mCt mCd 1 [.ref r0, .int x4, .int x1] h (fun rv hv => mWp mCd 2 (26, [some (.ref r0), some (.int x1), some (.int x2), some (.int x3), some (.int x4), none], rv.toList ++ [], hv, 0, 0) Q)) : mWp mCd 2 (19, [some (.ref r0), some (.int x1), some (.int x2), some (.int x3), some (.int x4), none], [], h, 0, 0) Q := by
  refine mWp_run 3 (t' := (23, [some (.ref r0), some (.int x1), some (.int x2), some (.int x3), some (.int x4), none], [.int x1, .int x4, .ref r0], h, 0, 0)) rfl ?_
  exact mWp_iv rfl rfl e1 rfl rfl rfl rfl k
theorem b2_26 {h : mH} {Q : Option Value → mH → Prop} {r0 : Nat} {x1 : Int32} {x2 : Int32} {x3 : Int32} {x4 : Int32} {u0 : Int32}  (k1 : x2 = 0 → mWp mCd 2 (41, [some (.ref r0), some (.int x1), some (.int x2), some (.int x3), some (.int x4), some (.int u0)], [], h, 0, 0) Q) (k2 : ¬ (x2 = 0) → mWp mCd 2 (32, [some (.ref r0), some (.int x1), some (.int x2), some (.int x3), some (.int x4), some (.int u0)], [], h, 0, 0) Q) : mWp mCd 2 (26, [some (.ref r0), some (.int x1), some (.int x2), some (.int x3), some (.int x4), none], [.int u0], h, 0, 0) Q := by
  refine mWp_run 2 (t' := (29, [some (.ref r0), some (.int x1), some (.int x2), some (.int x3), some (.int x4), some (.int u0)], [.int x2], h, 0, 0)) rfl ?_
  exact mWp_if (P := fun x => x = 0) (a := x2) rfl k1 k2
theorem b2_41 {h : mH} {Q : Option Value → mH → Prop} {r0 : Nat} {x1 : Int32} {x2 : Int32} {x3 : Int32} {x4 : Int32} {x5 : Int32}  (k : mCt mCd 220 [.int x3, .int x5] h (fun rv hv => mWp mCd 2 (47, [some (.ref r0), some (.int x1), some (.int x2), none, some (.int x4), none], rv.toList ++ [], hv, 0, 0) Q)) : mWp mCd 2 (41, [some (.ref r0), some (.int x1), some (.int x2), some (.int x3), some (.int x4), some (.int x5)], [], h, 0, 0) Q := by
  refine mWp_run 2 (t' := (44, [some (.ref r0), some (.int x1), some (.int x2), some (.int x3), some (.int x4), some (.int x5)], [.int x5, .int x3], h, 0, 0)) rfl ?_
  exact mWp_is rfl rfl rfl rfl rfl (mCt_mono k (fun rv hv y => mWp_weak (mLe_s (mLe_s (mLe_s (mLe_n (mLe_s (mLe_n mLe_0)))))) y))
theorem b2_32 {h : mH} {Q : Option Value → mH → Prop} {r0 : Nat} {x1 : Int32} {x2 : Int32} {x3 : Int32} {x4 : Int32} {x5 : Int32}  (k : mCt mCd 219 [.int x3, .int x5] h (fun rv hv => mWp mCd 2 (38, [some (.ref r0), some (.int x1), some (.int x2), none, some (.int x4), none], rv.toList ++ [], hv, 0, 0) Q)) : mWp mCd 2 (32, [some (.ref r0), some (.int x1), some (.int x2), some (.int x3), some (.int x4), some (.int x5)], [], h, 0, 0) Q := by
  refine mWp_run 2 (t' := (35, [some (.ref r0), some (.int x1), some (.int x2), some (.int x3), some (.int x4), some (.int x5)], [.int x5, .int x3], h, 0, 0)) rfl ?_
  exact mWp_is rfl rfl rfl rfl rfl (mCt_mono k (fun rv hv y => mWp_weak (mLe_s (mLe_s (mLe_s (mLe_n (mLe_s (mLe_n mLe_0)))))) y))
theorem b2_47 {h : mH} {Q : Option Value → mH → Prop} {r0 : Nat} {x1 : Int32} {x2 : Int32} {x4 : Int32} {u0 : Int32}  (k : mWp mCd 2 (10, [some (.ref r0), some (.int x1), some (.int x2), some (.int u0), some (.int (x4 + iZ 1)), none], [], h, 0, 0) Q) : mWp mCd 2 (47, [some (.ref r0), some (.int x1), some (.int x2), none, some (.int x4), none], [.int u0], h, 0, 0) Q := by
  refine mWp_run 3 (t' := (10, [some (.ref r0), some (.int x1), some (.int x2), some (.int u0), some (.int (x4 + iZ 1)), none], [], h, 0, 0)) rfl ?_
  exact k
theorem b2_38 {h : mH} {Q : Option Value → mH → Prop} {r0 : Nat} {x1 : Int32} {x2 : Int32} {x4 : Int32} {u0 : Int32}  (k : mWp mCd 2 (47, [some (.ref r0), some (.int x1), some (.int x2), none, some (.int x4), none], [.int u0], h, 0, 0) Q) : mWp mCd 2 (38, [some (.ref r0), some (.int x1), some (.int x2), none, some (.int x4), none], [.int u0], h, 0, 0) Q := by
  refine mWp_run 1 (t' := (47, [some (.ref r0), some (.int x1), some (.int x2), none, some (.int x4), none], [.int u0], h, 0, 0)) rfl ?_
  exact k
theorem b3_0 {h : mH} {Q : Option Value → mH → Prop} {r0 : Nat} {r1 : Nat} {cc : Int32} {tw : Int32} (e1 : h[r0]? = some (oK r0 cc tw)) (k : mCt mCd 4 [.ref r0, .ref r1] (h.set r0 (oK r0 (iZ 0) tw)) (fun rv hv => mWp mCd 3 (10, [some (.ref r0), none, none, none, none], rv.toList ++ [], hv, 0, 0) Q)) : mWp mCd 3 (0, [some (.ref r0), some (.ref r1), none, none, none], [], h, 0, 0) Q := by
  refine mWp_run 2 (t' := (2, [some (.ref r0), some (.ref r1), none, none, none], [.int (iZ 0), .ref r0], h, 0, 0)) rfl ?_
  refine mWp_pf rfl e1 rfl rfl rfl ?_
  show mWp mCd 3 (5, [some (.ref r0), some (.ref r1), none, none, none], [], (h.set r0 (oK r0 (iZ 0) tw)), 0, 0) Q
  refine mWp_run 2 (t' := (7, [some (.ref r0), some (.ref r1), none, none, none], [.ref r1, .ref r0], (h.set r0 (oK r0 (iZ 0) tw)), 0, 0)) rfl ?_
  exact mWp_iv rfl rfl (mGs e1) rfl rfl rfl rfl (mCt_mono k (fun rv hv y => mWp_weak (mLe_s (mLe_n (mLe_n (mLe_n (mLe_n mLe_0))))) y))
theorem b3_10 {h : mH} {Q : Option Value → mH → Prop} {r0 : Nat} {cc : Int32} {tw : Int32} (e1 : h[r0]? = some (oK r0 cc tw)) (k : mCt mCd 5 [.ref r0] h (fun rv hv => mWp mCd 3 (14, [some (.ref r0), none, none, none, none], rv.toList ++ [], hv, 0, 0) Q)) : mWp mCd 3 (10, [some (.ref r0), none, none, none, none], [], h, 0, 0) Q := by
  refine mWp_run 1 (t' := (11, [some (.ref r0), none, none, none, none], [.ref r0], h, 0, 0)) rfl ?_
  exact mWp_iv rfl rfl e1 rfl rfl rfl rfl k
theorem b3_14 {h : mH} {Q : Option Value → mH → Prop} {r0 : Nat} {u0 : Int32}  (k1 : ¬ u0 = 0 → mWp mCd 3 (18, [some (.ref r0), none, none, none, none], [], h, 0, 0) Q) (k2 : ¬ (¬ u0 = 0) → mWp mCd 3 (17, [none, none, none, none, none], [], h, 0, 0) Q) : mWp mCd 3 (14, [some (.ref r0), none, none, none, none], [.int u0], h, 0, 0) Q := by
  exact mWp_if (P := fun x => ¬ x = 0) (a := u0) rfl k1 (fun q => mWp_weak (mLe_n (mLe_n (mLe_n (mLe_n (mLe_n mLe_0))))) (k2 q))
theorem b3_18 {h : mH} {Q : Option Value → mH → Prop} {r0 : Nat}  (k : mWp mCd 3 (20, [some (.ref r0), none, some (.int (iZ 1)), none, none], [], h, 0, 0) Q) : mWp mCd 3 (18, [some (.ref r0), none, none, none, none], [], h, 0, 0) Q := by
  refine mWp_run 2 (t' := (20, [some (.ref r0), none, some (.int (iZ 1)), none, none], [], h, 0, 0)) rfl ?_
  exact k
theorem b3_17 {h : mH} {Q : Option Value → mH → Prop}   (k : Q none h) : mWp mCd 3 (17, [none, none, none, none, none], [], h, 0, 0) Q := by
  exact mWp_r (v := none) rfl k
theorem b3_20 {h : mH} {Q : Option Value → mH → Prop} {r0 : Nat} {x2 : Int32}  (k1 : (iZ 8) ≤ x2 → mWp mCd 3 (74, [none, none, none, none, none], [], h, 0, 0) Q) (k2 : ¬ ((iZ 8) ≤ x2) → mWp mCd 3 (26, [some (.ref r0), none, some (.int x2), none, none], [], h, 0, 0) Q) : mWp mCd 3 (20, [some (.ref r0), none, some (.int x2), none, none], [], h, 0, 0) Q := by
  refine mWp_run 2 (t' := (23, [some (.ref r0), none, some (.int x2), none, none], [.int (iZ 8), .int x2], h, 0, 0)) rfl ?_
  exact mWp_ic (P := fun x y => y ≤ x) (a := x2) (b := iZ 8) rfl (fun q => mWp_weak (mLe_n (mLe_n (mLe_n (mLe_n (mLe_n mLe_0))))) (k1 q)) k2
theorem b3_74 {h : mH} {Q : Option Value → mH → Prop}   (k : Q none h) : mWp mCd 3 (74, [none, none, none, none, none], [], h, 0, 0) Q := by
  exact mWp_r (v := none) rfl k
theorem b3_26 {h : mH} {Q : Option Value → mH → Prop} {r0 : Nat} {x2 : Int32}  (k : mWp mCd 3 (30, [some (.ref r0), none, some (.int x2), some (.int (x2 + (iZ 1))), none], [], h, 0, 0) Q) : mWp mCd 3 (26, [some (.ref r0), none, some (.int x2), none, none], [], h, 0, 0) Q := by
  refine mWp_run 4 (t' := (30, [some (.ref r0), none, some (.int x2), some (.int (x2 + (iZ 1))), none], [], h, 0, 0)) rfl ?_
  exact k
theorem b3_30 {h : mH} {Q : Option Value → mH → Prop} {r0 : Nat} {x2 : Int32} {x3 : Int32}  (k1 : (iZ 8) ≤ x3 → mWp mCd 3 (68, [some (.ref r0), none, some (.int x2), none, none], [], h, 0, 0) Q) (k2 : ¬ ((iZ 8) ≤ x3) → mWp mCd 3 (36, [some (.ref r0), none, some (.int x2), some (.int x3), none], [], h, 0, 0) Q) : mWp mCd 3 (30, [some (.ref r0), none, some (.int x2), some (.int x3), none], [], h, 0, 0) Q := by
  refine mWp_run 2 (t' := (33, [some (.ref r0), none, some (.int x2), some (.int x3), none], [.int (iZ 8), .int x3], h, 0, 0)) rfl ?_
  exact mWp_ic (P := fun x y => y ≤ x) (a := x3) (b := iZ 8) rfl (fun q => mWp_weak (mLe_s (mLe_n (mLe_s (mLe_n (mLe_n mLe_0))))) (k1 q)) k2
theorem b3_68 {h : mH} {Q : Option Value → mH → Prop} {r0 : Nat} {x2 : Int32}  (k : mWp mCd 3 (20, [some (.ref r0), none, some (.int (x2 + iZ 1)), none, none], [], h, 0, 0) Q) : mWp mCd 3 (68, [some (.ref r0), none, some (.int x2), none, none], [], h, 0, 0) Q := by
  refine mWp_run 2 (t' := (20, [some (.ref r0), none, some (.int (x2 + iZ 1)), none, none], [], h, 0, 0)) rfl ?_
  exact k
theorem b3_36 {h : mH} {Q : Option Value → mH → Prop} {r0 : Nat} {x2 : Int32} {x3 : Int32}  (k : mWp mCd 3 (41, [some (.ref r0), none, some (.int x2), some (.int x3), some (.int (x3 + (iZ 1)))], [], h, 0, 0) Q) : mWp mCd 3 (36, [some (.ref r0), none, some (.int x2), some (.int x3), none], [], h, 0, 0) Q := by
  refine mWp_run 4 (t' := (41, [some (.ref r0), none, some (.int x2), some (.int x3), some (.int (x3 + (iZ 1)))], [], h, 0, 0)) rfl ?_
  exact k
theorem b3_41 {h : mH} {Q : Option Value → mH → Prop} {r0 : Nat} {x2 : Int32} {x3 : Int32} {x4 : Int32}  (k1 : (iZ 8) ≤ x4 → mWp mCd 3 (62, [some (.ref r0), none, some (.int x2), some (.int x3), none], [], h, 0, 0) Q) (k2 : ¬ ((iZ 8) ≤ x4) → mWp mCd 3 (48, [some (.ref r0), none, some (.int x2), some (.int x3), some (.int x4)], [], h, 0, 0) Q) : mWp mCd 3 (41, [some (.ref r0), none, some (.int x2), some (.int x3), some (.int x4)], [], h, 0, 0) Q := by
  refine mWp_run 2 (t' := (45, [some (.ref r0), none, some (.int x2), some (.int x3), some (.int x4)], [.int (iZ 8), .int x4], h, 0, 0)) rfl ?_
  exact mWp_ic (P := fun x y => y ≤ x) (a := x4) (b := iZ 8) rfl (fun q => mWp_weak (mLe_s (mLe_n (mLe_s (mLe_s (mLe_n mLe_0))))) (k1 q)) k2
theorem b3_62 {h : mH} {Q : Option Value → mH → Prop} {r0 : Nat} {x2 : Int32} {x3 : Int32}  (k : mWp mCd 3 (30, [some (.ref r0), none, some (.int x2), some (.int (x3 + iZ 1)), none], [], h, 0, 0) Q) : mWp mCd 3 (62, [some (.ref r0), none, some (.int x2), some (.int x3), none], [], h, 0, 0) Q := by
  refine mWp_run 2 (t' := (30, [some (.ref r0), none, some (.int x2), some (.int (x3 + iZ 1)), none], [], h, 0, 0)) rfl ?_
  exact k
theorem b3_48 {h : mH} {Q : Option Value → mH → Prop} {r0 : Nat} {x2 : Int32} {x3 : Int32} {x4 : Int32} {cc : Int32} {tw : Int32} (e1 : h[r0]? = some (oK r0 cc tw)) (k : mCt mCd 6 [.ref r0, .int x2, .int x3, .int x4] h (fun rv hv => mWp mCd 3 (56, [some (.ref r0), none, some (.int x2), some (.int x3), some (.int x4)], rv.toList ++ [], hv, 0, 0) Q)) : mWp mCd 3 (48, [some (.ref r0), none, some (.int x2), some (.int x3), some (.int x4)], [], h, 0, 0) Q := by
  refine mWp_run 4 (t' := (53, [some (.ref r0), none, some (.int x2), some (.int x3), some (.int x4)], [.int x4, .int x3, .int x2, .ref r0], h, 0, 0)) rfl ?_
  exact mWp_iv rfl rfl e1 rfl rfl rfl rfl k
theorem b3_56 {h : mH} {Q : Option Value → mH → Prop} {r0 : Nat} {x2 : Int32} {x3 : Int32} {x4 : Int32}  (k : mWp mCd 3 (41, [some (.ref r0), none, some (.int x2), some (.int x3), some (.int (x4 + iZ 1))], [], h, 0, 0) Q) : mWp mCd 3 (56, [some (.ref r0), none, some (.int x2), some (.int x3), some (.int x4)], [], h, 0, 0) Q := by
  refine mWp_run 2 (t' := (41, [some (.ref r0), none, some (.int x2), some (.int x3), some (.int (x4 + iZ 1))], [], h, 0, 0)) rfl ?_
  exact k
theorem b4_0 {h : mH} {Q : Option Value → mH → Prop} {r0 : Nat} {r1 : Nat} {ci : Nat} {num : Int32} {n : Int32} {fd : Int32} (hc : [1, 2, 4, 6, 8].contains ci = true) (e2 : h[r1]? = some (oV ci r1 num n fd)) (k : mCt mCd 42 [.ref r1] h (fun rv hv => mWp mCd 4 (4, [some (.ref r0), some (.ref r1), none, none], rv.toList ++ [], hv, 0, 0) Q)) : mWp mCd 4 (0, [some (.ref r0), some (.ref r1), none, none], [], h, 0, 0) Q := by
  refine mWp_run 1 (t' := (1, [some (.ref r0), some (.ref r1), none, none], [.ref r1], h, 0, 0)) rfl ?_
  exact mWp_iv rfl rfl e2 (mS5 hc) rfl rfl rfl k
theorem b4_4 {h : mH} {Q : Option Value → mH → Prop} {r0 : Nat} {r1 : Nat} {u0 : Int32} {ci : Nat} {num : Int32} {n : Int32} {fd : Int32} (hc : [1, 2, 4, 6, 8].contains ci = true) (e2 : h[r1]? = some (oV ci r1 num n fd)) (k : mCt mCd 47 [.ref r1] h (fun rv hv => mWp mCd 4 (11, [some (.ref r0), some (.ref r1), some (.int u0), none], rv.toList ++ [.int (iZ 2), .ref r0], hv, 0, 0) Q)) : mWp mCd 4 (4, [some (.ref r0), some (.ref r1), none, none], [.int u0], h, 0, 0) Q := by
  refine mWp_run 4 (t' := (8, [some (.ref r0), some (.ref r1), some (.int u0), none], [.ref r1, .int (iZ 2), .ref r0], h, 0, 0)) rfl ?_
  exact mWp_iv rfl rfl e2 (mS5 hc) rfl rfl rfl k
theorem b4_11 {h : mH} {Q : Option Value → mH → Prop} {r0 : Nat} {r1 : Nat} {x2 : Int32} {u0 : Int32} {u1 : Int32} {q2 : Nat} {cc : Int32} {tw : Int32} (e1 : h[q2]? = some (oK q2 cc tw)) (k : mWp mCd 4 (17, [some (.ref r0), some (.ref r1), some (.int x2), some (.int (iZ 0))], [], (h.set q2 (oK q2 cc (u1 * u0))), 0, 0) Q) : mWp mCd 4 (11, [some (.ref r0), some (.ref r1), some (.int x2), none], [.int u0, .int u1, .ref q2], h, 0, 0) Q := by
  refine mWp_run 1 (t' := (12, [some (.ref r0), some (.ref r1), some (.int x2), none], [.int (u1 * u0), .ref q2], h, 0, 0)) rfl ?_
  refine mWp_pf rfl e1 rfl rfl rfl ?_
  show mWp mCd 4 (15, [some (.ref r0), some (.ref r1), some (.int x2), none], [], (h.set q2 (oK q2 cc (u1 * u0))), 0, 0) Q
  refine mWp_run 2 (t' := (17, [some (.ref r0), some (.ref r1), some (.int x2), some (.int (iZ 0))], [], (h.set q2 (oK q2 cc (u1 * u0))), 0, 0)) rfl ?_
  exact k
theorem b4_17 {h : mH} {Q : Option Value → mH → Prop} {r0 : Nat} {r1 : Nat} {x2 : Int32} {x3 : Int32}  (k1 : (iZ 8) ≤ x3 → mWp mCd 4 (66, [none, none, none, none], [], h, 0, 0) Q) (k2 : ¬ ((iZ 8) ≤ x3) → mWp mCd 4 (23, [some (.ref r0), some (.ref r1), some (.int x2), some (.int x3)], [], h, 0, 0) Q) : mWp mCd 4 (17, [some (.ref r0), some (.ref r1), some (.int x2), some (.int x3)], [], h, 0, 0) Q := by
  refine mWp_run 2 (t' := (20, [some (.ref r0), some (.ref r1), some (.int x2), some (.int x3)], [.int (iZ 8), .int x3], h, 0, 0)) rfl ?_
  exact mWp_ic (P := fun x y => y ≤ x) (a := x3) (b := iZ 8) rfl (fun q => mWp_weak (mLe_n (mLe_n (mLe_n (mLe_n mLe_0)))) (k1 q)) k2
theorem b4_66 {h : mH} {Q : Option Value → mH → Prop}   (k : Q none h) : mWp mCd 4 (66, [none, none, none, none], [], h, 0, 0) Q := by
  exact mWp_r (v := none) rfl k
theorem b4_23 {h : mH} {Q : Option Value → mH → Prop} {r0 : Nat} {r1 : Nat} {x2 : Int32} {x3 : Int32} {cc : Int32} {tw : Int32} {ci1 : Nat} {num1 : Int32} {n1 : Int32} {fd1 : Int32} (e1 : h[r0]? = some (oK r0 cc tw)) (hc1 : [1, 2, 4, 6, 8].contains ci1 = true) (e3 : h[r1]? = some (oV ci1 r1 num1 n1 fd1)) (k : mCt mCd 46 [.ref r1, .int (x3 &&& x2)] h (fun rv hv => mWp mCd 4 (36, [some (.ref r0), some (.ref r1), some (.int x2), some (.int x3)], rv.toList ++ [.int (iZ 2), .int x3, .ref (r0 + 3)], hv, 0, 0) Q)) : mWp mCd 4 (23, [some (.ref r0), some (.ref r1), some (.int x2), some (.int x3)], [], h, 0, 0) Q := by
  refine mWp_run 1 (t' := (24, [some (.ref r0), some (.ref r1), some (.int x2), some (.int x3)], [.ref r0], h, 0, 0)) rfl ?_
  refine mWp_gf rfl e1 rfl rfl ?_
  refine mWp_run 6 (t' := (33, [some (.ref r0), some (.ref r1), some (.int x2), some (.int x3)], [.int (x3 &&& x2), .ref r1, .int (iZ 2), .int x3, .ref (r0 + 3)], h, 0, 0)) rfl ?_
  exact mWp_iv rfl rfl e3 (mS5 hc1) rfl rfl rfl k
theorem b4_36 {h : mH} {Q : Option Value → mH → Prop} {r0 : Nat} {r1 : Nat} {x2 : Int32} {x3 : Int32} {u0 : Int32} {u1 : Int32} {u2 : Int32} {q3 : Nat} {g101 : Nat → Int32} {cc : Int32} {tw : Int32} {ci2 : Nat} {num2 : Int32} {n2 : Int32} {fd2 : Int32} (e1 : h[q3]? = some (aI 8 g101)) (e2 : ¬ (u2 < 0 ∨ 8 ≤ u2.toNatClampNeg)) (e3 : 5 ≤ q3) (e4 : h[r0]? = some (oK r0 cc tw)) (e5 : q3 ≠ r0) (hc2 : [1, 2, 4, 6, 8].contains ci2 = true) (e7 : h[r1]? = some (oV ci2 r1 num2 n2 fd2)) (e8 : q3 ≠ r1) (k : mCt mCd 46 [.ref r1, .int (x2 &&& (x3 ^^^ (iZ (-1))))] (h.set q3 (aI 8 (upd g101 (u2.toNatClampNeg) (u1 * u0)))) (fun rv hv => mWp mCd 4 (57, [some (.ref r0), some (.ref r1), some (.int x2), some (.int x3)], rv.toList ++ [.int (iZ 2), .int tw, .int x3, .ref (r0 + 4)], hv, 0, 0) Q)) : mWp mCd 4 (36, [some (.ref r0), some (.ref r1), some (.int x2), some (.int x3)], [.int u0, .int u1, .int u2, .ref q3], h, 0, 0) Q := by
  refine mWp_run 1 (t' := (37, [some (.ref r0), some (.ref r1), some (.int x2), some (.int x3)], [.int (u1 * u0), .int u2, .ref q3], h, 0, 0)) rfl ?_
  refine mWp_ias rfl e3 e1 e2 ?_
  show mWp mCd 4 (38, [some (.ref r0), some (.ref r1), some (.int x2), some (.int x3)], [], (h.set q3 (aI 8 (upd g101 (u2.toNatClampNeg) (u1 * u0)))), 0, 0) Q
  refine mWp_run 1 (t' := (39, [some (.ref r0), some (.ref r1), some (.int x2), some (.int x3)], [.ref r0], (h.set q3 (aI 8 (upd g101 (u2.toNatClampNeg) (u1 * u0)))), 0, 0)) rfl ?_
  refine mWp_gf rfl (mGn e5 e4) rfl rfl ?_
  refine mWp_run 2 (t' := (44, [some (.ref r0), some (.ref r1), some (.int x2), some (.int x3)], [.ref r0, .int x3, .ref (r0 + 4)], (h.set q3 (aI 8 (upd g101 (u2.toNatClampNeg) (u1 * u0)))), 0, 0)) rfl ?_
  refine mWp_gf rfl (mGn e5 e4) rfl rfl ?_
  refine mWp_run 7 (t' := (54, [some (.ref r0), some (.ref r1), some (.int x2), some (.int x3)], [.int (x2 &&& (x3 ^^^ (iZ (-1)))), .ref r1, .int (iZ 2), .int tw, .int x3, .ref (r0 + 4)], (h.set q3 (aI 8 (upd g101 (u2.toNatClampNeg) (u1 * u0)))), 0, 0)) rfl ?_
  exact mWp_iv rfl rfl (mGn e8 e7) (mS5 hc2) rfl rfl rfl k
theorem b4_57 {h : mH} {Q : Option Value → mH → Prop} {r0 : Nat} {r1 : Nat} {x2 : Int32} {x3 : Int32} {u0 : Int32} {u1 : Int32} {u2 : Int32} {u3 : Int32} {q4 : Nat} {g101 : Nat → Int32} (e1 : h[q4]? = some (aI 8 g101)) (e2 : ¬ (u3 < 0 ∨ 8 ≤ u3.toNatClampNeg)) (e3 : 5 ≤ q4) (k : mWp mCd 4 (17, [some (.ref r0), some (.ref r1), some (.int x2), some (.int (x3 + iZ 1))], [], (h.set q4 (aI 8 (upd g101 (u3.toNatClampNeg) (u2 - (u1 * u0))))), 0, 0) Q) : mWp mCd 4 (57, [some (.ref r0), some (.ref r1), some (.int x2), some (.int x3)], [.int u0, .int u1, .int u2, .int u3, .ref q4], h, 0, 0) Q := by
  refine mWp_run 2 (t' := (59, [some (.ref r0), some (.ref r1), some (.int x2), some (.int x3)], [.int (u2 - (u1 * u0)), .int u3, .ref q4], h, 0, 0)) rfl ?_
  refine mWp_ias rfl e3 e1 e2 ?_
  show mWp mCd 4 (60, [some (.ref r0), some (.ref r1), some (.int x2), some (.int x3)], [], (h.set q4 (aI 8 (upd g101 (u3.toNatClampNeg) (u2 - (u1 * u0))))), 0, 0) Q
  refine mWp_run 2 (t' := (17, [some (.ref r0), some (.ref r1), some (.int x2), some (.int (x3 + iZ 1))], [], (h.set q4 (aI 8 (upd g101 (u3.toNatClampNeg) (u2 - (u1 * u0))))), 0, 0)) rfl ?_
  exact k
theorem b5_0 {h : mH} {Q : Option Value → mH → Prop} {r0 : Nat}  (k : mWp mCd 5 (2, [some (.ref r0), some (.int (iZ 1))], [], h, 0, 0) Q) : mWp mCd 5 (0, [some (.ref r0), none], [], h, 0, 0) Q := by
  refine mWp_run 2 (t' := (2, [some (.ref r0), some (.int (iZ 1))], [], h, 0, 0)) rfl ?_
  exact k
theorem b5_2 {h : mH} {Q : Option Value → mH → Prop} {r0 : Nat} {x1 : Int32}  (k1 : (iZ 8) ≤ x1 → mWp mCd 5 (31, [none, none], [], h, 0, 0) Q) (k2 : ¬ ((iZ 8) ≤ x1) → mWp mCd 5 (8, [some (.ref r0), some (.int x1)], [], h, 0, 0) Q) : mWp mCd 5 (2, [some (.ref r0), some (.int x1)], [], h, 0, 0) Q := by
  refine mWp_run 2 (t' := (5, [some (.ref r0), some (.int x1)], [.int (iZ 8), .int x1], h, 0, 0)) rfl ?_
  exact mWp_ic (P := fun x y => y ≤ x) (a := x1) (b := iZ 8) rfl (fun q => mWp_weak (mLe_n (mLe_n mLe_0)) (k1 q)) k2
theorem b5_31 {h : mH} {Q : Option Value → mH → Prop}   (k : Q (some (.int (iZ 1))) h) : mWp mCd 5 (31, [none, none], [], h, 0, 0) Q := by
  refine mWp_run 1 (t' := (32, [none, none], [.int (iZ 1)], h, 0, 0)) rfl ?_
  exact mWp_r (v := (some (.int (iZ 1)))) rfl k
theorem b5_8 {h : mH} {Q : Option Value → mH → Prop} {r0 : Nat} {x1 : Int32} {cc : Int32} {tw : Int32} {g101 : Nat → Int32} {g102 : Nat → Int32} (e1 : h[r0]? = some (oK r0 cc tw)) (e2 : h[((r0 + 3))]? = some (aI 8 g101)) (e3 : ¬ (x1 < 0 ∨ 8 ≤ x1.toNatClampNeg)) (e4 : h[((r0 + 4))]? = some (aI 8 g102)) (k1 : (g101 x1.toNatClampNeg) ≤ (g102 x1.toNatClampNeg) → mWp mCd 5 (25, [some (.ref r0), some (.int x1)], [], h, 0, 0) Q) (k2 : ¬ ((g101 x1.toNatClampNeg) ≤ (g102 x1.toNatClampNeg)) → mWp mCd 5 (23, [none, none], [], h, 0, 0) Q) : mWp mCd 5 (8, [some (.ref r0), some (.int x1)], [], h, 0, 0) Q := by
  refine mWp_run 1 (t' := (9, [some (.ref r0), some (.int x1)], [.ref r0], h, 0, 0)) rfl ?_
  refine mWp_gf rfl e1 rfl rfl ?_
  refine mWp_run 1 (t' := (13, [some (.ref r0), some (.int x1)], [.int x1, .ref (r0 + 3)], h, 0, 0)) rfl ?_
  refine mWp_ial rfl e2 e3 ?_
  refine mWp_run 1 (t' := (15, [some (.ref r0), some (.int x1)], [.ref r0, .int (g101 x1.toNatClampNeg)], h, 0, 0)) rfl ?_
  refine mWp_gf rfl e1 rfl rfl ?_
  refine mWp_run 1 (t' := (19, [some (.ref r0), some (.int x1)], [.int x1, .ref (r0 + 4), .int (g101 x1.toNatClampNeg)], h, 0, 0)) rfl ?_
  refine mWp_ial rfl e4 e3 ?_
  exact mWp_ic (P := fun x y => x ≤ y) (a := g101 x1.toNatClampNeg) (b := g102 x1.toNatClampNeg) rfl k1 (fun q => mWp_weak (mLe_n (mLe_n mLe_0)) (k2 q))
theorem b5_25 {h : mH} {Q : Option Value → mH → Prop} {r0 : Nat} {x1 : Int32}  (k : mWp mCd 5 (2, [some (.ref r0), some (.int (x1 + iZ 1))], [], h, 0, 0) Q) : mWp mCd 5 (25, [some (.ref r0), some (.int x1)], [], h, 0, 0) Q := by
  refine mWp_run 2 (t' := (2, [some (.ref r0), some (.int (x1 + iZ 1))], [], h, 0, 0)) rfl ?_
  exact k
theorem b5_23 {h : mH} {Q : Option Value → mH → Prop}   (k : Q (some (.int (iZ 0))) h) : mWp mCd 5 (23, [none, none], [], h, 0, 0) Q := by
  refine mWp_run 1 (t' := (24, [none, none], [.int (iZ 0)], h, 0, 0)) rfl ?_
  exact mWp_r (v := (some (.int (iZ 0)))) rfl k
theorem b6_0 {h : mH} {Q : Option Value → mH → Prop} {r0 : Nat} {x1 : Int32} {x2 : Int32} {x3 : Int32}  (k : mWp mCd 6 (6, [some (.ref r0), some (.int x1), some (.int x2), some (.int x3), some (.int (iZ 0)), some (.int (iZ 0))], [], h, 0, 0) Q) : mWp mCd 6 (0, [some (.ref r0), some (.int x1), some (.int x2), some (.int x3), none, none], [], h, 0, 0) Q := by
  refine mWp_run 4 (t' := (6, [some (.ref r0), some (.int x1), some (.int x2), some (.int x3), some (.int (iZ 0)), some (.int (iZ 0))], [], h, 0, 0)) rfl ?_
  exact k
theorem b6_6 {h : mH} {Q : Option Value → mH → Prop} {r0 : Nat} {x1 : Int32} {x2 : Int32} {x3 : Int32} {x4 : Int32} {x5 : Int32}  (k1 : (iZ 3) ≤ x5 → mWp mCd 6 (37, [some (.ref r0), some (.int x1), some (.int x2), some (.int x3), some (.int x4), none], [], h, 0, 0) Q) (k2 : ¬ ((iZ 3) ≤ x5) → mWp mCd 6 (12, [some (.ref r0), some (.int x1), some (.int x2), some (.int x3), some (.int x4), some (.int x5)], [], h, 0, 0) Q) : mWp mCd 6 (6, [some (.ref r0), some (.int x1), some (.int x2), some (.int x3), some (.int x4), some (.int x5)], [], h, 0, 0) Q := by
  refine mWp_run 2 (t' := (9, [some (.ref r0), some (.int x1), some (.int x2), some (.int x3), some (.int x4), some (.int x5)], [.int (iZ 3), .int x5], h, 0, 0)) rfl ?_
  exact mWp_ic (P := fun x y => y ≤ x) (a := x5) (b := iZ 3) rfl (fun q => mWp_weak (mLe_s (mLe_s (mLe_s (mLe_s (mLe_s (mLe_n mLe_0)))))) (k1 q)) k2
theorem b6_37 {h : mH} {Q : Option Value → mH → Prop} {r0 : Nat} {x1 : Int32} {x2 : Int32} {x3 : Int32} {x4 : Int32}  (k1 : ¬ x4 = 0 → mWp mCd 6 (43, [some (.ref r0), some (.int x1), some (.int x2), some (.int x3), some (.int x4), none], [], h, 0, 0) Q) (k2 : ¬ (¬ x4 = 0) → mWp mCd 6 (42, [none, none, none, none, none, none], [], h, 0, 0) Q) : mWp mCd 6 (37, [some (.ref r0), some (.int x1), some (.int x2), some (.int x3), some (.int x4), none], [], h, 0, 0) Q := by
  refine mWp_run 1 (t' := (39, [some (.ref r0), some (.int x1), some (.int x2), some (.int x3), some (.int x4), none], [.int x4], h, 0, 0)) rfl ?_
  exact mWp_if (P := fun x => ¬ x = 0) (a := x4) rfl k1 (fun q => mWp_weak (mLe_n (mLe_n (mLe_n (mLe_n (mLe_n (mLe_n mLe_0)))))) (k2 q))
theorem b6_12 {h : mH} {Q : Option Value → mH → Prop} {r0 : Nat} {x1 : Int32} {x2 : Int32} {x3 : Int32} {x4 : Int32} {x5 : Int32}  (k : mCt mCd 126 [.int x1, .int x5] h (fun rv hv => mWp mCd 6 (20, [some (.ref r0), some (.int x1), some (.int x2), some (.int x3), none, some (.int x5)], rv.toList ++ [.int x4], hv, 0, 0) Q)) : mWp mCd 6 (12, [some (.ref r0), some (.int x1), some (.int x2), some (.int x3), some (.int x4), some (.int x5)], [], h, 0, 0) Q := by
  refine mWp_run 3 (t' := (17, [some (.ref r0), some (.int x1), some (.int x2), some (.int x3), some (.int x4), some (.int x5)], [.int x5, .int x1, .int x4], h, 0, 0)) rfl ?_
  exact mWp_is rfl rfl rfl rfl rfl (mCt_mono k (fun rv hv y => mWp_weak (mLe_s (mLe_s (mLe_s (mLe_s (mLe_n (mLe_s mLe_0)))))) y))
theorem b6_43 {h : mH} {Q : Option Value → mH → Prop} {r0 : Nat} {x1 : Int32} {x2 : Int32} {x3 : Int32} {x4 : Int32}  (k : mWp mCd 6 (46, [some (.ref r0), some (.int x1), some (.int x2), some (.int x3), some (.int x4), some (.int (iZ 0))], [], h, 0, 0) Q) : mWp mCd 6 (43, [some (.ref r0), some (.int x1), some (.int x2), some (.int x3), some (.int x4), none], [], h, 0, 0) Q := by
  refine mWp_run 2 (t' := (46, [some (.ref r0), some (.int x1), some (.int x2), some (.int x3), some (.int x4), some (.int (iZ 0))], [], h, 0, 0)) rfl ?_
  exact k
theorem b6_42 {h : mH} {Q : Option Value → mH → Prop}   (k : Q none h) : mWp mCd 6 (42, [none, none, none, none, none, none], [], h, 0, 0) Q := by
  exact mWp_r (v := none) rfl k
theorem b6_20 {h : mH} {Q : Option Value → mH → Prop} {r0 : Nat} {x1 : Int32} {x2 : Int32} {x3 : Int32} {x5 : Int32} {u0 : Int32} {u1 : Int32}  (k : mCt mCd 7 [.int x2, .int x3, .int x5] h (fun rv hv => mWp mCd 6 (27, [some (.ref r0), some (.int x1), some (.int x2), some (.int x3), none, some (.int x5)], rv.toList ++ [.int u0, .int u1], hv, 0, 0) Q)) : mWp mCd 6 (20, [some (.ref r0), some (.int x1), some (.int x2), some (.int x3), none, some (.int x5)], [.int u0, .int u1], h, 0, 0) Q := by
  refine mWp_run 3 (t' := (24, [some (.ref r0), some (.int x1), some (.int x2), some (.int x3), none, some (.int x5)], [.int x5, .int x3, .int x2, .int u0, .int u1], h, 0, 0)) rfl ?_
  exact mWp_is rfl rfl rfl rfl rfl k
theorem b6_46 {h : mH} {Q : Option Value → mH → Prop} {r0 : Nat} {x1 : Int32} {x2 : Int32} {x3 : Int32} {x4 : Int32} {x5 : Int32}  (k1 : (iZ 3) ≤ x5 → mWp mCd 6 (110, [some (.ref r0), some (.int x1), some (.int x2), some (.int x3), some (.int x4), none], [], h, 0, 0) Q) (k2 : ¬ ((iZ 3) ≤ x5) → mWp mCd 6 (52, [some (.ref r0), some (.int x1), some (.int x2), some (.int x3), some (.int x4), some (.int x5)], [], h, 0, 0) Q) : mWp mCd 6 (46, [some (.ref r0), some (.int x1), some (.int x2), some (.int x3), some (.int x4), some (.int x5)], [], h, 0, 0) Q := by
  refine mWp_run 2 (t' := (49, [some (.ref r0), some (.int x1), some (.int x2), some (.int x3), some (.int x4), some (.int x5)], [.int (iZ 3), .int x5], h, 0, 0)) rfl ?_
  exact mWp_ic (P := fun x y => y ≤ x) (a := x5) (b := iZ 3) rfl (fun q => mWp_weak (mLe_s (mLe_s (mLe_s (mLe_s (mLe_s (mLe_n mLe_0)))))) (k1 q)) k2
theorem b6_27 {h : mH} {Q : Option Value → mH → Prop} {r0 : Nat} {x1 : Int32} {x2 : Int32} {x3 : Int32} {x5 : Int32} {u0 : Int32} {u1 : Int32} {u2 : Int32}  (k : mWp mCd 6 (6, [some (.ref r0), some (.int x1), some (.int x2), some (.int x3), some (.int (u2 + (u1 * u0))), some (.int (x5 + iZ 1))], [], h, 0, 0) Q) : mWp mCd 6 (27, [some (.ref r0), some (.int x1), some (.int x2), some (.int x3), none, some (.int x5)], [.int u0, .int u1, .int u2], h, 0, 0) Q := by
  refine mWp_run 5 (t' := (6, [some (.ref r0), some (.int x1), some (.int x2), some (.int x3), some (.int (u2 + (u1 * u0))), some (.int (x5 + iZ 1))], [], h, 0, 0)) rfl ?_
  exact k
theorem b6_110 {h : mH} {Q : Option Value → mH → Prop} {r0 : Nat} {x1 : Int32} {x2 : Int32} {x3 : Int32} {x4 : Int32}  (k : mWp mCd 6 (113, [some (.ref r0), some (.int x1), some (.int x2), some (.int x3), some (.int x4), some (.int (iZ 0))], [], h, 0, 0) Q) : mWp mCd 6 (110, [some (.ref r0), some (.int x1), some (.int x2), some (.int x3), some (.int x4), none], [], h, 0, 0) Q := by
  refine mWp_run 2 (t' := (113, [some (.ref r0), some (.int x1), some (.int x2), some (.int x3), some (.int x4), some (.int (iZ 0))], [], h, 0, 0)) rfl ?_
  exact k
theorem b6_52 {h : mH} {Q : Option Value → mH → Prop} {r0 : Nat} {x1 : Int32} {x2 : Int32} {x3 : Int32} {x4 : Int32} {x5 : Int32} {cc : Int32} {tw : Int32} (e1 : h[r0]? = some (oK r0 cc tw)) (k : mCt mCd 7 [.int x2, .int x3, .int x5] h (fun rv hv => mWp mCd 6 (67, [some (.ref r0), some (.int x1), some (.int x2), some (.int x3), some (.int x4), some (.int x5)], rv.toList ++ [.int ((iZ 3) * x5), .ref (r0 + 5)], hv, 0, 0) Q)) : mWp mCd 6 (52, [some (.ref r0), some (.int x1), some (.int x2), some (.int x3), some (.int x4), some (.int x5)], [], h, 0, 0) Q := by
  refine mWp_run 1 (t' := (53, [some (.ref r0), some (.int x1), some (.int x2), some (.int x3), some (.int x4), some (.int x5)], [.ref r0], h, 0, 0)) rfl ?_
  refine mWp_gf rfl e1 rfl rfl ?_
  refine mWp_run 6 (t' := (64, [some (.ref r0), some (.int x1), some (.int x2), some (.int x3), some (.int x4), some (.int x5)], [.int x5, .int x3, .int x2, .int ((iZ 3) * x5), .ref (r0 + 5)], h, 0, 0)) rfl ?_
  exact mWp_is rfl rfl rfl rfl rfl k
theorem b6_113 {h : mH} {Q : Option Value → mH → Prop} {r0 : Nat} {x1 : Int32} {x2 : Int32} {x3 : Int32} {x4 : Int32} {x5 : Int32}  (k1 : (iZ 8) ≤ x5 → mWp mCd 6 (176, [none, none, none, none, none, none], [], h, 0, 0) Q) (k2 : ¬ ((iZ 8) ≤ x5) → mWp mCd 6 (120, [some (.ref r0), some (.int x1), some (.int x2), some (.int x3), some (.int x4), some (.int x5)], [], h, 0, 0) Q) : mWp mCd 6 (113, [some (.ref r0), some (.int x1), some (.int x2), some (.int x3), some (.int x4), some (.int x5)], [], h, 0, 0) Q := by
  refine mWp_run 2 (t' := (117, [some (.ref r0), some (.int x1), some (.int x2), some (.int x3), some (.int x4), some (.int x5)], [.int (iZ 8), .int x5], h, 0, 0)) rfl ?_
  exact mWp_ic (P := fun x y => y ≤ x) (a := x5) (b := iZ 8) rfl (fun q => mWp_weak (mLe_n (mLe_n (mLe_n (mLe_n (mLe_n (mLe_n mLe_0)))))) (k1 q)) k2
theorem b6_67 {h : mH} {Q : Option Value → mH → Prop} {r0 : Nat} {x1 : Int32} {x2 : Int32} {x3 : Int32} {x4 : Int32} {x5 : Int32} {u0 : Int32} {u1 : Int32} {q2 : Nat} {g101 : Nat → Int32} {cc : Int32} {tw : Int32} (e1 : h[q2]? = some (aI 9 g101)) (e2 : ¬ (u1 < 0 ∨ 9 ≤ u1.toNatClampNeg)) (e3 : 5 ≤ q2) (e4 : h[r0]? = some (oK r0 cc tw)) (e5 : q2 ≠ r0) (k : mCt mCd 7 [.int x3, .int x1, .int x5] (h.set q2 (aI 9 (upd g101 (u1.toNatClampNeg) u0))) (fun rv hv => mWp mCd 6 (85, [some (.ref r0), some (.int x1), some (.int x2), some (.int x3), some (.int x4), some (.int x5)], rv.toList ++ [.int (((iZ 3) * x5) + (iZ 1)), .ref (r0 + 5)], hv, 0, 0) Q)) : mWp mCd 6 (67, [some (.ref r0), some (.int x1), some (.int x2), some (.int x3), some (.int x4), some (.int x5)], [.int u0, .int u1, .ref q2], h, 0, 0) Q := by
  refine mWp_ias rfl e3 e1 e2 ?_
  show mWp mCd 6 (68, [some (.ref r0), some (.int x1), some (.int x2), some (.int x3), some (.int x4), some (.int x5)], [], (h.set q2 (aI 9 (upd g101 (u1.toNatClampNeg) u0))), 0, 0) Q
  refine mWp_run 1 (t' := (69, [some (.ref r0), some (.int x1), some (.int x2), some (.int x3), some (.int x4), some (.int x5)], [.ref r0], (h.set q2 (aI 9 (upd g101 (u1.toNatClampNeg) u0))), 0, 0)) rfl ?_
  refine mWp_gf rfl (mGn e5 e4) rfl rfl ?_
  refine mWp_run 8 (t' := (82, [some (.ref r0), some (.int x1), some (.int x2), some (.int x3), some (.int x4), some (.int x5)], [.int x5, .int x1, .int x3, .int (((iZ 3) * x5) + (iZ 1)), .ref (r0 + 5)], (h.set q2 (aI 9 (upd g101 (u1.toNatClampNeg) u0))), 0, 0)) rfl ?_
  exact mWp_is rfl rfl rfl rfl rfl k
theorem b6_176 {h : mH} {Q : Option Value → mH → Prop}   (k : Q none h) : mWp mCd 6 (176, [none, none, none, none, none, none], [], h, 0, 0) Q := by
  exact mWp_r (v := none) rfl k
theorem b6_120 {h : mH} {Q : Option Value → mH → Prop} {r0 : Nat} {x1 : Int32} {x2 : Int32} {x3 : Int32} {x4 : Int32} {x5 : Int32}  (k : mCt mCd 126 [.int x5, .int (iZ 0)] h (fun rv hv => mWp mCd 6 (129, [some (.ref r0), some (.int x1), some (.int x2), some (.int x3), some (.int x4), some (.int x5)], rv.toList ++ [.int x1, .ref r0, .ref r0], hv, 0, 0) Q)) : mWp mCd 6 (120, [some (.ref r0), some (.int x1), some (.int x2), some (.int x3), some (.int x4), some (.int x5)], [], h, 0, 0) Q := by
  refine mWp_run 5 (t' := (126, [some (.ref r0), some (.int x1), some (.int x2), some (.int x3), some (.int x4), some (.int x5)], [.int (iZ 0), .int x5, .int x1, .ref r0, .ref r0], h, 0, 0)) rfl ?_
  exact mWp_is rfl rfl rfl rfl rfl k
theorem b6_85 {h : mH} {Q : Option Value → mH → Prop} {r0 : Nat} {x1 : Int32} {x2 : Int32} {x3 : Int32} {x4 : Int32} {x5 : Int32} {u0 : Int32} {u1 : Int32} {q2 : Nat} {g101 : Nat → Int32} {cc : Int32} {tw : Int32} (e1 : h[q2]? = some (aI 9 g101)) (e2 : ¬ (u1 < 0 ∨ 9 ≤ u1.toNatClampNeg)) (e3 : 5 ≤ q2) (e4 : h[r0]? = some (oK r0 cc tw)) (e5 : q2 ≠ r0) (k : mCt mCd 7 [.int x1, .int x2, .int x5] (h.set q2 (aI 9 (upd g101 (u1.toNatClampNeg) u0))) (fun rv hv => mWp mCd 6 (103, [some (.ref r0), some (.int x1), some (.int x2), some (.int x3), some (.int x4), some (.int x5)], rv.toList ++ [.int (((iZ 3) * x5) + (iZ 2)), .ref (r0 + 5)], hv, 0, 0) Q)) : mWp mCd 6 (85, [some (.ref r0), some (.int x1), some (.int x2), some (.int x3), some (.int x4), some (.int x5)], [.int u0, .int u1, .ref q2], h, 0, 0) Q := by
  refine mWp_ias rfl e3 e1 e2 ?_
  show mWp mCd 6 (86, [some (.ref r0), some (.int x1), some (.int x2), some (.int x3), some (.int x4), some (.int x5)], [], (h.set q2 (aI 9 (upd g101 (u1.toNatClampNeg) u0))), 0, 0) Q
  refine mWp_run 1 (t' := (87, [some (.ref r0), some (.int x1), some (.int x2), some (.int x3), some (.int x4), some (.int x5)], [.ref r0], (h.set q2 (aI 9 (upd g101 (u1.toNatClampNeg) u0))), 0, 0)) rfl ?_
  refine mWp_gf rfl (mGn e5 e4) rfl rfl ?_
  refine mWp_run 8 (t' := (100, [some (.ref r0), some (.int x1), some (.int x2), some (.int x3), some (.int x4), some (.int x5)], [.int x5, .int x2, .int x1, .int (((iZ 3) * x5) + (iZ 2)), .ref (r0 + 5)], (h.set q2 (aI 9 (upd g101 (u1.toNatClampNeg) u0))), 0, 0)) rfl ?_
  exact mWp_is rfl rfl rfl rfl rfl k
theorem b6_129 {h : mH} {Q : Option Value → mH → Prop} {r0 : Nat} {x1 : Int32} {x2 : Int32} {x3 : Int32} {x4 : Int32} {x5 : Int32} {u0 : Int32} {u1 : Int32} {q2 : Nat} {q3 : Nat} {cc : Int32} {tw : Int32} (e1 : h[q2]? = some (oK q2 cc tw)) (k : mCt mCd 8 [.ref q2, .int u1, .int u0] h (fun rv hv => mWp mCd 6 (132, [some (.ref r0), some (.int x1), some (.int x2), some (.int x3), some (.int x4), some (.int x5)], rv.toList ++ [.ref q3], hv, 0, 0) Q)) : mWp mCd 6 (129, [some (.ref r0), some (.int x1), some (.int x2), some (.int x3), some (.int x4), some (.int x5)], [.int u0, .int u1, .ref q2, .ref q3], h, 0, 0) Q := by
  exact mWp_iv rfl rfl e1 rfl rfl rfl rfl k
theorem b6_103 {h : mH} {Q : Option Value → mH → Prop} {r0 : Nat} {x1 : Int32} {x2 : Int32} {x3 : Int32} {x4 : Int32} {x5 : Int32} {u0 : Int32} {u1 : Int32} {q2 : Nat} {g101 : Nat → Int32} (e1 : h[q2]? = some (aI 9 g101)) (e2 : ¬ (u1 < 0 ∨ 9 ≤ u1.toNatClampNeg)) (e3 : 5 ≤ q2) (k : mWp mCd 6 (46, [some (.ref r0), some (.int x1), some (.int x2), some (.int x3), some (.int x4), some (.int (x5 + iZ 1))], [], (h.set q2 (aI 9 (upd g101 (u1.toNatClampNeg) u0))), 0, 0) Q) : mWp mCd 6 (103, [some (.ref r0), some (.int x1), some (.int x2), some (.int x3), some (.int x4), some (.int x5)], [.int u0, .int u1, .ref q2], h, 0, 0) Q := by
  refine mWp_ias rfl e3 e1 e2 ?_
  show mWp mCd 6 (104, [some (.ref r0), some (.int x1), some (.int x2), some (.int x3), some (.int x4), some (.int x5)], [], (h.set q2 (aI 9 (upd g101 (u1.toNatClampNeg) u0))), 0, 0) Q
  refine mWp_run 2 (t' := (46, [some (.ref r0), some (.int x1), some (.int x2), some (.int x3), some (.int x4), some (.int (x5 + iZ 1))], [], (h.set q2 (aI 9 (upd g101 (u1.toNatClampNeg) u0))), 0, 0)) rfl ?_
  exact k
theorem b6_132 {h : mH} {Q : Option Value → mH → Prop} {r0 : Nat} {x1 : Int32} {x2 : Int32} {x3 : Int32} {x4 : Int32} {x5 : Int32} {u0 : Int32} {q1 : Nat}  (k : mCt mCd 126 [.int x5, .int (iZ 1)] h (fun rv hv => mWp mCd 6 (140, [some (.ref r0), some (.int x1), some (.int x2), some (.int x3), some (.int x4), some (.int x5)], rv.toList ++ [.int x2, .ref r0, .int u0, .ref q1], hv, 0, 0) Q)) : mWp mCd 6 (132, [some (.ref r0), some (.int x1), some (.int x2), some (.int x3), some (.int x4), some (.int x5)], [.int u0, .ref q1], h, 0, 0) Q := by
  refine mWp_run 4 (t' := (137, [some (.ref r0), some (.int x1), some (.int x2), some (.int x3), some (.int x4), some (.int x5)], [.int (iZ 1), .int x5, .int x2, .ref r0, .int u0, .ref q1], h, 0, 0)) rfl ?_
  exact mWp_is rfl rfl rfl rfl rfl k
theorem b6_140 {h : mH} {Q : Option Value → mH → Prop} {r0 : Nat} {x1 : Int32} {x2 : Int32} {x3 : Int32} {x4 : Int32} {x5 : Int32} {u0 : Int32} {u1 : Int32} {q2 : Nat} {u3 : Int32} {q4 : Nat} {cc : Int32} {tw : Int32} (e1 : h[q2]? = some (oK q2 cc tw)) (k : mCt mCd 8 [.ref q2, .int u1, .int u0] h (fun rv hv => mWp mCd 6 (143, [some (.ref r0), some (.int x1), some (.int x2), some (.int x3), some (.int x4), some (.int x5)], rv.toList ++ [.int u3, .ref q4], hv, 0, 0) Q)) : mWp mCd 6 (140, [some (.ref r0), some (.int x1), some (.int x2), some (.int x3), some (.int x4), some (.int x5)], [.int u0, .int u1, .ref q2, .int u3, .ref q4], h, 0, 0) Q := by
  exact mWp_iv rfl rfl e1 rfl rfl rfl rfl k
theorem b6_143 {h : mH} {Q : Option Value → mH → Prop} {r0 : Nat} {x1 : Int32} {x2 : Int32} {x3 : Int32} {x4 : Int32} {x5 : Int32} {u0 : Int32} {u1 : Int32} {q2 : Nat}  (k : mCt mCd 126 [.int x5, .int (iZ 2)] h (fun rv hv => mWp mCd 6 (151, [some (.ref r0), some (.int x1), some (.int x2), some (.int x3), some (.int x4), some (.int x5)], rv.toList ++ [.int x3, .ref r0, .int u0, .int u1, .ref q2], hv, 0, 0) Q)) : mWp mCd 6 (143, [some (.ref r0), some (.int x1), some (.int x2), some (.int x3), some (.int x4), some (.int x5)], [.int u0, .int u1, .ref q2], h, 0, 0) Q := by
  refine mWp_run 4 (t' := (148, [some (.ref r0), some (.int x1), some (.int x2), some (.int x3), some (.int x4), some (.int x5)], [.int (iZ 2), .int x5, .int x3, .ref r0, .int u0, .int u1, .ref q2], h, 0, 0)) rfl ?_
  exact mWp_is rfl rfl rfl rfl rfl k
theorem b6_151 {h : mH} {Q : Option Value → mH → Prop} {r0 : Nat} {x1 : Int32} {x2 : Int32} {x3 : Int32} {x4 : Int32} {x5 : Int32} {u0 : Int32} {u1 : Int32} {q2 : Nat} {u3 : Int32} {u4 : Int32} {q5 : Nat} {cc : Int32} {tw : Int32} (e1 : h[q2]? = some (oK q2 cc tw)) (k : mCt mCd 8 [.ref q2, .int u1, .int u0] h (fun rv hv => mWp mCd 6 (154, [some (.ref r0), some (.int x1), some (.int x2), some (.int x3), some (.int x4), some (.int x5)], rv.toList ++ [.int u3, .int u4, .ref q5], hv, 0, 0) Q)) : mWp mCd 6 (151, [some (.ref r0), some (.int x1), some (.int x2), some (.int x3), some (.int x4), some (.int x5)], [.int u0, .int u1, .ref q2, .int u3, .int u4, .ref q5], h, 0, 0) Q := by
  exact mWp_iv rfl rfl e1 rfl rfl rfl rfl k
theorem b6_154 {h : mH} {Q : Option Value → mH → Prop} {r0 : Nat} {x1 : Int32} {x2 : Int32} {x3 : Int32} {x4 : Int32} {x5 : Int32} {u0 : Int32} {u1 : Int32} {u2 : Int32} {q3 : Nat} {cc : Int32} {tw : Int32} (e1 : h[q3]? = some (oK q3 cc tw)) (k : mCt mCd 9 [.ref q3, .int u2, .int u1, .int u0, .int x4] h (fun rv hv => mWp mCd 6 (159, [some (.ref r0), some (.int x1), some (.int x2), some (.int x3), some (.int x4), some (.int x5)], rv.toList ++ [], hv, 0, 0) Q)) : mWp mCd 6 (154, [some (.ref r0), some (.int x1), some (.int x2), some (.int x3), some (.int x4), some (.int x5)], [.int u0, .int u1, .int u2, .ref q3], h, 0, 0) Q := by
  refine mWp_run 1 (t' := (156, [some (.ref r0), some (.int x1), some (.int x2), some (.int x3), some (.int x4), some (.int x5)], [.int x4, .int u0, .int u1, .int u2, .ref q3], h, 0, 0)) rfl ?_
  exact mWp_iv rfl rfl e1 rfl rfl rfl rfl k
theorem b6_159 {h : mH} {Q : Option Value → mH → Prop} {r0 : Nat} {x1 : Int32} {x2 : Int32} {x3 : Int32} {x4 : Int32} {x5 : Int32} {cc : Int32} {tw : Int32} (e1 : h[r0]? = some (oK r0 cc tw)) (k : mCt mCd 10 [.ref r0] h (fun rv hv => mWp mCd 6 (163, [some (.ref r0), some (.int x1), some (.int x2), some (.int x3), some (.int x4), some (.int x5)], rv.toList ++ [], hv, 0, 0) Q)) : mWp mCd 6 (159, [some (.ref r0), some (.int x1), some (.int x2), some (.int x3), some (.int x4), some (.int x5)], [], h, 0, 0) Q := by
  refine mWp_run 1 (t' := (160, [some (.ref r0), some (.int x1), some (.int x2), some (.int x3), some (.int x4), some (.int x5)], [.ref r0], h, 0, 0)) rfl ?_
  exact mWp_iv rfl rfl e1 rfl rfl rfl rfl k
theorem b6_163 {h : mH} {Q : Option Value → mH → Prop} {r0 : Nat} {x1 : Int32} {x2 : Int32} {x3 : Int32} {x4 : Int32} {x5 : Int32} {u0 : Int32}  (k1 : u0 = 0 → mWp mCd 6 (170, [some (.ref r0), some (.int x1), some (.int x2), some (.int x3), some (.int x4), some (.int x5)], [], h, 0, 0) Q) (k2 : ¬ (u0 = 0) → mWp mCd 6 (166, [some (.ref r0), some (.int x1), some (.int x2), some (.int x3), some (.int x4), some (.int x5)], [], h, 0, 0) Q) : mWp mCd 6 (163, [some (.ref r0), some (.int x1), some (.int x2), some (.int x3), some (.int x4), some (.int x5)], [.int u0], h, 0, 0) Q := by
  exact mWp_if (P := fun x => x = 0) (a := u0) rfl k1 k2
theorem b6_170 {h : mH} {Q : Option Value → mH → Prop} {r0 : Nat} {x1 : Int32} {x2 : Int32} {x3 : Int32} {x4 : Int32} {x5 : Int32}  (k : mWp mCd 6 (113, [some (.ref r0), some (.int x1), some (.int x2), some (.int x3), some (.int x4), some (.int (x5 + iZ 1))], [], h, 0, 0) Q) : mWp mCd 6 (170, [some (.ref r0), some (.int x1), some (.int x2), some (.int x3), some (.int x4), some (.int x5)], [], h, 0, 0) Q := by
  refine mWp_run 2 (t' := (113, [some (.ref r0), some (.int x1), some (.int x2), some (.int x3), some (.int x4), some (.int (x5 + iZ 1))], [], h, 0, 0)) rfl ?_
  exact k
theorem b6_166 {h : mH} {Q : Option Value → mH → Prop} {r0 : Nat} {x1 : Int32} {x2 : Int32} {x3 : Int32} {x4 : Int32} {x5 : Int32} {cc : Int32} {tw : Int32} (e1 : h[r0]? = some (oK r0 cc tw)) (k : mCt mCd 12 [.ref r0] h (fun rv hv => mWp mCd 6 (170, [some (.ref r0), some (.int x1), some (.int x2), some (.int x3), some (.int x4), some (.int x5)], rv.toList ++ [], hv, 0, 0) Q)) : mWp mCd 6 (166, [some (.ref r0), some (.int x1), some (.int x2), some (.int x3), some (.int x4), some (.int x5)], [], h, 0, 0) Q := by
  refine mWp_run 1 (t' := (167, [some (.ref r0), some (.int x1), some (.int x2), some (.int x3), some (.int x4), some (.int x5)], [.ref r0], h, 0, 0)) rfl ?_
  exact mWp_iv rfl rfl e1 rfl rfl rfl rfl k
theorem b7_0 {h : mH} {Q : Option Value → mH → Prop} {x0 : Int32} {x1 : Int32} {x2 : Int32}  (k1 : ¬ x2 = (iZ 2) → mWp mCd 7 (9, [some (.int x0), some (.int x1), some (.int x2), none, none], [], h, 0, 0) Q) (k2 : ¬ (¬ x2 = (iZ 2)) → mWp mCd 7 (5, [some (.int x0), some (.int x1), some (.int x2), none, none], [], h, 0, 0) Q) : mWp mCd 7 (0, [some (.int x0), some (.int x1), some (.int x2), none, none], [], h, 0, 0) Q := by
  refine mWp_run 2 (t' := (2, [some (.int x0), some (.int x1), some (.int x2), none, none], [.int (iZ 2), .int x2], h, 0, 0)) rfl ?_
  exact mWp_ic (P := fun x y => ¬ x = y) (a := x2) (b := iZ 2) rfl k1 k2
theorem b7_9 {h : mH} {Q : Option Value → mH → Prop} {x0 : Int32} {x1 : Int32} {x2 : Int32}  (k : mWp mCd 7 (12, [some (.int x0), some (.int x1), some (.int x2), none, none], [.int (x2 + (iZ 1))], h, 0, 0) Q) : mWp mCd 7 (9, [some (.int x0), some (.int x1), some (.int x2), none, none], [], h, 0, 0) Q := by
  refine mWp_run 3 (t' := (12, [some (.int x0), some (.int x1), some (.int x2), none, none], [.int (x2 + (iZ 1))], h, 0, 0)) rfl ?_
  exact k
theorem b7_5 {h : mH} {Q : Option Value → mH → Prop} {x0 : Int32} {x1 : Int32} {x2 : Int32}  (k : mWp mCd 7 (12, [some (.int x0), some (.int x1), some (.int x2), none, none], [.int (iZ 0)], h, 0, 0) Q) : mWp mCd 7 (5, [some (.int x0), some (.int x1), some (.int x2), none, none], [], h, 0, 0) Q := by
  refine mWp_run 2 (t' := (12, [some (.int x0), some (.int x1), some (.int x2), none, none], [.int (iZ 0)], h, 0, 0)) rfl ?_
  exact k
theorem b7_12 {h : mH} {Q : Option Value → mH → Prop} {x0 : Int32} {x1 : Int32} {x2 : Int32} {u0 : Int32}  (k1 : ¬ x2 = 0 → mWp mCd 7 (21, [some (.int x0), some (.int x1), some (.int x2), some (.int u0), none], [], h, 0, 0) Q) (k2 : ¬ (¬ x2 = 0) → mWp mCd 7 (17, [some (.int x0), some (.int x1), none, some (.int u0), none], [], h, 0, 0) Q) : mWp mCd 7 (12, [some (.int x0), some (.int x1), some (.int x2), none, none], [.int u0], h, 0, 0) Q := by
  refine mWp_run 2 (t' := (14, [some (.int x0), some (.int x1), some (.int x2), some (.int u0), none], [.int x2], h, 0, 0)) rfl ?_
  exact mWp_if (P := fun x => ¬ x = 0) (a := x2) rfl k1 (fun q => mWp_weak (mLe_s (mLe_s (mLe_n (mLe_s (mLe_n mLe_0))))) (k2 q))
theorem b7_21 {h : mH} {Q : Option Value → mH → Prop} {x0 : Int32} {x1 : Int32} {x2 : Int32} {x3 : Int32}  (k : mWp mCd 7 (24, [some (.int x0), some (.int x1), none, some (.int x3), none], [.int (x2 - (iZ 1))], h, 0, 0) Q) : mWp mCd 7 (21, [some (.int x0), some (.int x1), some (.int x2), some (.int x3), none], [], h, 0, 0) Q := by
  refine mWp_run 3 (t' := (24, [some (.int x0), some (.int x1), some (.int x2), some (.int x3), none], [.int (x2 - (iZ 1))], h, 0, 0)) rfl ?_
  exact mWp_weak (mLe_s (mLe_s (mLe_n (mLe_s (mLe_n mLe_0))))) k
theorem b7_17 {h : mH} {Q : Option Value → mH → Prop} {x0 : Int32} {x1 : Int32} {x3 : Int32}  (k : mWp mCd 7 (24, [some (.int x0), some (.int x1), none, some (.int x3), none], [.int (iZ 2)], h, 0, 0) Q) : mWp mCd 7 (17, [some (.int x0), some (.int x1), none, some (.int x3), none], [], h, 0, 0) Q := by
  refine mWp_run 2 (t' := (24, [some (.int x0), some (.int x1), none, some (.int x3), none], [.int (iZ 2)], h, 0, 0)) rfl ?_
  exact k
theorem b7_24 {h : mH} {Q : Option Value → mH → Prop} {x0 : Int32} {x1 : Int32} {x3 : Int32} {u0 : Int32}  (k : mCt mCd 126 [.int x0, .int x3] h (fun rv hv => mWp mCd 7 (31, [some (.int x0), some (.int x1), none, some (.int x3), some (.int u0)], rv.toList ++ [], hv, 0, 0) Q)) : mWp mCd 7 (24, [some (.int x0), some (.int x1), none, some (.int x3), none], [.int u0], h, 0, 0) Q := by
  refine mWp_run 3 (t' := (28, [some (.int x0), some (.int x1), none, some (.int x3), some (.int u0)], [.int x3, .int x0], h, 0, 0)) rfl ?_
  exact mWp_is rfl rfl rfl rfl rfl k
theorem b7_31 {h : mH} {Q : Option Value → mH → Prop} {x0 : Int32} {x1 : Int32} {x3 : Int32} {x4 : Int32} {u0 : Int32}  (k : mCt mCd 126 [.int x1, .int x4] h (fun rv hv => mWp mCd 7 (37, [some (.int x0), some (.int x1), none, some (.int x3), some (.int x4)], rv.toList ++ [.int u0], hv, 0, 0) Q)) : mWp mCd 7 (31, [some (.int x0), some (.int x1), none, some (.int x3), some (.int x4)], [.int u0], h, 0, 0) Q := by
  refine mWp_run 2 (t' := (34, [some (.int x0), some (.int x1), none, some (.int x3), some (.int x4)], [.int x4, .int x1, .int u0], h, 0, 0)) rfl ?_
  exact mWp_is rfl rfl rfl rfl rfl k
theorem b7_37 {h : mH} {Q : Option Value → mH → Prop} {x0 : Int32} {x1 : Int32} {x3 : Int32} {x4 : Int32} {u0 : Int32} {u1 : Int32}  (k : mCt mCd 126 [.int x0, .int x4] h (fun rv hv => mWp mCd 7 (44, [none, some (.int x1), none, some (.int x3), none], rv.toList ++ [.int (u1 * u0)], hv, 0, 0) Q)) : mWp mCd 7 (37, [some (.int x0), some (.int x1), none, some (.int x3), some (.int x4)], [.int u0, .int u1], h, 0, 0) Q := by
  refine mWp_run 3 (t' := (41, [some (.int x0), some (.int x1), none, some (.int x3), some (.int x4)], [.int x4, .int x0, .int (u1 * u0)], h, 0, 0)) rfl ?_
  exact mWp_is rfl rfl rfl rfl rfl (mCt_mono k (fun rv hv y => mWp_weak (mLe_n (mLe_s (mLe_n (mLe_s (mLe_n mLe_0))))) y))
theorem b7_44 {h : mH} {Q : Option Value → mH → Prop} {x1 : Int32} {x3 : Int32} {u0 : Int32} {u1 : Int32}  (k : mCt mCd 126 [.int x1, .int x3] h (fun rv hv => mWp mCd 7 (49, [none, none, none, none, none], rv.toList ++ [.int u0, .int u1], hv, 0, 0) Q)) : mWp mCd 7 (44, [none, some (.int x1), none, some (.int x3), none], [.int u0, .int u1], h, 0, 0) Q := by
  refine mWp_run 2 (t' := (46, [none, some (.int x1), none, some (.int x3), none], [.int x3, .int x1, .int u0, .int u1], h, 0, 0)) rfl ?_
  exact mWp_is rfl rfl rfl rfl rfl (mCt_mono k (fun rv hv y => mWp_weak (mLe_n (mLe_n (mLe_n (mLe_n (mLe_n mLe_0))))) y))
theorem b7_49 {h : mH} {Q : Option Value → mH → Prop} {u0 : Int32} {u1 : Int32} {u2 : Int32}  (k : Q (some (.int (u2 - (u1 * u0)))) h) : mWp mCd 7 (49, [none, none, none, none, none], [.int u0, .int u1, .int u2], h, 0, 0) Q := by
  refine mWp_run 2 (t' := (51, [none, none, none, none, none], [.int (u2 - (u1 * u0))], h, 0, 0)) rfl ?_
  exact mWp_r (v := (some (.int (u2 - (u1 * u0))))) rfl k
theorem b8_0 {h : mH} {Q : Option Value → mH → Prop} {r0 : Nat} {x1 : Int32} {x2 : Int32}  (k1 : x1 < 0 → mWp mCd 8 (10, [none, none, none], [], h, 0, 0) Q) (k2 : ¬ (x1 < 0) → mWp mCd 8 (4, [some (.ref r0), some (.int x1), some (.int x2)], [], h, 0, 0) Q) : mWp mCd 8 (0, [some (.ref r0), some (.int x1), some (.int x2)], [], h, 0, 0) Q := by
  refine mWp_run 1 (t' := (1, [some (.ref r0), some (.int x1), some (.int x2)], [.int x1], h, 0, 0)) rfl ?_
  exact mWp_if (P := fun x => x < 0) (a := x1) rfl (fun q => mWp_weak (mLe_n (mLe_n (mLe_n mLe_0))) (k1 q)) k2
theorem b8_10 {h : mH} {Q : Option Value → mH → Prop}   (k : Q (some (.int (iZ 0))) h) : mWp mCd 8 (10, [none, none, none], [], h, 0, 0) Q := by
  refine mWp_run 1 (t' := (11, [none, none, none], [.int (iZ 0)], h, 0, 0)) rfl ?_
  exact mWp_r (v := (some (.int (iZ 0)))) rfl k
theorem b8_4 {h : mH} {Q : Option Value → mH → Prop} {r0 : Nat} {x1 : Int32} {x2 : Int32}  (k1 : x1 < (iZ 8) → mWp mCd 8 (12, [some (.ref r0), some (.int x1), some (.int x2)], [], h, 0, 0) Q) (k2 : ¬ (x1 < (iZ 8)) → mWp mCd 8 (10, [none, none, none], [], h, 0, 0) Q) : mWp mCd 8 (4, [some (.ref r0), some (.int x1), some (.int x2)], [], h, 0, 0) Q := by
  refine mWp_run 2 (t' := (7, [some (.ref r0), some (.int x1), some (.int x2)], [.int (iZ 8), .int x1], h, 0, 0)) rfl ?_
  exact mWp_ic (P := fun x y => x < y) (a := x1) (b := iZ 8) rfl k1 (fun q => mWp_weak (mLe_n (mLe_n (mLe_n mLe_0))) (k2 q))
theorem b8_12 {h : mH} {Q : Option Value → mH → Prop} {r0 : Nat} {x1 : Int32} {x2 : Int32}  (k1 : ¬ x2 = 0 → mWp mCd 8 (25, [some (.ref r0), some (.int x1), none], [], h, 0, 0) Q) (k2 : ¬ (¬ x2 = 0) → mWp mCd 8 (16, [some (.ref r0), some (.int x1), none], [], h, 0, 0) Q) : mWp mCd 8 (12, [some (.ref r0), some (.int x1), some (.int x2)], [], h, 0, 0) Q := by
  refine mWp_run 1 (t' := (13, [some (.ref r0), some (.int x1), some (.int x2)], [.int x2], h, 0, 0)) rfl ?_
  exact mWp_if (P := fun x => ¬ x = 0) (a := x2) rfl (fun q => mWp_weak (mLe_s (mLe_s (mLe_n mLe_0))) (k1 q)) (fun q => mWp_weak (mLe_s (mLe_s (mLe_n mLe_0))) (k2 q))
theorem b8_25 {h : mH} {Q : Option Value → mH → Prop} {r0 : Nat} {x1 : Int32} {cc : Int32} {tw : Int32} {g101 : Nat → Int32} (e1 : h[r0]? = some (oK r0 cc tw)) (e2 : h[((r0 + 4))]? = some (aI 8 g101)) (e3 : ¬ (x1 < 0 ∨ 8 ≤ x1.toNatClampNeg)) (k : Q (some (.int (g101 x1.toNatClampNeg))) h) : mWp mCd 8 (25, [some (.ref r0), some (.int x1), none], [], h, 0, 0) Q := by
  refine mWp_run 1 (t' := (26, [some (.ref r0), some (.int x1), none], [.ref r0], h, 0, 0)) rfl ?_
  refine mWp_gf rfl e1 rfl rfl ?_
  refine mWp_run 1 (t' := (30, [some (.ref r0), some (.int x1), none], [.int x1, .ref (r0 + 4)], h, 0, 0)) rfl ?_
  refine mWp_ial rfl e2 e3 ?_
  exact mWp_r (v := (some (.int (g101 x1.toNatClampNeg)))) rfl k
theorem b8_16 {h : mH} {Q : Option Value → mH → Prop} {r0 : Nat} {x1 : Int32} {cc : Int32} {tw : Int32} {g101 : Nat → Int32} (e1 : h[r0]? = some (oK r0 cc tw)) (e2 : h[((r0 + 3))]? = some (aI 8 g101)) (e3 : ¬ (x1 < 0 ∨ 8 ≤ x1.toNatClampNeg)) (k : Q (some (.int (g101 x1.toNatClampNeg))) h) : mWp mCd 8 (16, [some (.ref r0), some (.int x1), none], [], h, 0, 0) Q := by
  refine mWp_run 1 (t' := (17, [some (.ref r0), some (.int x1), none], [.ref r0], h, 0, 0)) rfl ?_
  refine mWp_gf rfl e1 rfl rfl ?_
  refine mWp_run 1 (t' := (21, [some (.ref r0), some (.int x1), none], [.int x1, .ref (r0 + 3)], h, 0, 0)) rfl ?_
  refine mWp_ial rfl e2 e3 ?_
  refine mWp_run 1 (t' := (31, [some (.ref r0), some (.int x1), none], [.int (g101 x1.toNatClampNeg)], h, 0, 0)) rfl ?_
  exact mWp_r (v := (some (.int (g101 x1.toNatClampNeg)))) rfl k
theorem b9_0 {h : mH} {Q : Option Value → mH → Prop} {r0 : Nat} {x1 : Int32} {x2 : Int32} {x3 : Int32} {x4 : Int32}  (k1 : ¬ x4 = 0 → mWp mCd 9 (6, [some (.ref r0), some (.int x1), some (.int x2), some (.int x3), some (.int x4), none, none, none], [], h, 0, 0) Q) (k2 : ¬ (¬ x4 = 0) → mWp mCd 9 (5, [none, none, none, none, none, none, none, none], [], h, 0, 0) Q) : mWp mCd 9 (0, [some (.ref r0), some (.int x1), some (.int x2), some (.int x3), some (.int x4), none, none, none], [], h, 0, 0) Q := by
  refine mWp_run 1 (t' := (2, [some (.ref r0), some (.int x1), some (.int x2), some (.int x3), some (.int x4), none, none, none], [.int x4], h, 0, 0)) rfl ?_
  exact mWp_if (P := fun x => ¬ x = 0) (a := x4) rfl k1 (fun q => mWp_weak (mLe_n (mLe_n (mLe_n (mLe_n (mLe_n (mLe_n (mLe_n (mLe_n mLe_0)))))))) (k2 q))
theorem b9_6 {h : mH} {Q : Option Value → mH → Prop} {r0 : Nat} {x1 : Int32} {x2 : Int32} {x3 : Int32} {x4 : Int32} {cc : Int32} {tw : Int32} (e1 : h[r0]? = some (oK r0 cc tw)) (k : mWp mCd 9 (15, [some (.ref r0), some (.int x1), some (.int x2), some (.int x3), some (.int x4), some (.int tw), some (.int (iZ 0)), none], [], h, 0, 0) Q) : mWp mCd 9 (6, [some (.ref r0), some (.int x1), some (.int x2), some (.int x3), some (.int x4), none, none, none], [], h, 0, 0) Q := by
  refine mWp_run 1 (t' := (7, [some (.ref r0), some (.int x1), some (.int x2), some (.int x3), some (.int x4), none, none, none], [.ref r0], h, 0, 0)) rfl ?_
  refine mWp_gf rfl e1 rfl rfl ?_
  refine mWp_run 3 (t' := (15, [some (.ref r0), some (.int x1), some (.int x2), some (.int x3), some (.int x4), some (.int tw), some (.int (iZ 0)), none], [], h, 0, 0)) rfl ?_
  exact k
theorem b9_5 {h : mH} {Q : Option Value → mH → Prop}   (k : Q none h) : mWp mCd 9 (5, [none, none, none, none, none, none, none, none], [], h, 0, 0) Q := by
  exact mWp_r (v := none) rfl k
theorem b9_15 {h : mH} {Q : Option Value → mH → Prop} {r0 : Nat} {x1 : Int32} {x2 : Int32} {x3 : Int32} {x4 : Int32} {x5 : Int32} {x6 : Int32}  (k1 : (iZ 3) ≤ x6 → mWp mCd 9 (92, [some (.ref r0), none, none, none, none, some (.int x5), none, none], [], h, 0, 0) Q) (k2 : ¬ ((iZ 3) ≤ x6) → mWp mCd 9 (21, [some (.ref r0), some (.int x1), some (.int x2), some (.int x3), some (.int x4), some (.int x5), some (.int x6), none], [], h, 0, 0) Q) : mWp mCd 9 (15, [some (.ref r0), some (.int x1), some (.int x2), some (.int x3), some (.int x4), some (.int x5), some (.int x6), none], [], h, 0, 0) Q := by
  refine mWp_run 2 (t' := (18, [some (.ref r0), some (.int x1), some (.int x2), some (.int x3), some (.int x4), some (.int x5), some (.int x6), none], [.int (iZ 3), .int x6], h, 0, 0)) rfl ?_
  exact mWp_ic (P := fun x y => y ≤ x) (a := x6) (b := iZ 3) rfl (fun q => mWp_weak (mLe_s (mLe_n (mLe_n (mLe_n (mLe_n (mLe_s (mLe_n (mLe_n mLe_0)))))))) (k1 q)) k2
theorem b9_92 {h : mH} {Q : Option Value → mH → Prop} {r0 : Nat} {x5 : Int32} {cc : Int32} {tw : Int32} {g101 : Nat → Int32} (e1 : h[r0]? = some (oK r0 cc tw)) (e2 : h[((r0 + 2))]? = some (aI 4 g101)) (e3 : 5 ≤ (r0 + 2)) (k : Q none (h.set (r0 + 2) (aI 4 (upd g101 ((iZ 3).toNatClampNeg) x5)))) : mWp mCd 9 (92, [some (.ref r0), none, none, none, none, some (.int x5), none, none], [], h, 0, 0) Q := by
  refine mWp_run 1 (t' := (93, [some (.ref r0), none, none, none, none, some (.int x5), none, none], [.ref r0], h, 0, 0)) rfl ?_
  refine mWp_gf rfl e1 rfl rfl ?_
  refine mWp_run 2 (t' := (99, [some (.ref r0), none, none, none, none, some (.int x5), none, none], [.int x5, .int (iZ 3), .ref (r0 + 2)], h, 0, 0)) rfl ?_
  refine mWp_ias rfl e3 e2 (by decide +kernel) ?_
  show mWp mCd 9 (100, [some (.ref r0), none, none, none, none, some (.int x5), none, none], [], (h.set (r0 + 2) (aI 4 (upd g101 ((iZ 3).toNatClampNeg) x5))), 0, 0) Q
  exact mWp_r (v := none) rfl k
theorem b9_21 {h : mH} {Q : Option Value → mH → Prop} {r0 : Nat} {x1 : Int32} {x2 : Int32} {x3 : Int32} {x4 : Int32} {x5 : Int32} {x6 : Int32} {cc : Int32} {tw : Int32} {g101 : Nat → Int32} {g102 : Nat → Int32} (e1 : h[r0]? = some (oK r0 cc tw)) (e2 : h[((r0 + 5))]? = some (aI 9 g101)) (e3 : ¬ (((iZ 3) * x6) < 0 ∨ 9 ≤ ((iZ 3) * x6).toNatClampNeg)) (e4 : ¬ ((((iZ 3) * x6) + (iZ 1)) < 0 ∨ 9 ≤ (((iZ 3) * x6) + (iZ 1)).toNatClampNeg)) (e5 : ¬ ((((iZ 3) * x6) + (iZ 2)) < 0 ∨ 9 ≤ (((iZ 3) * x6) + (iZ 2)).toNatClampNeg)) (e6 : ¬ x4 = 0) (e7 : h[((r0 + 2))]? = some (aI 4 g102)) (e8 : ¬ (x6 < 0 ∨ 4 ≤ x6.toNatClampNeg)) (e9 : 5 ≤ (r0 + 2)) (k : mWp mCd 9 (15, [some (.ref r0), some (.int x1), some (.int x2), some (.int x3), some (.int x4), some (.int (x5 - ((upd g102 (x6.toNatClampNeg) (((((g101 ((iZ 3) * x6).toNatClampNeg) * x1) + ((g101 (((iZ 3) * x6) + (iZ 1)).toNatClampNeg) * x2)) + ((g101 (((iZ 3) * x6) + (iZ 2)).toNatClampNeg) * x3)) / x4)) x6.toNatClampNeg))), some (.int (x6 + iZ 1)), none], [], (h.set (r0 + 2) (aI 4 (upd g102 (x6.toNatClampNeg) (((((g101 ((iZ 3) * x6).toNatClampNeg) * x1) + ((g101 (((iZ 3) * x6) + (iZ 1)).toNatClampNeg) * x2)) + ((g101 (((iZ 3) * x6) + (iZ 2)).toNatClampNeg) * x3)) / x4)))), 0, 0) Q) : mWp mCd 9 (21, [some (.ref r0), some (.int x1), some (.int x2), some (.int x3), some (.int x4), some (.int x5), some (.int x6), none], [], h, 0, 0) Q := by
  refine mWp_run 1 (t' := (22, [some (.ref r0), some (.int x1), some (.int x2), some (.int x3), some (.int x4), some (.int x5), some (.int x6), none], [.ref r0], h, 0, 0)) rfl ?_
  refine mWp_gf rfl e1 rfl rfl ?_
  refine mWp_run 3 (t' := (29, [some (.ref r0), some (.int x1), some (.int x2), some (.int x3), some (.int x4), some (.int x5), some (.int x6), none], [.int ((iZ 3) * x6), .ref (r0 + 5)], h, 0, 0)) rfl ?_
  refine mWp_ial rfl e2 e3 ?_
  refine mWp_run 3 (t' := (33, [some (.ref r0), some (.int x1), some (.int x2), some (.int x3), some (.int x4), some (.int x5), some (.int x6), none], [.ref r0, .int ((g101 ((iZ 3) * x6).toNatClampNeg) * x1)], h, 0, 0)) rfl ?_
  refine mWp_gf rfl e1 rfl rfl ?_
  refine mWp_run 5 (t' := (42, [some (.ref r0), some (.int x1), some (.int x2), some (.int x3), some (.int x4), some (.int x5), some (.int x6), none], [.int (((iZ 3) * x6) + (iZ 1)), .ref (r0 + 5), .int ((g101 ((iZ 3) * x6).toNatClampNeg) * x1)], h, 0, 0)) rfl ?_
  refine mWp_ial rfl e2 e4 ?_
  refine mWp_run 4 (t' := (47, [some (.ref r0), some (.int x1), some (.int x2), some (.int x3), some (.int x4), some (.int x5), some (.int x6), none], [.ref r0, .int (((g101 ((iZ 3) * x6).toNatClampNeg) * x1) + ((g101 (((iZ 3) * x6) + (iZ 1)).toNatClampNeg) * x2))], h, 0, 0)) rfl ?_
  refine mWp_gf rfl e1 rfl rfl ?_
  refine mWp_run 5 (t' := (56, [some (.ref r0), some (.int x1), some (.int x2), some (.int x3), some (.int x4), some (.int x5), some (.int x6), none], [.int (((iZ 3) * x6) + (iZ 2)), .ref (r0 + 5), .int (((g101 ((iZ 3) * x6).toNatClampNeg) * x1) + ((g101 (((iZ 3) * x6) + (iZ 1)).toNatClampNeg) * x2))], h, 0, 0)) rfl ?_
  refine mWp_ial rfl e2 e5 ?_
  refine mWp_run 5 (t' := (63, [some (.ref r0), some (.int x1), some (.int x2), some (.int x3), some (.int x4), some (.int x5), some (.int x6), some (.int ((((g101 ((iZ 3) * x6).toNatClampNeg) * x1) + ((g101 (((iZ 3) * x6) + (iZ 1)).toNatClampNeg) * x2)) + ((g101 (((iZ 3) * x6) + (iZ 2)).toNatClampNeg) * x3)))], [.ref r0], h, 0, 0)) rfl ?_
  refine mWp_gf rfl e1 rfl rfl ?_
  refine mWp_run 3 (t' := (72, [some (.ref r0), some (.int x1), some (.int x2), some (.int x3), some (.int x4), some (.int x5), some (.int x6), some (.int ((((g101 ((iZ 3) * x6).toNatClampNeg) * x1) + ((g101 (((iZ 3) * x6) + (iZ 1)).toNatClampNeg) * x2)) + ((g101 (((iZ 3) * x6) + (iZ 2)).toNatClampNeg) * x3)))], [.int x4, .int ((((g101 ((iZ 3) * x6).toNatClampNeg) * x1) + ((g101 (((iZ 3) * x6) + (iZ 1)).toNatClampNeg) * x2)) + ((g101 (((iZ 3) * x6) + (iZ 2)).toNatClampNeg) * x3)), .int x6, .ref (r0 + 2)], h, 0, 0)) rfl ?_
  refine mWp_idv (f := fun x y => x / y) rfl e6 ?_
  refine mWp_ias rfl e9 e7 e8 ?_
  show mWp mCd 9 (74, [some (.ref r0), some (.int x1), some (.int x2), some (.int x3), some (.int x4), some (.int x5), some (.int x6), some (.int ((((g101 ((iZ 3) * x6).toNatClampNeg) * x1) + ((g101 (((iZ 3) * x6) + (iZ 1)).toNatClampNeg) * x2)) + ((g101 (((iZ 3) * x6) + (iZ 2)).toNatClampNeg) * x3)))], [], (h.set (r0 + 2) (aI 4 (upd g102 (x6.toNatClampNeg) (((((g101 ((iZ 3) * x6).toNatClampNeg) * x1) + ((g101 (((iZ 3) * x6) + (iZ 1)).toNatClampNeg) * x2)) + ((g101 (((iZ 3) * x6) + (iZ 2)).toNatClampNeg) * x3)) / x4)))), 0, 0) Q
  refine mWp_run 2 (t' := (77, [some (.ref r0), some (.int x1), some (.int x2), some (.int x3), some (.int x4), some (.int x5), some (.int x6), some (.int ((((g101 ((iZ 3) * x6).toNatClampNeg) * x1) + ((g101 (((iZ 3) * x6) + (iZ 1)).toNatClampNeg) * x2)) + ((g101 (((iZ 3) * x6) + (iZ 2)).toNatClampNeg) * x3)))], [.ref r0, .int x5], (h.set (r0 + 2) (aI 4 (upd g102 (x6.toNatClampNeg) (((((g101 ((iZ 3) * x6).toNatClampNeg) * x1) + ((g101 (((iZ 3) * x6) + (iZ 1)).toNatClampNeg) * x2)) + ((g101 (((iZ 3) * x6) + (iZ 2)).toNatClampNeg) * x3)) / x4)))), 0, 0)) rfl ?_
  refine mWp_gf rfl (mGn (by omega) e1) rfl rfl ?_
  refine mWp_run 1 (t' := (82, [some (.ref r0), some (.int x1), some (.int x2), some (.int x3), some (.int x4), some (.int x5), some (.int x6), some (.int ((((g101 ((iZ 3) * x6).toNatClampNeg) * x1) + ((g101 (((iZ 3) * x6) + (iZ 1)).toNatClampNeg) * x2)) + ((g101 (((iZ 3) * x6) + (iZ 2)).toNatClampNeg) * x3)))], [.int x6, .ref (r0 + 2), .int x5], (h.set (r0 + 2) (aI 4 (upd g102 (x6.toNatClampNeg) (((((g101 ((iZ 3) * x6).toNatClampNeg) * x1) + ((g101 (((iZ 3) * x6) + (iZ 1)).toNatClampNeg) * x2)) + ((g101 (((iZ 3) * x6) + (iZ 2)).toNatClampNeg) * x3)) / x4)))), 0, 0)) rfl ?_
  refine mWp_ial rfl (mGs e7) e8 ?_
  refine mWp_run 4 (t' := (15, [some (.ref r0), some (.int x1), some (.int x2), some (.int x3), some (.int x4), some (.int (x5 - ((upd g102 (x6.toNatClampNeg) (((((g101 ((iZ 3) * x6).toNatClampNeg) * x1) + ((g101 (((iZ 3) * x6) + (iZ 1)).toNatClampNeg) * x2)) + ((g101 (((iZ 3) * x6) + (iZ 2)).toNatClampNeg) * x3)) / x4)) x6.toNatClampNeg))), some (.int (x6 + iZ 1)), some (.int ((((g101 ((iZ 3) * x6).toNatClampNeg) * x1) + ((g101 (((iZ 3) * x6) + (iZ 1)).toNatClampNeg) * x2)) + ((g101 (((iZ 3) * x6) + (iZ 2)).toNatClampNeg) * x3)))], [], (h.set (r0 + 2) (aI 4 (upd g102 (x6.toNatClampNeg) (((((g101 ((iZ 3) * x6).toNatClampNeg) * x1) + ((g101 (((iZ 3) * x6) + (iZ 1)).toNatClampNeg) * x2)) + ((g101 (((iZ 3) * x6) + (iZ 2)).toNatClampNeg) * x3)) / x4)))), 0, 0)) rfl ?_
  exact mWp_weak (mLe_s (mLe_s (mLe_s (mLe_s (mLe_s (mLe_s (mLe_s (mLe_n mLe_0)))))))) k
theorem b10_0 {h : mH} {Q : Option Value → mH → Prop} {r0 : Nat} {cc : Int32} {tw : Int32} {g101 : Nat → Int32} (e1 : h[r0]? = some (oK r0 cc tw)) (e2 : h[((r0 + 2))]? = some (aI 4 g101)) (k : mCt mCd 11 [.ref r0, .int (iZ 1), .int (g101 (iZ 0).toNatClampNeg)] h (fun rv hv => mWp mCd 10 (27, [some (.ref r0), some (.int (g101 (iZ 0).toNatClampNeg)), some (.int (g101 (iZ 1).toNatClampNeg)), some (.int (g101 (iZ 2).toNatClampNeg))], rv.toList ++ [], hv, 0, 0) Q)) : mWp mCd 10 (0, [some (.ref r0), none, none, none], [], h, 0, 0) Q := by
  refine mWp_run 1 (t' := (1, [some (.ref r0), none, none, none], [.ref r0], h, 0, 0)) rfl ?_
  refine mWp_gf rfl e1 rfl rfl ?_
  refine mWp_run 1 (t' := (5, [some (.ref r0), none, none, none], [.int (iZ 0), .ref (r0 + 2)], h, 0, 0)) rfl ?_
  refine mWp_ial rfl e2 (by decide +kernel) ?_
  refine mWp_run 2 (t' := (8, [some (.ref r0), some (.int (g101 (iZ 0).toNatClampNeg)), none, none], [.ref r0], h, 0, 0)) rfl ?_
  refine mWp_gf rfl e1 rfl rfl ?_
  refine mWp_run 1 (t' := (12, [some (.ref r0), some (.int (g101 (iZ 0).toNatClampNeg)), none, none], [.int (iZ 1), .ref (r0 + 2)], h, 0, 0)) rfl ?_
  refine mWp_ial rfl e2 (by decide +kernel) ?_
  refine mWp_run 2 (t' := (15, [some (.ref r0), some (.int (g101 (iZ 0).toNatClampNeg)), some (.int (g101 (iZ 1).toNatClampNeg)), none], [.ref r0], h, 0, 0)) rfl ?_
  refine mWp_gf rfl e1 rfl rfl ?_
  refine mWp_run 1 (t' := (19, [some (.ref r0), some (.int (g101 (iZ 0).toNatClampNeg)), some (.int (g101 (iZ 1).toNatClampNeg)), none], [.int (iZ 2), .ref (r0 + 2)], h, 0, 0)) rfl ?_
  refine mWp_ial rfl e2 (by decide +kernel) ?_
  refine mWp_run 4 (t' := (24, [some (.ref r0), some (.int (g101 (iZ 0).toNatClampNeg)), some (.int (g101 (iZ 1).toNatClampNeg)), some (.int (g101 (iZ 2).toNatClampNeg))], [.int (g101 (iZ 0).toNatClampNeg), .int (iZ 1), .ref r0], h, 0, 0)) rfl ?_
  exact mWp_iv rfl rfl e1 rfl rfl rfl rfl k
theorem b10_27 {h : mH} {Q : Option Value → mH → Prop} {r0 : Nat} {x1 : Int32} {x2 : Int32} {x3 : Int32} {u0 : Int32}  (k1 : u0 = 0 → mWp mCd 10 (100, [none, none, none, none], [], h, 0, 0) Q) (k2 : ¬ (u0 = 0) → mWp mCd 10 (30, [some (.ref r0), some (.int x1), some (.int x2), some (.int x3)], [], h, 0, 0) Q) : mWp mCd 10 (27, [some (.ref r0), some (.int x1), some (.int x2), some (.int x3)], [.int u0], h, 0, 0) Q := by
  exact mWp_if (P := fun x => x = 0) (a := u0) rfl (fun q => mWp_weak (mLe_n (mLe_n (mLe_n (mLe_n mLe_0)))) (k1 q)) k2
theorem b10_100 {h : mH} {Q : Option Value → mH → Prop}   (k : Q (some (.int (iZ 0))) h) : mWp mCd 10 (100, [none, none, none, none], [], h, 0, 0) Q := by
  refine mWp_run 1 (t' := (101, [none, none, none, none], [.int (iZ 0)], h, 0, 0)) rfl ?_
  exact mWp_r (v := (some (.int (iZ 0)))) rfl k
theorem b10_30 {h : mH} {Q : Option Value → mH → Prop} {r0 : Nat} {x1 : Int32} {x2 : Int32} {x3 : Int32} {cc : Int32} {tw : Int32} (e1 : h[r0]? = some (oK r0 cc tw)) (k : mCt mCd 11 [.ref r0, .int (iZ 2), .int x2] h (fun rv hv => mWp mCd 10 (36, [some (.ref r0), some (.int x1), some (.int x2), some (.int x3)], rv.toList ++ [], hv, 0, 0) Q)) : mWp mCd 10 (30, [some (.ref r0), some (.int x1), some (.int x2), some (.int x3)], [], h, 0, 0) Q := by
  refine mWp_run 3 (t' := (33, [some (.ref r0), some (.int x1), some (.int x2), some (.int x3)], [.int x2, .int (iZ 2), .ref r0], h, 0, 0)) rfl ?_
  exact mWp_iv rfl rfl e1 rfl rfl rfl rfl k
theorem b10_36 {h : mH} {Q : Option Value → mH → Prop} {r0 : Nat} {x1 : Int32} {x2 : Int32} {x3 : Int32} {u0 : Int32}  (k1 : u0 = 0 → mWp mCd 10 (100, [none, none, none, none], [], h, 0, 0) Q) (k2 : ¬ (u0 = 0) → mWp mCd 10 (39, [some (.ref r0), some (.int x1), some (.int x2), some (.int x3)], [], h, 0, 0) Q) : mWp mCd 10 (36, [some (.ref r0), some (.int x1), some (.int x2), some (.int x3)], [.int u0], h, 0, 0) Q := by
  exact mWp_if (P := fun x => x = 0) (a := u0) rfl (fun q => mWp_weak (mLe_n (mLe_n (mLe_n (mLe_n mLe_0)))) (k1 q)) k2
theorem b10_39 {h : mH} {Q : Option Value → mH → Prop} {r0 : Nat} {x1 : Int32} {x2 : Int32} {x3 : Int32} {cc : Int32} {tw : Int32} (e1 : h[r0]? = some (oK r0 cc tw)) (k : mCt mCd 11 [.ref r0, .int (iZ 3), .int (x1 + x2)] h (fun rv hv => mWp mCd 10 (47, [some (.ref r0), some (.int x1), some (.int x2), some (.int x3)], rv.toList ++ [], hv, 0, 0) Q)) : mWp mCd 10 (39, [some (.ref r0), some (.int x1), some (.int x2), some (.int x3)], [], h, 0, 0) Q := by
  refine mWp_run 5 (t' := (44, [some (.ref r0), some (.int x1), some (.int x2), some (.int x3)], [.int (x1 + x2), .int (iZ 3), .ref r0], h, 0, 0)) rfl ?_
  exact mWp_iv rfl rfl e1 rfl rfl rfl rfl k
theorem b10_47 {h : mH} {Q : Option Value → mH → Prop} {r0 : Nat} {x1 : Int32} {x2 : Int32} {x3 : Int32} {u0 : Int32}  (k1 : u0 = 0 → mWp mCd 10 (100, [none, none, none, none], [], h, 0, 0) Q) (k2 : ¬ (u0 = 0) → mWp mCd 10 (50, [some (.ref r0), some (.int x1), some (.int x2), some (.int x3)], [], h, 0, 0) Q) : mWp mCd 10 (47, [some (.ref r0), some (.int x1), some (.int x2), some (.int x3)], [.int u0], h, 0, 0) Q := by
  exact mWp_if (P := fun x => x = 0) (a := u0) rfl (fun q => mWp_weak (mLe_n (mLe_n (mLe_n (mLe_n mLe_0)))) (k1 q)) k2
theorem b10_50 {h : mH} {Q : Option Value → mH → Prop} {r0 : Nat} {x1 : Int32} {x2 : Int32} {x3 : Int32} {cc : Int32} {tw : Int32} (e1 : h[r0]? = some (oK r0 cc tw)) (k : mCt mCd 11 [.ref r0, .int (iZ 4), .int x3] h (fun rv hv => mWp mCd 10 (56, [some (.ref r0), some (.int x1), some (.int x2), some (.int x3)], rv.toList ++ [], hv, 0, 0) Q)) : mWp mCd 10 (50, [some (.ref r0), some (.int x1), some (.int x2), some (.int x3)], [], h, 0, 0) Q := by
  refine mWp_run 3 (t' := (53, [some (.ref r0), some (.int x1), some (.int x2), some (.int x3)], [.int x3, .int (iZ 4), .ref r0], h, 0, 0)) rfl ?_
  exact mWp_iv rfl rfl e1 rfl rfl rfl rfl k
theorem b10_56 {h : mH} {Q : Option Value → mH → Prop} {r0 : Nat} {x1 : Int32} {x2 : Int32} {x3 : Int32} {u0 : Int32}  (k1 : u0 = 0 → mWp mCd 10 (100, [none, none, none, none], [], h, 0, 0) Q) (k2 : ¬ (u0 = 0) → mWp mCd 10 (59, [some (.ref r0), some (.int x1), some (.int x2), some (.int x3)], [], h, 0, 0) Q) : mWp mCd 10 (56, [some (.ref r0), some (.int x1), some (.int x2), some (.int x3)], [.int u0], h, 0, 0) Q := by
  exact mWp_if (P := fun x => x = 0) (a := u0) rfl (fun q => mWp_weak (mLe_n (mLe_n (mLe_n (mLe_n mLe_0)))) (k1 q)) k2
theorem b10_59 {h : mH} {Q : Option Value → mH → Prop} {r0 : Nat} {x1 : Int32} {x2 : Int32} {x3 : Int32} {cc : Int32} {tw : Int32} (e1 : h[r0]? = some (oK r0 cc tw)) (k : mCt mCd 11 [.ref r0, .int (iZ 5), .int (x1 + x3)] h (fun rv hv => mWp mCd 10 (67, [some (.ref r0), some (.int x1), some (.int x2), some (.int x3)], rv.toList ++ [], hv, 0, 0) Q)) : mWp mCd 10 (59, [some (.ref r0), some (.int x1), some (.int x2), some (.int x3)], [], h, 0, 0) Q := by
  refine mWp_run 5 (t' := (64, [some (.ref r0), some (.int x1), some (.int x2), some (.int x3)], [.int (x1 + x3), .int (iZ 5), .ref r0], h, 0, 0)) rfl ?_
  exact mWp_iv rfl rfl e1 rfl rfl rfl rfl k
theorem b10_67 {h : mH} {Q : Option Value → mH → Prop} {r0 : Nat} {x1 : Int32} {x2 : Int32} {x3 : Int32} {u0 : Int32}  (k1 : u0 = 0 → mWp mCd 10 (100, [none, none, none, none], [], h, 0, 0) Q) (k2 : ¬ (u0 = 0) → mWp mCd 10 (70, [some (.ref r0), some (.int x1), some (.int x2), some (.int x3)], [], h, 0, 0) Q) : mWp mCd 10 (67, [some (.ref r0), some (.int x1), some (.int x2), some (.int x3)], [.int u0], h, 0, 0) Q := by
  exact mWp_if (P := fun x => x = 0) (a := u0) rfl (fun q => mWp_weak (mLe_n (mLe_n (mLe_n (mLe_n mLe_0)))) (k1 q)) k2
theorem b10_70 {h : mH} {Q : Option Value → mH → Prop} {r0 : Nat} {x1 : Int32} {x2 : Int32} {x3 : Int32} {cc : Int32} {tw : Int32} (e1 : h[r0]? = some (oK r0 cc tw)) (k : mCt mCd 11 [.ref r0, .int (iZ 6), .int (x2 + x3)] h (fun rv hv => mWp mCd 10 (79, [some (.ref r0), some (.int x1), some (.int x2), some (.int x3)], rv.toList ++ [], hv, 0, 0) Q)) : mWp mCd 10 (70, [some (.ref r0), some (.int x1), some (.int x2), some (.int x3)], [], h, 0, 0) Q := by
  refine mWp_run 5 (t' := (76, [some (.ref r0), some (.int x1), some (.int x2), some (.int x3)], [.int (x2 + x3), .int (iZ 6), .ref r0], h, 0, 0)) rfl ?_
  exact mWp_iv rfl rfl e1 rfl rfl rfl rfl k
theorem b10_79 {h : mH} {Q : Option Value → mH → Prop} {r0 : Nat} {x1 : Int32} {x2 : Int32} {x3 : Int32} {u0 : Int32}  (k1 : u0 = 0 → mWp mCd 10 (100, [none, none, none, none], [], h, 0, 0) Q) (k2 : ¬ (u0 = 0) → mWp mCd 10 (82, [some (.ref r0), some (.int x1), some (.int x2), some (.int x3)], [], h, 0, 0) Q) : mWp mCd 10 (79, [some (.ref r0), some (.int x1), some (.int x2), some (.int x3)], [.int u0], h, 0, 0) Q := by
  exact mWp_if (P := fun x => x = 0) (a := u0) rfl (fun q => mWp_weak (mLe_n (mLe_n (mLe_n (mLe_n mLe_0)))) (k1 q)) k2
theorem b10_82 {h : mH} {Q : Option Value → mH → Prop} {r0 : Nat} {x1 : Int32} {x2 : Int32} {x3 : Int32} {cc : Int32} {tw : Int32} (e1 : h[r0]? = some (oK r0 cc tw)) (k : mCt mCd 11 [.ref r0, .int (iZ 7), .int ((x1 + x2) + x3)] h (fun rv hv => mWp mCd 10 (93, [none, none, none, none], rv.toList ++ [], hv, 0, 0) Q)) : mWp mCd 10 (82, [some (.ref r0), some (.int x1), some (.int x2), some (.int x3)], [], h, 0, 0) Q := by
  refine mWp_run 7 (t' := (90, [some (.ref r0), some (.int x1), some (.int x2), some (.int x3)], [.int ((x1 + x2) + x3), .int (iZ 7), .ref r0], h, 0, 0)) rfl ?_
  exact mWp_iv rfl rfl e1 rfl rfl rfl rfl (mCt_mono k (fun rv hv y => mWp_weak (mLe_n (mLe_n (mLe_n (mLe_n mLe_0)))) y))
theorem b10_93 {h : mH} {Q : Option Value → mH → Prop} {u0 : Int32}  (k1 : u0 = 0 → mWp mCd 10 (100, [none, none, none, none], [], h, 0, 0) Q) (k2 : ¬ (u0 = 0) → mWp mCd 10 (96, [none, none, none, none], [], h, 0, 0) Q) : mWp mCd 10 (93, [none, none, none, none], [.int u0], h, 0, 0) Q := by
  exact mWp_if (P := fun x => x = 0) (a := u0) rfl k1 k2
theorem b10_96 {h : mH} {Q : Option Value → mH → Prop}   (k : Q (some (.int (iZ 1))) h) : mWp mCd 10 (96, [none, none, none, none], [], h, 0, 0) Q := by
  refine mWp_run 2 (t' := (101, [none, none, none, none], [.int (iZ 1)], h, 0, 0)) rfl ?_
  exact mWp_r (v := (some (.int (iZ 1)))) rfl k
theorem b11_0 {h : mH} {Q : Option Value → mH → Prop} {r0 : Nat} {x1 : Int32} {x2 : Int32}  (k1 : x1 < 0 → mWp mCd 11 (34, [none, none, none], [], h, 0, 0) Q) (k2 : ¬ (x1 < 0) → mWp mCd 11 (4, [some (.ref r0), some (.int x1), some (.int x2)], [], h, 0, 0) Q) : mWp mCd 11 (0, [some (.ref r0), some (.int x1), some (.int x2)], [], h, 0, 0) Q := by
  refine mWp_run 1 (t' := (1, [some (.ref r0), some (.int x1), some (.int x2)], [.int x1], h, 0, 0)) rfl ?_
  exact mWp_if (P := fun x => x < 0) (a := x1) rfl (fun q => mWp_weak (mLe_n (mLe_n (mLe_n mLe_0))) (k1 q)) k2
theorem b11_34 {h : mH} {Q : Option Value → mH → Prop}   (k : Q (some (.int (iZ 0))) h) : mWp mCd 11 (34, [none, none, none], [], h, 0, 0) Q := by
  refine mWp_run 1 (t' := (35, [none, none, none], [.int (iZ 0)], h, 0, 0)) rfl ?_
  exact mWp_r (v := (some (.int (iZ 0)))) rfl k
theorem b11_4 {h : mH} {Q : Option Value → mH → Prop} {r0 : Nat} {x1 : Int32} {x2 : Int32}  (k1 : (iZ 8) ≤ x1 → mWp mCd 11 (34, [none, none, none], [], h, 0, 0) Q) (k2 : ¬ ((iZ 8) ≤ x1) → mWp mCd 11 (10, [some (.ref r0), some (.int x1), some (.int x2)], [], h, 0, 0) Q) : mWp mCd 11 (4, [some (.ref r0), some (.int x1), some (.int x2)], [], h, 0, 0) Q := by
  refine mWp_run 2 (t' := (7, [some (.ref r0), some (.int x1), some (.int x2)], [.int (iZ 8), .int x1], h, 0, 0)) rfl ?_
  exact mWp_ic (P := fun x y => y ≤ x) (a := x1) (b := iZ 8) rfl (fun q => mWp_weak (mLe_n (mLe_n (mLe_n mLe_0))) (k1 q)) k2
theorem b11_10 {h : mH} {Q : Option Value → mH → Prop} {r0 : Nat} {x1 : Int32} {x2 : Int32} {cc : Int32} {tw : Int32} {g101 : Nat → Int32} (e1 : h[r0]? = some (oK r0 cc tw)) (e2 : h[((r0 + 3))]? = some (aI 8 g101)) (e3 : ¬ (x1 < 0 ∨ 8 ≤ x1.toNatClampNeg)) (k1 : x2 < (g101 x1.toNatClampNeg) → mWp mCd 11 (34, [none, none, none], [], h, 0, 0) Q) (k2 : ¬ (x2 < (g101 x1.toNatClampNeg)) → mWp mCd 11 (20, [some (.ref r0), some (.int x1), some (.int x2)], [], h, 0, 0) Q) : mWp mCd 11 (10, [some (.ref r0), some (.int x1), some (.int x2)], [], h, 0, 0) Q := by
  refine mWp_run 2 (t' := (12, [some (.ref r0), some (.int x1), some (.int x2)], [.ref r0, .int x2], h, 0, 0)) rfl ?_
  refine mWp_gf rfl e1 rfl rfl ?_
  refine mWp_run 1 (t' := (16, [some (.ref r0), some (.int x1), some (.int x2)], [.int x1, .ref (r0 + 3), .int x2], h, 0, 0)) rfl ?_
  refine mWp_ial rfl e2 e3 ?_
  exact mWp_ic (P := fun x y => x < y) (a := x2) (b := g101 x1.toNatClampNeg) rfl (fun q => mWp_weak (mLe_n (mLe_n (mLe_n mLe_0))) (k1 q)) k2
theorem b11_20 {h : mH} {Q : Option Value → mH → Prop} {r0 : Nat} {x1 : Int32} {x2 : Int32} {cc : Int32} {tw : Int32} {g101 : Nat → Int32} (e1 : h[r0]? = some (oK r0 cc tw)) (e2 : h[((r0 + 4))]? = some (aI 8 g101)) (e3 : ¬ (x1 < 0 ∨ 8 ≤ x1.toNatClampNeg)) (k1 : (g101 x1.toNatClampNeg) < x2 → mWp mCd 11 (34, [none, none, none], [], h, 0, 0) Q) (k2 : ¬ ((g101 x1.toNatClampNeg) < x2) → mWp mCd 11 (30, [none, none, none], [], h, 0, 0) Q) : mWp mCd 11 (20, [some (.ref r0), some (.int x1), some (.int x2)], [], h, 0, 0) Q := by
  refine mWp_run 2 (t' := (22, [some (.ref r0), some (.int x1), some (.int x2)], [.ref r0, .int x2], h, 0, 0)) rfl ?_
  refine mWp_gf rfl e1 rfl rfl ?_
  refine mWp_run 1 (t' := (26, [some (.ref r0), some (.int x1), some (.int x2)], [.int x1, .ref (r0 + 4), .int x2], h, 0, 0)) rfl ?_
  refine mWp_ial rfl e2 e3 ?_
  exact mWp_ic (P := fun x y => y < x) (a := x2) (b := g101 x1.toNatClampNeg) rfl (fun q => mWp_weak (mLe_n (mLe_n (mLe_n mLe_0))) (k1 q)) (fun q => mWp_weak (mLe_n (mLe_n (mLe_n mLe_0))) (k2 q))
theorem b11_30 {h : mH} {Q : Option Value → mH → Prop}   (k : Q (some (.int (iZ 1))) h) : mWp mCd 11 (30, [none, none, none], [], h, 0, 0) Q := by
  refine mWp_run 2 (t' := (35, [none, none, none], [.int (iZ 1)], h, 0, 0)) rfl ?_
  exact mWp_r (v := (some (.int (iZ 1)))) rfl k
theorem b12_0 {h : mH} {Q : Option Value → mH → Prop} {r0 : Nat}  (k : mWp mCd 12 (2, [some (.ref r0), some (.int (iZ 0)), none, none, none], [], h, 0, 0) Q) : mWp mCd 12 (0, [some (.ref r0), none, none, none, none], [], h, 0, 0) Q := by
  refine mWp_run 2 (t' := (2, [some (.ref r0), some (.int (iZ 0)), none, none, none], [], h, 0, 0)) rfl ?_
  exact k
theorem b12_2 {h : mH} {Q : Option Value → mH → Prop} {r0 : Nat} {x1 : Int32} {cc : Int32} {tw : Int32} (e1 : h[r0]? = some (oK r0 cc tw)) (k1 : cc ≤ x1 → mWp mCd 12 (24, [some (.ref r0), some (.int x1), none, none, none], [], h, 0, 0) Q) (k2 : ¬ (cc ≤ x1) → mWp mCd 12 (10, [some (.ref r0), some (.int x1), none, none, none], [], h, 0, 0) Q) : mWp mCd 12 (2, [some (.ref r0), some (.int x1), none, none, none], [], h, 0, 0) Q := by
  refine mWp_run 2 (t' := (4, [some (.ref r0), some (.int x1), none, none, none], [.ref r0, .int x1], h, 0, 0)) rfl ?_
  refine mWp_gf rfl e1 rfl rfl ?_
  exact mWp_ic (P := fun x y => y ≤ x) (a := x1) (b := cc) rfl k1 k2
theorem b12_24 {h : mH} {Q : Option Value → mH → Prop} {r0 : Nat} {x1 : Int32} {cc : Int32} {tw : Int32} (e1 : h[r0]? = some (oK r0 cc tw)) (k1 : cc ≤ x1 → mWp mCd 12 (44, [some (.ref r0), some (.int x1), none, none, none], [], h, 0, 0) Q) (k2 : ¬ (cc ≤ x1) → mWp mCd 12 (32, [some (.ref r0), some (.int x1), none, none, none], [], h, 0, 0) Q) : mWp mCd 12 (24, [some (.ref r0), some (.int x1), none, none, none], [], h, 0, 0) Q := by
  refine mWp_run 2 (t' := (26, [some (.ref r0), some (.int x1), none, none, none], [.ref r0, .int x1], h, 0, 0)) rfl ?_
  refine mWp_gf rfl e1 rfl rfl ?_
  exact mWp_ic (P := fun x y => y ≤ x) (a := x1) (b := cc) rfl k1 k2
theorem b12_10 {h : mH} {Q : Option Value → mH → Prop} {r0 : Nat} {x1 : Int32} {cc : Int32} {tw : Int32} (e1 : h[r0]? = some (oK r0 cc tw)) (k : mCt mCd 13 [.ref r0, .int x1] h (fun rv hv => mWp mCd 12 (15, [some (.ref r0), some (.int x1), none, none, none], rv.toList ++ [], hv, 0, 0) Q)) : mWp mCd 12 (10, [some (.ref r0), some (.int x1), none, none, none], [], h, 0, 0) Q := by
  refine mWp_run 2 (t' := (12, [some (.ref r0), some (.int x1), none, none, none], [.int x1, .ref r0], h, 0, 0)) rfl ?_
  exact mWp_iv rfl rfl e1 rfl rfl rfl rfl k
theorem b12_44 {h : mH} {Q : Option Value → mH → Prop} {r0 : Nat} {x1 : Int32}  (k : mWp mCd 12 (45, [some (.ref r0), some (.int x1), none, none, none], [.int (iZ 0)], h, 0, 0) Q) : mWp mCd 12 (44, [some (.ref r0), some (.int x1), none, none, none], [], h, 0, 0) Q := by
  refine mWp_run 1 (t' := (45, [some (.ref r0), some (.int x1), none, none, none], [.int (iZ 0)], h, 0, 0)) rfl ?_
  exact k
theorem b12_32 {h : mH} {Q : Option Value → mH → Prop} {r0 : Nat} {x1 : Int32} {cc : Int32} {tw : Int32} (e1 : h[r0]? = some (oK r0 cc tw)) (k : mCt mCd 13 [.ref r0, .int x1] h (fun rv hv => mWp mCd 12 (37, [some (.ref r0), some (.int x1), none, none, none], rv.toList ++ [], hv, 0, 0) Q)) : mWp mCd 12 (32, [some (.ref r0), some (.int x1), none, none, none], [], h, 0, 0) Q := by
  refine mWp_run 2 (t' := (34, [some (.ref r0), some (.int x1), none, none, none], [.int x1, .ref r0], h, 0, 0)) rfl ?_
  exact mWp_iv rfl rfl e1 rfl rfl rfl rfl k
theorem b12_15 {h : mH} {Q : Option Value → mH → Prop} {r0 : Nat} {x1 : Int32} {u0 : Int32}  (k1 : u0 ≤ 0 → mWp mCd 12 (24, [some (.ref r0), some (.int x1), none, none, none], [], h, 0, 0) Q) (k2 : ¬ (u0 ≤ 0) → mWp mCd 12 (18, [some (.ref r0), some (.int x1), none, none, none], [], h, 0, 0) Q) : mWp mCd 12 (15, [some (.ref r0), some (.int x1), none, none, none], [.int u0], h, 0, 0) Q := by
  exact mWp_if (P := fun x => x ≤ 0) (a := u0) rfl k1 k2
theorem b12_45 {h : mH} {Q : Option Value → mH → Prop} {r0 : Nat} {x1 : Int32} {u0 : Int32}  (k1 : ¬ u0 = 0 → mWp mCd 12 (59, [none, none, none, none, none], [], h, 0, 0) Q) (k2 : ¬ (¬ u0 = 0) → mWp mCd 12 (50, [some (.ref r0), some (.int x1), none, none, none], [], h, 0, 0) Q) : mWp mCd 12 (45, [some (.ref r0), some (.int x1), none, none, none], [.int u0], h, 0, 0) Q := by
  refine mWp_run 2 (t' := (47, [some (.ref r0), some (.int x1), some (.int u0), none, none], [.int u0], h, 0, 0)) rfl ?_
  exact mWp_if (P := fun x => ¬ x = 0) (a := u0) rfl (fun q => mWp_weak (mLe_n (mLe_n (mLe_n (mLe_n (mLe_n mLe_0))))) (k1 q)) (fun q => mWp_weak (mLe_s (mLe_s (mLe_n (mLe_n (mLe_n mLe_0))))) (k2 q))
theorem b12_37 {h : mH} {Q : Option Value → mH → Prop} {r0 : Nat} {x1 : Int32} {u0 : Int32}  (k1 : ¬ u0 = 0 → mWp mCd 12 (44, [some (.ref r0), some (.int x1), none, none, none], [], h, 0, 0) Q) (k2 : ¬ (¬ u0 = 0) → mWp mCd 12 (40, [some (.ref r0), some (.int x1), none, none, none], [], h, 0, 0) Q) : mWp mCd 12 (37, [some (.ref r0), some (.int x1), none, none, none], [.int u0], h, 0, 0) Q := by
  exact mWp_if (P := fun x => ¬ x = 0) (a := u0) rfl k1 k2
theorem b12_18 {h : mH} {Q : Option Value → mH → Prop} {r0 : Nat} {x1 : Int32}  (k : mWp mCd 12 (2, [some (.ref r0), some (.int (x1 + iZ 1)), none, none, none], [], h, 0, 0) Q) : mWp mCd 12 (18, [some (.ref r0), some (.int x1), none, none, none], [], h, 0, 0) Q := by
  refine mWp_run 2 (t' := (2, [some (.ref r0), some (.int (x1 + iZ 1)), none, none, none], [], h, 0, 0)) rfl ?_
  exact k
theorem b12_59 {h : mH} {Q : Option Value → mH → Prop}   (k : Q none h) : mWp mCd 12 (59, [none, none, none, none, none], [], h, 0, 0) Q := by
  exact mWp_r (v := none) rfl k
theorem b12_50 {h : mH} {Q : Option Value → mH → Prop} {r0 : Nat} {x1 : Int32} {cc : Int32} {tw : Int32} (e1 : h[r0]? = some (oK r0 cc tw)) (k1 : cc < (iZ 24) → mWp mCd 12 (60, [some (.ref r0), some (.int x1), none, none, none], [], h, 0, 0) Q) (k2 : ¬ (cc < (iZ 24)) → mWp mCd 12 (59, [none, none, none, none, none], [], h, 0, 0) Q) : mWp mCd 12 (50, [some (.ref r0), some (.int x1), none, none, none], [], h, 0, 0) Q := by
  refine mWp_run 1 (t' := (51, [some (.ref r0), some (.int x1), none, none, none], [.ref r0], h, 0, 0)) rfl ?_
  refine mWp_gf rfl e1 rfl rfl ?_
  refine mWp_run 1 (t' := (56, [some (.ref r0), some (.int x1), none, none, none], [.int (iZ 24), .int cc], h, 0, 0)) rfl ?_
  exact mWp_ic (P := fun x y => x < y) (a := cc) (b := iZ 24) rfl k1 (fun q => mWp_weak (mLe_n (mLe_n (mLe_n (mLe_n (mLe_n mLe_0))))) (k2 q))
theorem b12_40 {h : mH} {Q : Option Value → mH → Prop} {r0 : Nat} {x1 : Int32}  (k : mWp mCd 12 (45, [some (.ref r0), some (.int x1), none, none, none], [.int (iZ 1)], h, 0, 0) Q) : mWp mCd 12 (40, [some (.ref r0), some (.int x1), none, none, none], [], h, 0, 0) Q := by
  refine mWp_run 2 (t' := (45, [some (.ref r0), some (.int x1), none, none, none], [.int (iZ 1)], h, 0, 0)) rfl ?_
  exact k
theorem b12_60 {h : mH} {Q : Option Value → mH → Prop} {r0 : Nat} {x1 : Int32} {cc : Int32} {tw : Int32} {g101 : Nat → Int32} {g102 : Nat → Int32} (e1 : h[r0]? = some (oK r0 cc tw)) (e2 : h[((r0 + 1))]? = some (aI 96 g101)) (e3 : 5 ≤ (r0 + 1)) (e4 : 5 ≤ (r0 + 1)) (e5 : ¬ ((x1 * (iZ 4)) < 0 ∨ ((x1 * (iZ 4)) + (iZ 4)) < 0 ∨ ((cc - x1) * (iZ 4)) < 0 ∨ ¬ ((x1 * (iZ 4)).toNatClampNeg + ((cc - x1) * (iZ 4)).toNatClampNeg ≤ 96 ∧ ((x1 * (iZ 4)) + (iZ 4)).toNatClampNeg + ((cc - x1) * (iZ 4)).toNatClampNeg ≤ 96))) (e6 : h[((r0 + 2))]? = some (aI 4 g102)) (e7 : 5 ≤ (r0 + 2)) (e8 : 5 ≤ (r0 + 1)) (e9 : ¬ ((iZ 0) < 0 ∨ (x1 * (iZ 4)) < 0 ∨ (iZ 4) < 0 ∨ ¬ ((iZ 0).toNatClampNeg + (iZ 4).toNatClampNeg ≤ 4 ∧ (x1 * (iZ 4)).toNatClampNeg + (iZ 4).toNatClampNeg ≤ 96))) (k : Q none (((h.set (r0 + 1) (aI 96 (va_cpy g101 g101 (x1 * (iZ 4)).toNatClampNeg ((x1 * (iZ 4)) + (iZ 4)).toNatClampNeg ((cc - x1) * (iZ 4)).toNatClampNeg))).set (r0 + 1) (aI 96 (va_cpy g102 (va_cpy g101 g101 (x1 * (iZ 4)).toNatClampNeg ((x1 * (iZ 4)) + (iZ 4)).toNatClampNeg ((cc - x1) * (iZ 4)).toNatClampNeg) (iZ 0).toNatClampNeg (x1 * (iZ 4)).toNatClampNeg (iZ 4).toNatClampNeg))).set r0 (oK r0 (cc + (iZ 1)) tw))) : mWp mCd 12 (60, [some (.ref r0), some (.int x1), none, none, none], [], h, 0, 0) Q := by
  refine mWp_run 5 (t' := (65, [some (.ref r0), some (.int x1), none, some (.int (x1 * (iZ 4))), none], [.ref r0], h, 0, 0)) rfl ?_
  refine mWp_gf rfl e1 rfl rfl ?_
  refine mWp_run 6 (t' := (75, [some (.ref r0), some (.int x1), none, some (.int (x1 * (iZ 4))), some (.int ((cc - x1) * (iZ 4)))], [.ref r0], h, 0, 0)) rfl ?_
  refine mWp_gf rfl e1 rfl rfl ?_
  refine mWp_run 2 (t' := (80, [some (.ref r0), some (.int x1), none, some (.int (x1 * (iZ 4))), some (.int ((cc - x1) * (iZ 4)))], [.ref r0, .int (x1 * (iZ 4)), .ref (r0 + 1)], h, 0, 0)) rfl ?_
  refine mWp_gf rfl e1 rfl rfl ?_
  refine mWp_run 4 (t' := (88, [some (.ref r0), some (.int x1), none, some (.int (x1 * (iZ 4))), some (.int ((cc - x1) * (iZ 4)))], [.int ((cc - x1) * (iZ 4)), .int ((x1 * (iZ 4)) + (iZ 4)), .ref (r0 + 1), .int (x1 * (iZ 4)), .ref (r0 + 1)], h, 0, 0)) rfl ?_
  refine mWp_cp (t := 0) rfl e3 e4 e2 e2 rfl e5 ?_
  show mWp mCd 12 (91, [some (.ref r0), some (.int x1), none, some (.int (x1 * (iZ 4))), some (.int ((cc - x1) * (iZ 4)))], [], (h.set (r0 + 1) (aI 96 (va_cpy g101 g101 (x1 * (iZ 4)).toNatClampNeg ((x1 * (iZ 4)) + (iZ 4)).toNatClampNeg ((cc - x1) * (iZ 4)).toNatClampNeg))), 0, 0) Q
  refine mWp_run 1 (t' := (92, [some (.ref r0), some (.int x1), none, some (.int (x1 * (iZ 4))), some (.int ((cc - x1) * (iZ 4)))], [.ref r0], (h.set (r0 + 1) (aI 96 (va_cpy g101 g101 (x1 * (iZ 4)).toNatClampNeg ((x1 * (iZ 4)) + (iZ 4)).toNatClampNeg ((cc - x1) * (iZ 4)).toNatClampNeg))), 0, 0)) rfl ?_
  refine mWp_gf rfl (mGn (by omega) e1) rfl rfl ?_
  refine mWp_run 2 (t' := (97, [some (.ref r0), some (.int x1), none, some (.int (x1 * (iZ 4))), some (.int ((cc - x1) * (iZ 4)))], [.ref r0, .int (iZ 0), .ref (r0 + 2)], (h.set (r0 + 1) (aI 96 (va_cpy g101 g101 (x1 * (iZ 4)).toNatClampNeg ((x1 * (iZ 4)) + (iZ 4)).toNatClampNeg ((cc - x1) * (iZ 4)).toNatClampNeg))), 0, 0)) rfl ?_
  refine mWp_gf rfl (mGn (by omega) e1) rfl rfl ?_
  refine mWp_run 2 (t' := (102, [some (.ref r0), some (.int x1), none, some (.int (x1 * (iZ 4))), some (.int ((cc - x1) * (iZ 4)))], [.int (iZ 4), .int (x1 * (iZ 4)), .ref (r0 + 1), .int (iZ 0), .ref (r0 + 2)], (h.set (r0 + 1) (aI 96 (va_cpy g101 g101 (x1 * (iZ 4)).toNatClampNeg ((x1 * (iZ 4)) + (iZ 4)).toNatClampNeg ((cc - x1) * (iZ 4)).toNatClampNeg))), 0, 0)) rfl ?_
  refine mWp_cp (t := 0) rfl e7 e8 (mGn (by omega) e6) (mGs e2) rfl e9 ?_
  show mWp mCd 12 (105, [some (.ref r0), some (.int x1), none, some (.int (x1 * (iZ 4))), some (.int ((cc - x1) * (iZ 4)))], [], ((h.set (r0 + 1) (aI 96 (va_cpy g101 g101 (x1 * (iZ 4)).toNatClampNeg ((x1 * (iZ 4)) + (iZ 4)).toNatClampNeg ((cc - x1) * (iZ 4)).toNatClampNeg))).set (r0 + 1) (aI 96 (va_cpy g102 (va_cpy g101 g101 (x1 * (iZ 4)).toNatClampNeg ((x1 * (iZ 4)) + (iZ 4)).toNatClampNeg ((cc - x1) * (iZ 4)).toNatClampNeg) (iZ 0).toNatClampNeg (x1 * (iZ 4)).toNatClampNeg (iZ 4).toNatClampNeg))), 0, 0) Q
  refine mWp_run 2 (t' := (107, [some (.ref r0), some (.int x1), none, some (.int (x1 * (iZ 4))), some (.int ((cc - x1) * (iZ 4)))], [.ref r0, .ref r0], ((h.set (r0 + 1) (aI 96 (va_cpy g101 g101 (x1 * (iZ 4)).toNatClampNeg ((x1 * (iZ 4)) + (iZ 4)).toNatClampNeg ((cc - x1) * (iZ 4)).toNatClampNeg))).set (r0 + 1) (aI 96 (va_cpy g102 (va_cpy g101 g101 (x1 * (iZ 4)).toNatClampNeg ((x1 * (iZ 4)) + (iZ 4)).toNatClampNeg ((cc - x1) * (iZ 4)).toNatClampNeg) (iZ 0).toNatClampNeg (x1 * (iZ 4)).toNatClampNeg (iZ 4).toNatClampNeg))), 0, 0)) rfl ?_
  refine mWp_gf rfl (mGn (by omega) (mGn (by omega) e1)) rfl rfl ?_
  refine mWp_run 2 (t' := (112, [some (.ref r0), some (.int x1), none, some (.int (x1 * (iZ 4))), some (.int ((cc - x1) * (iZ 4)))], [.int (cc + (iZ 1)), .ref r0], ((h.set (r0 + 1) (aI 96 (va_cpy g101 g101 (x1 * (iZ 4)).toNatClampNeg ((x1 * (iZ 4)) + (iZ 4)).toNatClampNeg ((cc - x1) * (iZ 4)).toNatClampNeg))).set (r0 + 1) (aI 96 (va_cpy g102 (va_cpy g101 g101 (x1 * (iZ 4)).toNatClampNeg ((x1 * (iZ 4)) + (iZ 4)).toNatClampNeg ((cc - x1) * (iZ 4)).toNatClampNeg) (iZ 0).toNatClampNeg (x1 * (iZ 4)).toNatClampNeg (iZ 4).toNatClampNeg))), 0, 0)) rfl ?_
  refine mWp_pf rfl (mGn (by omega) (mGn (by omega) e1)) rfl rfl rfl ?_
  show mWp mCd 12 (115, [some (.ref r0), some (.int x1), none, some (.int (x1 * (iZ 4))), some (.int ((cc - x1) * (iZ 4)))], [], (((h.set (r0 + 1) (aI 96 (va_cpy g101 g101 (x1 * (iZ 4)).toNatClampNeg ((x1 * (iZ 4)) + (iZ 4)).toNatClampNeg ((cc - x1) * (iZ 4)).toNatClampNeg))).set (r0 + 1) (aI 96 (va_cpy g102 (va_cpy g101 g101 (x1 * (iZ 4)).toNatClampNeg ((x1 * (iZ 4)) + (iZ 4)).toNatClampNeg ((cc - x1) * (iZ 4)).toNatClampNeg) (iZ 0).toNatClampNeg (x1 * (iZ 4)).toNatClampNeg (iZ 4).toNatClampNeg))).set r0 (oK r0 (cc + (iZ 1)) tw)), 0, 0) Q
  exact mWp_r (v := none) rfl k
theorem b13_0 {h : mH} {Q : Option Value → mH → Prop} {r0 : Nat} {x1 : Int32}  (k : mWp mCd 13 (2, [some (.ref r0), some (.int x1), some (.int (iZ 0)), none], [], h, 0, 0) Q) : mWp mCd 13 (0, [some (.ref r0), some (.int x1), none, none], [], h, 0, 0) Q := by
  refine mWp_run 2 (t' := (2, [some (.ref r0), some (.int x1), some (.int (iZ 0)), none], [], h, 0, 0)) rfl ?_
  exact k
theorem b13_2 {h : mH} {Q : Option Value → mH → Prop} {r0 : Nat} {x1 : Int32} {x2 : Int32}  (k1 : (iZ 4) ≤ x2 → mWp mCd 13 (35, [none, none, none, none], [], h, 0, 0) Q) (k2 : ¬ ((iZ 4) ≤ x2) → mWp mCd 13 (7, [some (.ref r0), some (.int x1), some (.int x2), none], [], h, 0, 0) Q) : mWp mCd 13 (2, [some (.ref r0), some (.int x1), some (.int x2), none], [], h, 0, 0) Q := by
  refine mWp_run 2 (t' := (4, [some (.ref r0), some (.int x1), some (.int x2), none], [.int (iZ 4), .int x2], h, 0, 0)) rfl ?_
  exact mWp_ic (P := fun x y => y ≤ x) (a := x2) (b := iZ 4) rfl (fun q => mWp_weak (mLe_n (mLe_n (mLe_n (mLe_n mLe_0)))) (k1 q)) k2
theorem b13_35 {h : mH} {Q : Option Value → mH → Prop}   (k : Q (some (.int (iZ 0))) h) : mWp mCd 13 (35, [none, none, none, none], [], h, 0, 0) Q := by
  refine mWp_run 1 (t' := (36, [none, none, none, none], [.int (iZ 0)], h, 0, 0)) rfl ?_
  exact mWp_r (v := (some (.int (iZ 0)))) rfl k
theorem b13_7 {h : mH} {Q : Option Value → mH → Prop} {r0 : Nat} {x1 : Int32} {x2 : Int32} {cc : Int32} {tw : Int32} {g101 : Nat → Int32} (e1 : h[r0]? = some (oK r0 cc tw)) (e2 : h[((r0 + 2))]? = some (aI 4 g101)) (e3 : ¬ (x2 < 0 ∨ 4 ≤ x2.toNatClampNeg)) (k : mCt mCd 1 [.ref r0, .int x1, .int x2] h (fun rv hv => mWp mCd 13 (19, [some (.ref r0), some (.int x1), some (.int x2), none], rv.toList ++ [.int (g101 x2.toNatClampNeg)], hv, 0, 0) Q)) : mWp mCd 13 (7, [some (.ref r0), some (.int x1), some (.int x2), none], [], h, 0, 0) Q := by
  refine mWp_run 1 (t' := (8, [some (.ref r0), some (.int x1), some (.int x2), none], [.ref r0], h, 0, 0)) rfl ?_
  refine mWp_gf rfl e1 rfl rfl ?_
  refine mWp_run 1 (t' := (12, [some (.ref r0), some (.int x1), some (.int x2), none], [.int x2, .ref (r0 + 2)], h, 0, 0)) rfl ?_
  refine mWp_ial rfl e2 e3 ?_
  refine mWp_run 3 (t' := (16, [some (.ref r0), some (.int x1), some (.int x2), none], [.int x2, .int x1, .ref r0, .int (g101 x2.toNatClampNeg)], h, 0, 0)) rfl ?_
  exact mWp_iv rfl rfl e1 rfl rfl rfl rfl k
theorem b13_19 {h : mH} {Q : Option Value → mH → Prop} {r0 : Nat} {x1 : Int32} {x2 : Int32} {u0 : Int32} {u1 : Int32}  (k : mCt mCd 216 [.int u1, .int u0] h (fun rv hv => mWp mCd 13 (22, [some (.ref r0), some (.int x1), some (.int x2), none], rv.toList ++ [], hv, 0, 0) Q)) : mWp mCd 13 (19, [some (.ref r0), some (.int x1), some (.int x2), none], [.int u0, .int u1], h, 0, 0) Q := by
  exact mWp_is rfl rfl rfl rfl rfl k
theorem b13_22 {h : mH} {Q : Option Value → mH → Prop} {r0 : Nat} {x1 : Int32} {x2 : Int32} {u0 : Int32}  (k1 : u0 = 0 → mWp mCd 13 (29, [some (.ref r0), some (.int x1), some (.int x2), none], [], h, 0, 0) Q) (k2 : ¬ (u0 = 0) → mWp mCd 13 (27, [none, none, none, some (.int u0)], [], h, 0, 0) Q) : mWp mCd 13 (22, [some (.ref r0), some (.int x1), some (.int x2), none], [.int u0], h, 0, 0) Q := by
  refine mWp_run 2 (t' := (24, [some (.ref r0), some (.int x1), some (.int x2), some (.int u0)], [.int u0], h, 0, 0)) rfl ?_
  exact mWp_if (P := fun x => x = 0) (a := u0) rfl (fun q => mWp_weak (mLe_s (mLe_s (mLe_s (mLe_n mLe_0)))) (k1 q)) (fun q => mWp_weak (mLe_n (mLe_n (mLe_n (mLe_s mLe_0)))) (k2 q))
theorem b13_29 {h : mH} {Q : Option Value → mH → Prop} {r0 : Nat} {x1 : Int32} {x2 : Int32}  (k : mWp mCd 13 (2, [some (.ref r0), some (.int x1), some (.int (x2 + iZ 1)), none], [], h, 0, 0) Q) : mWp mCd 13 (29, [some (.ref r0), some (.int x1), some (.int x2), none], [], h, 0, 0) Q := by
  refine mWp_run 2 (t' := (2, [some (.ref r0), some (.int x1), some (.int (x2 + iZ 1)), none], [], h, 0, 0)) rfl ?_
  exact k
theorem b13_27 {h : mH} {Q : Option Value → mH → Prop} {x3 : Int32}  (k : Q (some (.int x3)) h) : mWp mCd 13 (27, [none, none, none, some (.int x3)], [], h, 0, 0) Q := by
  refine mWp_run 1 (t' := (28, [none, none, none, some (.int x3)], [.int x3], h, 0, 0)) rfl ?_
  exact mWp_r (v := (some (.int x3))) rfl k
theorem b14_0 {h : mH} {Q : Option Value → mH → Prop} {r0 : Nat} {x1 : Int32} {x2 : Int32} {x3 : Int32}  (k : mCt mCd 37 [.ref r0, .int x1, .int x2] h (fun rv hv => mWp mCd 14 (6, [some (.ref r0), none, none, some (.int x3), none], rv.toList ++ [], hv, 8, 152) Q)) : mWp mCd 14 (0, [some (.ref r0), some (.int x1), some (.int x2), some (.int x3), none], [], h, 0, 0) Q := by
  refine mWp_run 3 (t' := (3, [some (.ref r0), some (.int x1), some (.int x2), some (.int x3), none], [.int x2, .int x1, .ref r0], h, 0, 0)) rfl ?_
  exact mWp_ii rfl rfl rfl rfl rfl (mCt_mono k (fun rv hv y => mWp_weak (mLe_s (mLe_n (mLe_n (mLe_s (mLe_n mLe_0))))) y))
theorem b14_6 {h : mH} {Q : Option Value → mH → Prop} {r0 : Nat} {x3 : Int32}  (k : mWp mCd 14 (9, [some (.ref r0), none, none, some (.int x3), some (.int (iZ 1))], [], h, 8, 152) Q) : mWp mCd 14 (6, [some (.ref r0), none, none, some (.int x3), none], [], h, 8, 152) Q := by
  refine mWp_run 2 (t' := (9, [some (.ref r0), none, none, some (.int x3), some (.int (iZ 1))], [], h, 8, 152)) rfl ?_
  exact k
theorem b14_9 {h : mH} {Q : Option Value → mH → Prop} {r0 : Nat} {x3 : Int32} {x4 : Int32} {ci101 : Nat} {fs102 : List Value} (e1 : h[r0]? = some (.inr (ci101, fs102))) (e2 : ci101 = 1) (k : mCt mCd 42 [.ref r0] h (fun rv hv => mWp mCd 14 (15, [some (.ref r0), none, none, some (.int x3), some (.int x4)], rv.toList ++ [.int x4], hv, 8, 152) Q)) : mWp mCd 14 (9, [some (.ref r0), none, none, some (.int x3), some (.int x4)], [], h, 8, 152) Q := by
  refine mWp_run 2 (t' := (12, [some (.ref r0), none, none, some (.int x3), some (.int x4)], [.ref r0, .int x4], h, 8, 152)) rfl ?_
  exact mWp_iv rfl rfl e1 (by rw [e2]; rfl) rfl rfl rfl k
theorem b14_15 {h : mH} {Q : Option Value → mH → Prop} {r0 : Nat} {x3 : Int32} {x4 : Int32} {u0 : Int32} {u1 : Int32}  (k1 : u0 < u1 → mWp mCd 14 (49, [none, none, none, none, none], [], h, 8, 152) Q) (k2 : ¬ (u0 < u1) → mWp mCd 14 (18, [some (.ref r0), none, none, some (.int x3), some (.int x4)], [], h, 8, 152) Q) : mWp mCd 14 (15, [some (.ref r0), none, none, some (.int x3), some (.int x4)], [.int u0, .int u1], h, 8, 152) Q := by
  exact mWp_ic (P := fun x y => y < x) (a := u1) (b := u0) rfl (fun q => mWp_weak (mLe_n (mLe_n (mLe_n (mLe_n (mLe_n mLe_0))))) (k1 q)) k2
theorem b14_49 {h : mH} {Q : Option Value → mH → Prop}   (k : Q none h) : mWp mCd 14 (49, [none, none, none, none, none], [], h, 8, 152) Q := by
  exact mWp_r (v := none) rfl k
theorem b14_18 {h : mH} {Q : Option Value → mH → Prop} {r0 : Nat} {x3 : Int32} {x4 : Int32}  (k : mCt mCd 217 [.int (x4 &&& x3)] h (fun rv hv => mWp mCd 14 (28, [some (.ref r0), none, none, some (.int x3), some (.int x4)], rv.toList ++ [.int x4, .ref r0], hv, 8, 152) Q)) : mWp mCd 14 (18, [some (.ref r0), none, none, some (.int x3), some (.int x4)], [], h, 8, 152) Q := by
  refine mWp_run 5 (t' := (25, [some (.ref r0), none, none, some (.int x3), some (.int x4)], [.int (x4 &&& x3), .int x4, .ref r0], h, 8, 152)) rfl ?_
  exact mWp_is rfl rfl rfl rfl rfl k
theorem b14_28 {h : mH} {Q : Option Value → mH → Prop} {r0 : Nat} {x3 : Int32} {x4 : Int32} {u0 : Int32} {u1 : Int32} {q2 : Nat}  (k : mCt mCd 217 [.int (x4 &&& (x3 ^^^ (iZ (-1))))] h (fun rv hv => mWp mCd 14 (37, [some (.ref r0), none, none, some (.int x3), some (.int x4)], rv.toList ++ [.int u0, .int u1, .ref q2], hv, 8, 152) Q)) : mWp mCd 14 (28, [some (.ref r0), none, none, some (.int x3), some (.int x4)], [.int u0, .int u1, .ref q2], h, 8, 152) Q := by
  refine mWp_run 5 (t' := (34, [some (.ref r0), none, none, some (.int x3), some (.int x4)], [.int (x4 &&& (x3 ^^^ (iZ (-1)))), .int u0, .int u1, .ref q2], h, 8, 152)) rfl ?_
  exact mWp_is rfl rfl rfl rfl rfl k
theorem b14_37 {h : mH} {Q : Option Value → mH → Prop} {r0 : Nat} {x3 : Int32} {x4 : Int32} {u0 : Int32} {u1 : Int32} {u2 : Int32} {q3 : Nat}  (k : mCt mCd 220 [.int u1, .int u0] h (fun rv hv => mWp mCd 14 (40, [some (.ref r0), none, none, some (.int x3), some (.int x4)], rv.toList ++ [.int u2, .ref q3], hv, 8, 152) Q)) : mWp mCd 14 (37, [some (.ref r0), none, none, some (.int x3), some (.int x4)], [.int u0, .int u1, .int u2, .ref q3], h, 8, 152) Q := by
  exact mWp_is rfl rfl rfl rfl rfl k
theorem b14_40 {h : mH} {Q : Option Value → mH → Prop} {r0 : Nat} {x3 : Int32} {x4 : Int32} {u0 : Int32} {u1 : Int32} {q2 : Nat} {ci101 : Nat} {fs102 : List Value} (e1 : h[q2]? = some (.inr (ci101, fs102))) (e2 : ci101 = 1) (k : mCt mCd 48 [.ref q2, .int u1, .int u0] h (fun rv hv => mWp mCd 14 (43, [some (.ref r0), none, none, some (.int x3), some (.int x4)], rv.toList ++ [], hv, 8, 152) Q)) : mWp mCd 14 (40, [some (.ref r0), none, none, some (.int x3), some (.int x4)], [.int u0, .int u1, .ref q2], h, 8, 152) Q := by
  exact mWp_iv rfl rfl e1 (by rw [e2]; rfl) rfl rfl rfl k
theorem b14_43 {h : mH} {Q : Option Value → mH → Prop} {r0 : Nat} {x3 : Int32} {x4 : Int32}  (k : mWp mCd 14 (9, [some (.ref r0), none, none, some (.int x3), some (.int (x4 + iZ 1))], [], h, 8, 152) Q) : mWp mCd 14 (43, [some (.ref r0), none, none, some (.int x3), some (.int x4)], [], h, 8, 152) Q := by
  refine mWp_run 2 (t' := (9, [some (.ref r0), none, none, some (.int x3), some (.int (x4 + iZ 1))], [], h, 8, 152)) rfl ?_
  exact k
theorem b15_0 {h : mH} {Q : Option Value → mH → Prop} {r0 : Nat}  (k : Q (some (.int (iZ 3))) h) : mWp mCd 15 (0, [some (.ref r0)], [], h, 0, 0) Q := by
  refine mWp_run 1 (t' := (1, [some (.ref r0)], [.int (iZ 3)], h, 0, 0)) rfl ?_
  exact mWp_r (v := (some (.int (iZ 3)))) rfl k
theorem b16_0 {h : mH} {Q : Option Value → mH → Prop} {r0 : Nat} {x1 : Int32} {r2 : Nat} {ran : Int32} (e1 : h[r2]? = some (oT ran)) (k : mCt mCd 71 [.ref r2, .int (iZ 40)] h (fun rv hv => mWp mCd 16 (6, [some (.ref r0), some (.int x1), some (.ref r2), none], rv.toList ++ [], hv, 0, 0) Q)) : mWp mCd 16 (0, [some (.ref r0), some (.int x1), some (.ref r2), none], [], h, 0, 0) Q := by
  refine mWp_run 2 (t' := (3, [some (.ref r0), some (.int x1), some (.ref r2), none], [.int (iZ 40), .ref r2], h, 0, 0)) rfl ?_
  exact mWp_iv rfl rfl e1 rfl rfl rfl rfl k
theorem b16_6 {h : mH} {Q : Option Value → mH → Prop} {r0 : Nat} {x1 : Int32} {r2 : Nat} {num : Int32} {n : Int32} {fd : Int32} (e1 : h[r0]? = some (oV 1 r0 num n fd)) (k : mCt mCd 39 [.ref r0, .int x1, .ref r2] h (fun rv hv => mWp mCd 16 (12, [some (.ref r0), some (.int x1), some (.ref r2), none], rv.toList ++ [], hv, 0, 0) Q)) : mWp mCd 16 (6, [some (.ref r0), some (.int x1), some (.ref r2), none], [], h, 0, 0) Q := by
  refine mWp_run 3 (t' := (9, [some (.ref r0), some (.int x1), some (.ref r2), none], [.ref r2, .int x1, .ref r0], h, 0, 0)) rfl ?_
  exact mWp_iv rfl rfl e1 rfl rfl rfl rfl k
theorem b16_12 {h : mH} {Q : Option Value → mH → Prop} {r0 : Nat} {x1 : Int32} {r2 : Nat} {u0 : Int32} {num : Int32} {n : Int32} {fd : Int32} (e1 : h[r0]? = some (oV 1 r0 num n fd)) (k : mCt mCd 41 [.ref r0, .int (x1 + (iZ 1)), .ref r2] h (fun rv hv => mWp mCd 16 (22, [none, none, none, none], rv.toList ++ [.int u0], hv, 0, 0) Q)) : mWp mCd 16 (12, [some (.ref r0), some (.int x1), some (.ref r2), none], [.int u0], h, 0, 0) Q := by
  refine mWp_run 7 (t' := (19, [some (.ref r0), some (.int x1), some (.ref r2), some (.int u0)], [.ref r2, .int (x1 + (iZ 1)), .ref r0, .int u0], h, 0, 0)) rfl ?_
  exact mWp_iv rfl rfl e1 rfl rfl rfl rfl (mCt_mono k (fun rv hv y => mWp_weak (mLe_n (mLe_n (mLe_n (mLe_n mLe_0)))) y))
theorem b16_22 {h : mH} {Q : Option Value → mH → Prop} {u0 : Int32} {u1 : Int32}  (k : Q (some (.int (u1 - u0))) h) : mWp mCd 16 (22, [none, none, none, none], [.int u0, .int u1], h, 0, 0) Q := by
  refine mWp_run 1 (t' := (23, [none, none, none, none], [.int (u1 - u0)], h, 0, 0)) rfl ?_
  exact mWp_r (v := (some (.int (u1 - u0)))) rfl k
theorem b17_0 {h : mH} {Q : Option Value → mH → Prop} {r0 : Nat} {x1 : Int32} {x2 : Int32}  (k : mCt mCd 37 [.ref r0, .int x1, .int x2] h (fun rv hv => mWp mCd 17 (6, [none, none, none], rv.toList ++ [], hv, 8, 152) Q)) : mWp mCd 17 (0, [some (.ref r0), some (.int x1), some (.int x2)], [], h, 0, 0) Q := by
  refine mWp_run 3 (t' := (3, [some (.ref r0), some (.int x1), some (.int x2)], [.int x2, .int x1, .ref r0], h, 0, 0)) rfl ?_
  exact mWp_ii rfl rfl rfl rfl rfl (mCt_mono k (fun rv hv y => mWp_weak (mLe_n (mLe_n (mLe_n mLe_0))) y))
theorem b17_6 {h : mH} {Q : Option Value → mH → Prop}   (k : Q none h) : mWp mCd 17 (6, [none, none, none], [], h, 8, 152) Q := by
  exact mWp_r (v := none) rfl k
theorem b18_0 {h : mH} {Q : Option Value → mH → Prop} {r0 : Nat}  (k : Q (some (.int (iZ 4))) h) : mWp mCd 18 (0, [some (.ref r0)], [], h, 0, 0) Q := by
  refine mWp_run 1 (t' := (1, [some (.ref r0)], [.int (iZ 4)], h, 0, 0)) rfl ?_
  exact mWp_r (v := (some (.int (iZ 4)))) rfl k
theorem b19_0 {h : mH} {Q : Option Value → mH → Prop} {r0 : Nat} {x1 : Int32} {r2 : Nat} {ran : Int32} (e1 : h[r2]? = some (oT ran)) (k : mCt mCd 71 [.ref r2, .int (iZ 50)] h (fun rv hv => mWp mCd 19 (6, [some (.ref r0), some (.int x1), some (.ref r2)], rv.toList ++ [], hv, 0, 0) Q)) : mWp mCd 19 (0, [some (.ref r0), some (.int x1), some (.ref r2)], [], h, 0, 0) Q := by
  refine mWp_run 2 (t' := (3, [some (.ref r0), some (.int x1), some (.ref r2)], [.int (iZ 50), .ref r2], h, 0, 0)) rfl ?_
  exact mWp_iv rfl rfl e1 rfl rfl rfl rfl k
theorem b19_6 {h : mH} {Q : Option Value → mH → Prop} {r0 : Nat} {x1 : Int32} {r2 : Nat} {num : Int32} {n : Int32} {fd : Int32} (e1 : h[r0]? = some (oV 2 r0 num n fd)) (k : mCt mCd 39 [.ref r0, .int (x1 - n), .ref r2] h (fun rv hv => mWp mCd 19 (17, [none, none, none], rv.toList ++ [], hv, 0, 0) Q)) : mWp mCd 19 (6, [some (.ref r0), some (.int x1), some (.ref r2)], [], h, 0, 0) Q := by
  refine mWp_run 3 (t' := (9, [some (.ref r0), some (.int x1), some (.ref r2)], [.ref r0, .int x1, .ref r0], h, 0, 0)) rfl ?_
  refine mWp_gf rfl e1 rfl rfl ?_
  refine mWp_run 2 (t' := (14, [some (.ref r0), some (.int x1), some (.ref r2)], [.ref r2, .int (x1 - n), .ref r0], h, 0, 0)) rfl ?_
  exact mWp_iv rfl rfl e1 rfl rfl rfl rfl (mCt_mono k (fun rv hv y => mWp_weak (mLe_n (mLe_n (mLe_n mLe_0))) y))
theorem b19_17 {h : mH} {Q : Option Value → mH → Prop} {u0 : Int32}  (k : Q (some (.int u0)) h) : mWp mCd 19 (17, [none, none, none], [.int u0], h, 0, 0) Q := by
  exact mWp_r (v := (some (.int u0))) rfl k
theorem b20_0 {h : mH} {Q : Option Value → mH → Prop} {r0 : Nat} {x1 : Int32} {r2 : Nat} {ran : Int32} (e1 : h[r2]? = some (oT ran)) (k : mCt mCd 71 [.ref r2, .int (iZ 51)] h (fun rv hv => mWp mCd 20 (6, [some (.ref r0), some (.int x1), some (.ref r2), none], rv.toList ++ [], hv, 0, 0) Q)) : mWp mCd 20 (0, [some (.ref r0), some (.int x1), some (.ref r2), none], [], h, 0, 0) Q := by
  refine mWp_run 2 (t' := (3, [some (.ref r0), some (.int x1), some (.ref r2), none], [.int (iZ 51), .ref r2], h, 0, 0)) rfl ?_
  exact mWp_iv rfl rfl e1 rfl rfl rfl rfl k
theorem b20_6 {h : mH} {Q : Option Value → mH → Prop} {r0 : Nat} {x1 : Int32} {r2 : Nat} {num : Int32} {n : Int32} {fd : Int32} (e1 : h[r0]? = some (oV 2 r0 num n fd)) (k : mCt mCd 40 [.ref r0, .int x1, .ref r2] h (fun rv hv => mWp mCd 20 (12, [some (.ref r0), some (.int x1), some (.ref r2), none], rv.toList ++ [], hv, 0, 0) Q)) : mWp mCd 20 (6, [some (.ref r0), some (.int x1), some (.ref r2), none], [], h, 0, 0) Q := by
  refine mWp_run 3 (t' := (9, [some (.ref r0), some (.int x1), some (.ref r2), none], [.ref r2, .int x1, .ref r0], h, 0, 0)) rfl ?_
  exact mWp_iv rfl rfl e1 rfl rfl rfl rfl k
theorem b20_12 {h : mH} {Q : Option Value → mH → Prop} {r0 : Nat} {x1 : Int32} {r2 : Nat} {u0 : Int32} {num : Int32} {n : Int32} {fd : Int32} (e1 : h[r0]? = some (oV 2 r0 num n fd)) (k : mCt mCd 39 [.ref r0, .int x1, .ref r2] h (fun rv hv => mWp mCd 20 (20, [none, none, none, none], rv.toList ++ [.int u0], hv, 0, 0) Q)) : mWp mCd 20 (12, [some (.ref r0), some (.int x1), some (.ref r2), none], [.int u0], h, 0, 0) Q := by
  refine mWp_run 5 (t' := (17, [some (.ref r0), some (.int x1), some (.ref r2), some (.int u0)], [.ref r2, .int x1, .ref r0, .int u0], h, 0, 0)) rfl ?_
  exact mWp_iv rfl rfl e1 rfl rfl rfl rfl (mCt_mono k (fun rv hv y => mWp_weak (mLe_n (mLe_n (mLe_n (mLe_n mLe_0)))) y))
theorem b20_20 {h : mH} {Q : Option Value → mH → Prop} {u0 : Int32} {u1 : Int32}  (k : Q (some (.int (u1 ^^^ u0))) h) : mWp mCd 20 (20, [none, none, none, none], [.int u0, .int u1], h, 0, 0) Q := by
  refine mWp_run 1 (t' := (21, [none, none, none, none], [.int (u1 ^^^ u0)], h, 0, 0)) rfl ?_
  exact mWp_r (v := (some (.int (u1 ^^^ u0)))) rfl k
theorem b21_0 {h : mH} {Q : Option Value → mH → Prop} {r0 : Nat} {ci101 : Nat} {fs102 : List Value} (e1 : h[r0]? = some (.inr (ci101, fs102))) (e2 : ([3] : List Nat).contains ci101 = true) (e3 : Nat.blt 0 fs102.length = true) (k : mWp mCd 21 (14, [none], [.ref (((h.set r0 (.inr (ci101, fs102.set 0 (.int (iZ 0)))))).length), .ref r0], ((h.set r0 (.inr (ci101, fs102.set 0 (.int (iZ 0))))) ++ [aL 25 (fun _ => 0)]), 1, 25) Q) : mWp mCd 21 (0, [some (.ref r0)], [], h, 0, 0) Q := by
  refine mWp_run 1 (t' := (1, [some (.ref r0)], [.ref r0], h, 0, 0)) rfl ?_
  refine mWp_run 3 (t' := (6, [some (.ref r0)], [.int (iZ 0), .ref r0], h, 0, 0)) rfl ?_
  refine mWp_pf rfl e1 e2 rfl e3 ?_
  show mWp mCd 21 (9, [some (.ref r0)], [], (h.set r0 (.inr (ci101, fs102.set 0 (.int (iZ 0))))), 0, 0) Q
  refine mWp_run 2 (t' := (12, [some (.ref r0)], [.int (iZ 25), .ref r0], (h.set r0 (.inr (ci101, fs102.set 0 (.int (iZ 0))))), 0, 0)) rfl ?_
  refine mWp_run 1 (t' := (14, [some (.ref r0)], [.ref (((h.set r0 (.inr (ci101, fs102.set 0 (.int (iZ 0)))))).length), .ref r0], ((h.set r0 (.inr (ci101, fs102.set 0 (.int (iZ 0))))) ++ [aL 25 (fun _ => 0)]), 1, 25)) rfl ?_
  exact mWp_weak (mLe_n mLe_0) k
theorem b21_14 {h : mH} {Q : Option Value → mH → Prop} {q0 : Nat} {q1 : Nat} {ci101 : Nat} {fs102 : List Value} (e1 : h[q1]? = some (.inr (ci101, fs102))) (e2 : ([3] : List Nat).contains ci101 = true) (e3 : Nat.blt 1 fs102.length = true) (k : Q none (h.set q1 (.inr (ci101, fs102.set 1 (.ref q0))))) : mWp mCd 21 (14, [none], [.ref q0, .ref q1], h, 1, 25) Q := by
  refine mWp_pf rfl e1 e2 rfl e3 ?_
  show mWp mCd 21 (17, [none], [], (h.set q1 (.inr (ci101, fs102.set 1 (.ref q0)))), 1, 25) Q
  exact mWp_r (v := none) rfl k
theorem b22_0 {h : mH} {Q : Option Value → mH → Prop} {r0 : Nat} {r1 : Nat} {sz : Int32} (e1 : h[r0]? = some (oP r0 sz)) (k : mWp mCd 22 (7, [some (.ref r0), some (.ref r1), some (.int (iZ 1)), none], [], (h.set r0 (oP r0 (iZ 0))), 0, 0) Q) : mWp mCd 22 (0, [some (.ref r0), some (.ref r1), none, none], [], h, 0, 0) Q := by
  refine mWp_run 2 (t' := (2, [some (.ref r0), some (.ref r1), none, none], [.int (iZ 0), .ref r0], h, 0, 0)) rfl ?_
  refine mWp_pf rfl e1 rfl rfl rfl ?_
  show mWp mCd 22 (5, [some (.ref r0), some (.ref r1), none, none], [], (h.set r0 (oP r0 (iZ 0))), 0, 0) Q
  refine mWp_run 2 (t' := (7, [some (.ref r0), some (.ref r1), some (.int (iZ 1)), none], [], (h.set r0 (oP r0 (iZ 0))), 0, 0)) rfl ?_
  exact k
theorem b22_7 {h : mH} {Q : Option Value → mH → Prop} {r0 : Nat} {r1 : Nat} {x2 : Int32} {ci : Nat} {num : Int32} {n : Int32} {fd : Int32} (hc : [1, 2, 4, 6, 8].contains ci = true) (e2 : h[r1]? = some (oV ci r1 num n fd)) (k : mCt mCd 42 [.ref r1] h (fun rv hv => mWp mCd 22 (12, [some (.ref r0), some (.ref r1), some (.int x2), none], rv.toList ++ [.int x2], hv, 0, 0) Q)) : mWp mCd 22 (7, [some (.ref r0), some (.ref r1), some (.int x2), none], [], h, 0, 0) Q := by
  refine mWp_run 2 (t' := (9, [some (.ref r0), some (.ref r1), some (.int x2), none], [.ref r1, .int x2], h, 0, 0)) rfl ?_
  exact mWp_iv rfl rfl e2 (mS5 hc) rfl rfl rfl k
theorem b22_12 {h : mH} {Q : Option Value → mH → Prop} {r0 : Nat} {r1 : Nat} {x2 : Int32} {u0 : Int32} {u1 : Int32}  (k1 : u0 < u1 → mWp mCd 22 (31, [some (.ref r0), some (.ref r1), none, none], [], h, 0, 0) Q) (k2 : ¬ (u0 < u1) → mWp mCd 22 (15, [some (.ref r0), some (.ref r1), some (.int x2), none], [], h, 0, 0) Q) : mWp mCd 22 (12, [some (.ref r0), some (.ref r1), some (.int x2), none], [.int u0, .int u1], h, 0, 0) Q := by
  exact mWp_ic (P := fun x y => y < x) (a := u1) (b := u0) rfl (fun q => mWp_weak (mLe_s (mLe_s (mLe_n (mLe_n mLe_0)))) (k1 q)) k2
theorem b22_31 {h : mH} {Q : Option Value → mH → Prop} {r0 : Nat} {r1 : Nat}  (k : mWp mCd 22 (33, [some (.ref r0), some (.ref r1), some (.int (iZ 0)), none], [], h, 0, 0) Q) : mWp mCd 22 (31, [some (.ref r0), some (.ref r1), none, none], [], h, 0, 0) Q := by
  refine mWp_run 2 (t' := (33, [some (.ref r0), some (.ref r1), some (.int (iZ 0)), none], [], h, 0, 0)) rfl ?_
  exact k
theorem b22_15 {h : mH} {Q : Option Value → mH → Prop} {r0 : Nat} {r1 : Nat} {x2 : Int32} {ci : Nat} {num : Int32} {n : Int32} {fd : Int32} (hc : [1, 2, 4, 6, 8].contains ci = true) (e2 : h[r1]? = some (oV ci r1 num n fd)) (k : mCt mCd 46 [.ref r1, .int x2] h (fun rv hv => mWp mCd 22 (21, [some (.ref r0), some (.ref r1), some (.int x2), none], rv.toList ++ [.ref r0], hv, 0, 0) Q)) : mWp mCd 22 (15, [some (.ref r0), some (.ref r1), some (.int x2), none], [], h, 0, 0) Q := by
  refine mWp_run 3 (t' := (18, [some (.ref r0), some (.ref r1), some (.int x2), none], [.int x2, .ref r1, .ref r0], h, 0, 0)) rfl ?_
  exact mWp_iv rfl rfl e2 (mS5 hc) rfl rfl rfl k
theorem b22_33 {h : mH} {Q : Option Value → mH → Prop} {r0 : Nat} {r1 : Nat} {x2 : Int32} {ci : Nat} {num : Int32} {n : Int32} {fd : Int32} (hc : [1, 2, 4, 6, 8].contains ci = true) (e2 : h[r1]? = some (oV ci r1 num n fd)) (k1 : n ≤ x2 → mWp mCd 22 (64, [some (.ref r0), some (.ref r1), none, none], [], h, 0, 0) Q) (k2 : ¬ (n ≤ x2) → mWp mCd 22 (41, [some (.ref r0), some (.ref r1), some (.int x2), none], [], h, 0, 0) Q) : mWp mCd 22 (33, [some (.ref r0), some (.ref r1), some (.int x2), none], [], h, 0, 0) Q := by
  refine mWp_run 2 (t' := (35, [some (.ref r0), some (.ref r1), some (.int x2), none], [.ref r1, .int x2], h, 0, 0)) rfl ?_
  refine mWp_gf rfl e2 hc rfl ?_
  exact mWp_ic (P := fun x y => y ≤ x) (a := x2) (b := n) rfl (fun q => mWp_weak (mLe_s (mLe_s (mLe_n (mLe_n mLe_0)))) (k1 q)) k2
theorem b22_21 {h : mH} {Q : Option Value → mH → Prop} {r0 : Nat} {r1 : Nat} {x2 : Int32} {u0 : Int32} {q1 : Nat} {sz : Int32} (e1 : h[q1]? = some (oP q1 sz)) (k : mCt mCd 24 [.ref q1, .long (Int32.toInt64 u0)] h (fun rv hv => mWp mCd 22 (25, [some (.ref r0), some (.ref r1), some (.int x2), none], rv.toList ++ [], hv, 0, 0) Q)) : mWp mCd 22 (21, [some (.ref r0), some (.ref r1), some (.int x2), none], [.int u0, .ref q1], h, 0, 0) Q := by
  refine mWp_run 1 (t' := (22, [some (.ref r0), some (.ref r1), some (.int x2), none], [.long (Int32.toInt64 u0), .ref q1], h, 0, 0)) rfl ?_
  exact mWp_iv rfl rfl e1 rfl rfl rfl rfl k
theorem b22_64 {h : mH} {Q : Option Value → mH → Prop} {r0 : Nat} {r1 : Nat} {ci : Nat} {num : Int32} {n : Int32} {fd : Int32} (hc : [1, 2, 4, 6, 8].contains ci = true) (e2 : h[r1]? = some (oV ci r1 num n fd)) (k1 : n ≤ (iZ 1) → mWp mCd 22 (92, [none, none, none, none], [], h, 0, 0) Q) (k2 : ¬ (n ≤ (iZ 1)) → mWp mCd 22 (72, [some (.ref r0), some (.ref r1), none, none], [], h, 0, 0) Q) : mWp mCd 22 (64, [some (.ref r0), some (.ref r1), none, none], [], h, 0, 0) Q := by
  refine mWp_run 1 (t' := (65, [some (.ref r0), some (.ref r1), none, none], [.ref r1], h, 0, 0)) rfl ?_
  refine mWp_gf rfl e2 hc rfl ?_
  refine mWp_run 1 (t' := (69, [some (.ref r0), some (.ref r1), none, none], [.int (iZ 1), .int n], h, 0, 0)) rfl ?_
  exact mWp_ic (P := fun x y => x ≤ y) (a := n) (b := iZ 1) rfl (fun q => mWp_weak (mLe_n (mLe_n (mLe_n (mLe_n mLe_0)))) (k1 q)) k2
theorem b22_41 {h : mH} {Q : Option Value → mH → Prop} {r0 : Nat} {r1 : Nat} {x2 : Int32} {ci : Nat} {num : Int32} {n : Int32} {fd : Int32} (hc : [1, 2, 4, 6, 8].contains ci = true) (e2 : h[r1]? = some (oV ci r1 num n fd)) (k : mCt mCd 60 [.ref r1, .int (iZ 0), .int x2] h (fun rv hv => mWp mCd 22 (48, [some (.ref r0), some (.ref r1), some (.int x2), none], rv.toList ++ [.ref r0], hv, 0, 0) Q)) : mWp mCd 22 (41, [some (.ref r0), some (.ref r1), some (.int x2), none], [], h, 0, 0) Q := by
  refine mWp_run 4 (t' := (45, [some (.ref r0), some (.ref r1), some (.int x2), none], [.int x2, .int (iZ 0), .ref r1, .ref r0], h, 0, 0)) rfl ?_
  exact mWp_iv rfl rfl e2 (mS5 hc) rfl rfl rfl k
theorem b22_25 {h : mH} {Q : Option Value → mH → Prop} {r0 : Nat} {r1 : Nat} {x2 : Int32}  (k : mWp mCd 22 (7, [some (.ref r0), some (.ref r1), some (.int (x2 + iZ 1)), none], [], h, 0, 0) Q) : mWp mCd 22 (25, [some (.ref r0), some (.ref r1), some (.int x2), none], [], h, 0, 0) Q := by
  refine mWp_run 2 (t' := (7, [some (.ref r0), some (.ref r1), some (.int (x2 + iZ 1)), none], [], h, 0, 0)) rfl ?_
  exact k
theorem b22_92 {h : mH} {Q : Option Value → mH → Prop}   (k : Q none h) : mWp mCd 22 (92, [none, none, none, none], [], h, 0, 0) Q := by
  exact mWp_r (v := none) rfl k
theorem b22_72 {h : mH} {Q : Option Value → mH → Prop} {r0 : Nat} {r1 : Nat} {ci : Nat} {num : Int32} {n : Int32} {fd : Int32} (hc : [1, 2, 4, 6, 8].contains ci = true) (e2 : h[r1]? = some (oV ci r1 num n fd)) (k : mCt mCd 67 [.ref r1] h (fun rv hv => mWp mCd 22 (76, [some (.ref r0), some (.ref r1), none, none], rv.toList ++ [], hv, 0, 0) Q)) : mWp mCd 22 (72, [some (.ref r0), some (.ref r1), none, none], [], h, 0, 0) Q := by
  refine mWp_run 1 (t' := (73, [some (.ref r0), some (.ref r1), none, none], [.ref r1], h, 0, 0)) rfl ?_
  exact mWp_iv rfl rfl e2 (mS5 hc) rfl rfl rfl k
theorem b22_48 {h : mH} {Q : Option Value → mH → Prop} {r0 : Nat} {r1 : Nat} {x2 : Int32} {u0 : Int32} {q1 : Nat} {ci : Nat} {num : Int32} {n : Int32} {fd : Int32} (hc : [1, 2, 4, 6, 8].contains ci = true) (e2 : h[r1]? = some (oV ci r1 num n fd)) (k : mCt mCd 59 [.ref r1, .int (iZ 0)] h (fun rv hv => mWp mCd 22 (54, [some (.ref r0), some (.ref r1), some (.int x2), none], rv.toList ++ [.long (Int32.toInt64 u0), .ref q1], hv, 0, 0) Q)) : mWp mCd 22 (48, [some (.ref r0), some (.ref r1), some (.int x2), none], [.int u0, .ref q1], h, 0, 0) Q := by
  refine mWp_run 3 (t' := (51, [some (.ref r0), some (.ref r1), some (.int x2), none], [.int (iZ 0), .ref r1, .long (Int32.toInt64 u0), .ref q1], h, 0, 0)) rfl ?_
  exact mWp_iv rfl rfl e2 (mS5 hc) rfl rfl rfl k
theorem b22_76 {h : mH} {Q : Option Value → mH → Prop} {r0 : Nat} {r1 : Nat} {w0 : Int64} {ci : Nat} {num : Int32} {n : Int32} {fd : Int32} (hc : [1, 2, 4, 6, 8].contains ci = true) (e2 : h[r1]? = some (oV ci r1 num n fd)) (k : mCt mCd 68 [.ref r1, .long w0] h (fun rv hv => mWp mCd 22 (83, [none, none, some (.long w0), none], rv.toList ++ [.ref r0], hv, 0, 0) Q)) : mWp mCd 22 (76, [some (.ref r0), some (.ref r1), none, none], [.long w0], h, 0, 0) Q := by
  refine mWp_run 4 (t' := (80, [some (.ref r0), some (.ref r1), some (.long w0), none], [.long w0, .ref r1, .ref r0], h, 0, 0)) rfl ?_
  exact mWp_iv rfl rfl e2 (mS5 hc) rfl rfl rfl (mCt_mono k (fun rv hv y => mWp_weak (mLe_n (mLe_n (mLe_s (mLe_n mLe_0)))) y))
theorem b22_54 {h : mH} {Q : Option Value → mH → Prop} {r0 : Nat} {r1 : Nat} {x2 : Int32} {u0 : Int32} {w1 : Int64} {q2 : Nat} {sz : Int32} (e1 : h[q2]? = some (oP q2 sz)) (k : mCt mCd 23 [.ref q2, .long w1, .long (Int32.toInt64 u0)] h (fun rv hv => mWp mCd 22 (58, [some (.ref r0), some (.ref r1), some (.int x2), none], rv.toList ++ [], hv, 0, 0) Q)) : mWp mCd 22 (54, [some (.ref r0), some (.ref r1), some (.int x2), none], [.int u0, .long w1, .ref q2], h, 0, 0) Q := by
  refine mWp_run 1 (t' := (55, [some (.ref r0), some (.ref r1), some (.int x2), none], [.long (Int32.toInt64 u0), .long w1, .ref q2], h, 0, 0)) rfl ?_
  exact mWp_iv rfl rfl e1 rfl rfl rfl rfl k
theorem b22_83 {h : mH} {Q : Option Value → mH → Prop} {y2 : Int64} {u0 : Int32} {q1 : Nat}  (k : mCt mCd 133 [.long y2] h (fun rv hv => mWp mCd 22 (88, [none, none, none, none], rv.toList ++ [.long (Int32.toInt64 u0), .ref q1], hv, 0, 0) Q)) : mWp mCd 22 (83, [none, none, some (.long y2), none], [.int u0, .ref q1], h, 0, 0) Q := by
  refine mWp_run 2 (t' := (85, [none, none, some (.long y2), none], [.long y2, .long (Int32.toInt64 u0), .ref q1], h, 0, 0)) rfl ?_
  exact mWp_is rfl rfl rfl rfl rfl (mCt_mono k (fun rv hv y => mWp_weak (mLe_n (mLe_n (mLe_n (mLe_n mLe_0)))) y))
theorem b22_58 {h : mH} {Q : Option Value → mH → Prop} {r0 : Nat} {r1 : Nat} {x2 : Int32}  (k : mWp mCd 22 (33, [some (.ref r0), some (.ref r1), some (.int (x2 + iZ 1)), none], [], h, 0, 0) Q) : mWp mCd 22 (58, [some (.ref r0), some (.ref r1), some (.int x2), none], [], h, 0, 0) Q := by
  refine mWp_run 2 (t' := (33, [some (.ref r0), some (.ref r1), some (.int (x2 + iZ 1)), none], [], h, 0, 0)) rfl ?_
  exact k
theorem b22_88 {h : mH} {Q : Option Value → mH → Prop} {u0 : Int32} {w1 : Int64} {q2 : Nat} {sz : Int32} (e1 : h[q2]? = some (oP q2 sz)) (k : mCt mCd 23 [.ref q2, .long w1, .long (Int32.toInt64 u0)] h (fun rv hv => mWp mCd 22 (92, [none, none, none, none], rv.toList ++ [], hv, 0, 0) Q)) : mWp mCd 22 (88, [none, none, none, none], [.int u0, .long w1, .ref q2], h, 0, 0) Q := by
  refine mWp_run 1 (t' := (89, [none, none, none, none], [.long (Int32.toInt64 u0), .long w1, .ref q2], h, 0, 0)) rfl ?_
  exact mWp_iv rfl rfl e1 rfl rfl rfl rfl k
theorem b23_0 {h : mH} {Q : Option Value → mH → Prop} {r0 : Nat} {y1 : Int64} {y3 : Int64}  (k : mCt mCd 134 [.long y1, .long y3, .int (iZ 0)] h (fun rv hv => mWp mCd 23 (7, [some (.ref r0), some (.long y1), none, some (.long y3), none], rv.toList ++ [.ref r0], hv, 0, 0) Q)) : mWp mCd 23 (0, [some (.ref r0), some (.long y1), none, some (.long y3), none], [], h, 0, 0) Q := by
  refine mWp_run 4 (t' := (4, [some (.ref r0), some (.long y1), none, some (.long y3), none], [.int (iZ 0), .long y3, .long y1, .ref r0], h, 0, 0)) rfl ?_
  exact mWp_is rfl rfl rfl rfl rfl k
theorem b23_7 {h : mH} {Q : Option Value → mH → Prop} {r0 : Nat} {y1 : Int64} {y3 : Int64} {w0 : Int64} {q1 : Nat} {sz : Int32} (e1 : h[q1]? = some (oP q1 sz)) (k : mCt mCd 24 [.ref q1, .long w0] h (fun rv hv => mWp mCd 23 (10, [some (.ref r0), some (.long y1), none, some (.long y3), none], rv.toList ++ [], hv, 0, 0) Q)) : mWp mCd 23 (7, [some (.ref r0), some (.long y1), none, some (.long y3), none], [.long w0, .ref q1], h, 0, 0) Q := by
  exact mWp_iv rfl rfl e1 rfl rfl rfl rfl k
theorem b23_10 {h : mH} {Q : Option Value → mH → Prop} {r0 : Nat} {y1 : Int64} {y3 : Int64}  (k : mCt mCd 134 [.long y1, .long y3, .int (iZ 1)] h (fun rv hv => mWp mCd 23 (17, [none, none, none, none, none], rv.toList ++ [.ref r0], hv, 0, 0) Q)) : mWp mCd 23 (10, [some (.ref r0), some (.long y1), none, some (.long y3), none], [], h, 0, 0) Q := by
  refine mWp_run 4 (t' := (14, [some (.ref r0), some (.long y1), none, some (.long y3), none], [.int (iZ 1), .long y3, .long y1, .ref r0], h, 0, 0)) rfl ?_
  exact mWp_is rfl rfl rfl rfl rfl (mCt_mono k (fun rv hv y => mWp_weak (mLe_n (mLe_n (mLe_n (mLe_n (mLe_n mLe_0))))) y))
theorem b23_17 {h : mH} {Q : Option Value → mH → Prop} {w0 : Int64} {q1 : Nat} {sz : Int32} (e1 : h[q1]? = some (oP q1 sz)) (k : mCt mCd 24 [.ref q1, .long w0] h (fun rv hv => mWp mCd 23 (20, [none, none, none, none, none], rv.toList ++ [], hv, 0, 0) Q)) : mWp mCd 23 (17, [none, none, none, none, none], [.long w0, .ref q1], h, 0, 0) Q := by
  exact mWp_iv rfl rfl e1 rfl rfl rfl rfl k
theorem b23_20 {h : mH} {Q : Option Value → mH → Prop}   (k : Q none h) : mWp mCd 23 (20, [none, none, none, none, none], [], h, 0, 0) Q := by
  exact mWp_r (v := none) rfl k
theorem b24_0 {h : mH} {Q : Option Value → mH → Prop} {r0 : Nat} {y1 : Int64} {sz : Int32} (e1 : h[r0]? = some (oP r0 sz)) (k1 : sz < 0 → mWp mCd 24 (39, [none, none, none], [], h, 0, 0) Q) (k2 : ¬ (sz < 0) → mWp mCd 24 (7, [some (.ref r0), some (.long y1), none], [], h, 0, 0) Q) : mWp mCd 24 (0, [some (.ref r0), some (.long y1), none], [], h, 0, 0) Q := by
  refine mWp_run 1 (t' := (1, [some (.ref r0), some (.long y1), none], [.ref r0], h, 0, 0)) rfl ?_
  refine mWp_gf rfl e1 rfl rfl ?_
  exact mWp_if (P := fun x => x < 0) (a := sz) rfl (fun q => mWp_weak (mLe_n (mLe_n (mLe_n mLe_0))) (k1 q)) k2
theorem b24_39 {h : mH} {Q : Option Value → mH → Prop}   (k : Q none h) : mWp mCd 24 (39, [none, none, none], [], h, 0, 0) Q := by
  exact mWp_r (v := none) rfl k
theorem b24_7 {h : mH} {Q : Option Value → mH → Prop} {r0 : Nat} {y1 : Int64} {sz : Int32} {g101 : Nat → Int64} (e1 : h[r0]? = some (oP r0 sz)) (e2 : h[((r0 + 1))]? = some (aL 25 g101)) (k1 : (Int32.ofNat 25) ≤ sz → mWp mCd 24 (39, [none, none, none], [], h, 0, 0) Q) (k2 : ¬ ((Int32.ofNat 25) ≤ sz) → mWp mCd 24 (19, [some (.ref r0), some (.long y1), none], [], h, 0, 0) Q) : mWp mCd 24 (7, [some (.ref r0), some (.long y1), none], [], h, 0, 0) Q := by
  refine mWp_run 1 (t' := (8, [some (.ref r0), some (.long y1), none], [.ref r0], h, 0, 0)) rfl ?_
  refine mWp_gf rfl e1 rfl rfl ?_
  refine mWp_run 1 (t' := (12, [some (.ref r0), some (.long y1), none], [.ref r0, .int sz], h, 0, 0)) rfl ?_
  refine mWp_gf rfl e1 rfl rfl ?_
  refine mWp_aln rfl e2 (by decide) ?_
  exact mWp_ic (P := fun x y => y ≤ x) (a := sz) (b := Int32.ofNat 25) rfl (fun q => mWp_weak (mLe_n (mLe_n (mLe_n mLe_0))) (k1 q)) k2
theorem b24_19 {h : mH} {Q : Option Value → mH → Prop} {r0 : Nat} {y1 : Int64} {sz : Int32} {g101 : Nat → Int64} (e1 : h[r0]? = some (oP r0 sz)) (e2 : h[((r0 + 1))]? = some (aL 25 g101)) (e3 : ¬ (sz < 0 ∨ 25 ≤ sz.toNatClampNeg)) (e4 : 5 ≤ (r0 + 1)) (k : Q none ((h.set (r0 + 1) (aL 25 (vp_updL g101 (sz.toNatClampNeg) y1))).set r0 (oP r0 (sz + (iZ 1))))) : mWp mCd 24 (19, [some (.ref r0), some (.long y1), none], [], h, 0, 0) Q := by
  refine mWp_run 1 (t' := (20, [some (.ref r0), some (.long y1), none], [.ref r0], h, 0, 0)) rfl ?_
  refine mWp_gf rfl e1 rfl rfl ?_
  refine mWp_run 1 (t' := (24, [some (.ref r0), some (.long y1), none], [.ref r0, .ref (r0 + 1)], h, 0, 0)) rfl ?_
  refine mWp_gf rfl e1 rfl rfl ?_
  refine mWp_run 1 (t' := (28, [some (.ref r0), some (.long y1), none], [.long y1, .int sz, .ref (r0 + 1)], h, 0, 0)) rfl ?_
  refine mWp_las rfl e4 e2 e3 ?_
  show mWp mCd 24 (29, [some (.ref r0), some (.long y1), none], [], (h.set (r0 + 1) (aL 25 (vp_updL g101 (sz.toNatClampNeg) y1))), 0, 0) Q
  refine mWp_run 2 (t' := (31, [some (.ref r0), some (.long y1), none], [.ref r0, .ref r0], (h.set (r0 + 1) (aL 25 (vp_updL g101 (sz.toNatClampNeg) y1))), 0, 0)) rfl ?_
  refine mWp_gf rfl (mGn (by omega) e1) rfl rfl ?_
  refine mWp_run 2 (t' := (36, [some (.ref r0), some (.long y1), none], [.int (sz + (iZ 1)), .ref r0], (h.set (r0 + 1) (aL 25 (vp_updL g101 (sz.toNatClampNeg) y1))), 0, 0)) rfl ?_
  refine mWp_pf rfl (mGn (by omega) e1) rfl rfl rfl ?_
  show mWp mCd 24 (39, [some (.ref r0), some (.long y1), none], [], ((h.set (r0 + 1) (aL 25 (vp_updL g101 (sz.toNatClampNeg) y1))).set r0 (oP r0 (sz + (iZ 1)))), 0, 0) Q
  exact mWp_r (v := none) rfl k
theorem b25_0 {h : mH} {Q : Option Value → mH → Prop} {r0 : Nat} {x1 : Int32}  (k1 : x1 < 0 → mWp mCd 25 (25, [none, none], [], h, 0, 0) Q) (k2 : ¬ (x1 < 0) → mWp mCd 25 (4, [some (.ref r0), some (.int x1)], [], h, 0, 0) Q) : mWp mCd 25 (0, [some (.ref r0), some (.int x1)], [], h, 0, 0) Q := by
  refine mWp_run 1 (t' := (1, [some (.ref r0), some (.int x1)], [.int x1], h, 0, 0)) rfl ?_
  exact mWp_if (P := fun x => x < 0) (a := x1) rfl (fun q => mWp_weak (mLe_n (mLe_n mLe_0)) (k1 q)) k2
theorem b25_25 {h : mH} {Q : Option Value → mH → Prop}   (k : Q (some (.int (iZ 0))) h) : mWp mCd 25 (25, [none, none], [], h, 0, 0) Q := by
  refine mWp_run 1 (t' := (26, [none, none], [.int (iZ 0)], h, 0, 0)) rfl ?_
  exact mWp_r (v := (some (.int (iZ 0)))) rfl k
theorem b25_4 {h : mH} {Q : Option Value → mH → Prop} {r0 : Nat} {x1 : Int32} {sz : Int32} (e1 : h[r0]? = some (oP r0 sz)) (k1 : sz ≤ x1 → mWp mCd 25 (25, [none, none], [], h, 0, 0) Q) (k2 : ¬ (sz ≤ x1) → mWp mCd 25 (12, [some (.ref r0), some (.int x1)], [], h, 0, 0) Q) : mWp mCd 25 (4, [some (.ref r0), some (.int x1)], [], h, 0, 0) Q := by
  refine mWp_run 2 (t' := (6, [some (.ref r0), some (.int x1)], [.ref r0, .int x1], h, 0, 0)) rfl ?_
  refine mWp_gf rfl e1 rfl rfl ?_
  exact mWp_ic (P := fun x y => y ≤ x) (a := x1) (b := sz) rfl (fun q => mWp_weak (mLe_n (mLe_n mLe_0)) (k1 q)) k2
theorem b25_12 {h : mH} {Q : Option Value → mH → Prop} {r0 : Nat} {x1 : Int32} {sz : Int32} {g101 : Nat → Int64} (e1 : h[r0]? = some (oP r0 sz)) (e2 : h[((r0 + 1))]? = some (aL 25 g101)) (k1 : (Int32.ofNat 25) ≤ x1 → mWp mCd 25 (25, [none, none], [], h, 0, 0) Q) (k2 : ¬ ((Int32.ofNat 25) ≤ x1) → mWp mCd 25 (21, [none, none], [], h, 0, 0) Q) : mWp mCd 25 (12, [some (.ref r0), some (.int x1)], [], h, 0, 0) Q := by
  refine mWp_run 2 (t' := (14, [some (.ref r0), some (.int x1)], [.ref r0, .int x1], h, 0, 0)) rfl ?_
  refine mWp_gf rfl e1 rfl rfl ?_
  refine mWp_aln rfl e2 (by decide) ?_
  exact mWp_ic (P := fun x y => y ≤ x) (a := x1) (b := Int32.ofNat 25) rfl (fun q => mWp_weak (mLe_n (mLe_n mLe_0)) (k1 q)) (fun q => mWp_weak (mLe_n (mLe_n mLe_0)) (k2 q))
theorem b25_21 {h : mH} {Q : Option Value → mH → Prop}   (k : Q (some (.int (iZ 1))) h) : mWp mCd 25 (21, [none, none], [], h, 0, 0) Q := by
  refine mWp_run 2 (t' := (26, [none, none], [.int (iZ 1)], h, 0, 0)) rfl ?_
  exact mWp_r (v := (some (.int (iZ 1)))) rfl k
theorem b26_0 {h : mH} {Q : Option Value → mH → Prop} {r0 : Nat} {x1 : Int32} {sz : Int32} (e1 : h[r0]? = some (oP r0 sz)) (k : mCt mCd 25 [.ref r0, .int x1] h (fun rv hv => mWp mCd 26 (5, [some (.ref r0), some (.int x1)], rv.toList ++ [], hv, 0, 0) Q)) : mWp mCd 26 (0, [some (.ref r0), some (.int x1)], [], h, 0, 0) Q := by
  refine mWp_run 2 (t' := (2, [some (.ref r0), some (.int x1)], [.int x1, .ref r0], h, 0, 0)) rfl ?_
  exact mWp_iv rfl rfl e1 rfl rfl rfl rfl k
theorem b26_5 {h : mH} {Q : Option Value → mH → Prop} {r0 : Nat} {x1 : Int32} {u0 : Int32}  (k1 : u0 = 0 → mWp mCd 26 (17, [none, none], [], h, 0, 0) Q) (k2 : ¬ (u0 = 0) → mWp mCd 26 (8, [some (.ref r0), some (.int x1)], [], h, 0, 0) Q) : mWp mCd 26 (5, [some (.ref r0), some (.int x1)], [.int u0], h, 0, 0) Q := by
  exact mWp_if (P := fun x => x = 0) (a := u0) rfl (fun q => mWp_weak (mLe_n (mLe_n mLe_0)) (k1 q)) k2
theorem b26_17 {h : mH} {Q : Option Value → mH → Prop}   (k : Q (some (.long (lZ (-4611686018427387904)))) h) : mWp mCd 26 (17, [none, none], [], h, 0, 0) Q := by
  refine mWp_run 1 (t' := (20, [none, none], [.long (lZ (-4611686018427387904))], h, 0, 0)) rfl ?_
  exact mWp_r (v := (some (.long (lZ (-4611686018427387904))))) rfl k
theorem b26_8 {h : mH} {Q : Option Value → mH → Prop} {r0 : Nat} {x1 : Int32} {sz : Int32} {g101 : Nat → Int64} (e1 : h[r0]? = some (oP r0 sz)) (e2 : h[((r0 + 1))]? = some (aL 25 g101)) (e3 : ¬ (x1 < 0 ∨ 25 ≤ x1.toNatClampNeg)) (k : Q (some (.long (g101 x1.toNatClampNeg))) h) : mWp mCd 26 (8, [some (.ref r0), some (.int x1)], [], h, 0, 0) Q := by
  refine mWp_run 1 (t' := (9, [some (.ref r0), some (.int x1)], [.ref r0], h, 0, 0)) rfl ?_
  refine mWp_gf rfl e1 rfl rfl ?_
  refine mWp_run 1 (t' := (13, [some (.ref r0), some (.int x1)], [.int x1, .ref (r0 + 1)], h, 0, 0)) rfl ?_
  refine mWp_lal rfl e2 e3 ?_
  refine mWp_run 1 (t' := (20, [some (.ref r0), some (.int x1)], [.long (g101 x1.toNatClampNeg)], h, 0, 0)) rfl ?_
  exact mWp_r (v := (some (.long (g101 x1.toNatClampNeg)))) rfl k
theorem b27_0 {h : mH} {Q : Option Value → mH → Prop} {r0 : Nat} {x1 : Int32} {y2 : Int64} {sz : Int32} (e1 : h[r0]? = some (oP r0 sz)) (k : mCt mCd 25 [.ref r0, .int x1] h (fun rv hv => mWp mCd 27 (5, [some (.ref r0), some (.int x1), some (.long y2), none], rv.toList ++ [], hv, 0, 0) Q)) : mWp mCd 27 (0, [some (.ref r0), some (.int x1), some (.long y2), none], [], h, 0, 0) Q := by
  refine mWp_run 2 (t' := (2, [some (.ref r0), some (.int x1), some (.long y2), none], [.int x1, .ref r0], h, 0, 0)) rfl ?_
  exact mWp_iv rfl rfl e1 rfl rfl rfl rfl k
theorem b27_5 {h : mH} {Q : Option Value → mH → Prop} {r0 : Nat} {x1 : Int32} {y2 : Int64} {u0 : Int32}  (k1 : u0 = 0 → mWp mCd 27 (15, [none, none, none, none], [], h, 0, 0) Q) (k2 : ¬ (u0 = 0) → mWp mCd 27 (8, [some (.ref r0), some (.int x1), some (.long y2), none], [], h, 0, 0) Q) : mWp mCd 27 (5, [some (.ref r0), some (.int x1), some (.long y2), none], [.int u0], h, 0, 0) Q := by
  exact mWp_if (P := fun x => x = 0) (a := u0) rfl (fun q => mWp_weak (mLe_n (mLe_n (mLe_n (mLe_n mLe_0)))) (k1 q)) k2
theorem b27_15 {h : mH} {Q : Option Value → mH → Prop}   (k : Q none h) : mWp mCd 27 (15, [none, none, none, none], [], h, 0, 0) Q := by
  exact mWp_r (v := none) rfl k
theorem b27_8 {h : mH} {Q : Option Value → mH → Prop} {r0 : Nat} {x1 : Int32} {y2 : Int64} {sz : Int32} {g101 : Nat → Int64} (e1 : h[r0]? = some (oP r0 sz)) (e2 : h[((r0 + 1))]? = some (aL 25 g101)) (e3 : ¬ (x1 < 0 ∨ 25 ≤ x1.toNatClampNeg)) (e4 : 5 ≤ (r0 + 1)) (k : Q none (h.set (r0 + 1) (aL 25 (vp_updL g101 (x1.toNatClampNeg) y2)))) : mWp mCd 27 (8, [some (.ref r0), some (.int x1), some (.long y2), none], [], h, 0, 0) Q := by
  refine mWp_run 1 (t' := (9, [some (.ref r0), some (.int x1), some (.long y2), none], [.ref r0], h, 0, 0)) rfl ?_
  refine mWp_gf rfl e1 rfl rfl ?_
  refine mWp_run 2 (t' := (14, [some (.ref r0), some (.int x1), some (.long y2), none], [.long y2, .int x1, .ref (r0 + 1)], h, 0, 0)) rfl ?_
  refine mWp_las rfl e4 e2 e3 ?_
  show mWp mCd 27 (15, [some (.ref r0), some (.int x1), some (.long y2), none], [], (h.set (r0 + 1) (aL 25 (vp_updL g101 (x1.toNatClampNeg) y2))), 0, 0) Q
  exact mWp_r (v := none) rfl k
theorem b28_0 {h : mH} {Q : Option Value → mH → Prop} {r0 : Nat} {r1 : Nat}  (k : mWp mCd 28 (2, [some (.ref r0), some (.ref r1), some (.int (iZ 0))], [], h, 0, 0) Q) : mWp mCd 28 (0, [some (.ref r0), some (.ref r1), none], [], h, 0, 0) Q := by
  refine mWp_run 2 (t' := (2, [some (.ref r0), some (.ref r1), some (.int (iZ 0))], [], h, 0, 0)) rfl ?_
  exact k
theorem b28_2 {h : mH} {Q : Option Value → mH → Prop} {r0 : Nat} {r1 : Nat} {x2 : Int32}  (k1 : (iZ 25) ≤ x2 → mWp mCd 28 (43, [none, none, none], [], h, 0, 0) Q) (k2 : ¬ ((iZ 25) ≤ x2) → mWp mCd 28 (8, [some (.ref r0), some (.ref r1), some (.int x2)], [], h, 0, 0) Q) : mWp mCd 28 (2, [some (.ref r0), some (.ref r1), some (.int x2)], [], h, 0, 0) Q := by
  refine mWp_run 2 (t' := (5, [some (.ref r0), some (.ref r1), some (.int x2)], [.int (iZ 25), .int x2], h, 0, 0)) rfl ?_
  exact mWp_ic (P := fun x y => y ≤ x) (a := x2) (b := iZ 25) rfl (fun q => mWp_weak (mLe_n (mLe_n (mLe_n mLe_0))) (k1 q)) k2
theorem b28_43 {h : mH} {Q : Option Value → mH → Prop}   (k : Q (some (.int (iZ (-1)))) h) : mWp mCd 28 (43, [none, none, none], [], h, 0, 0) Q := by
  refine mWp_run 1 (t' := (44, [none, none, none], [.int (iZ (-1))], h, 0, 0)) rfl ?_
  exact mWp_r (v := (some (.int (iZ (-1))))) rfl k
theorem b28_8 {h : mH} {Q : Option Value → mH → Prop} {r0 : Nat} {r1 : Nat} {x2 : Int32} {sz : Int32} (e1 : h[r0]? = some (oP r0 sz)) (k : mCt mCd 25 [.ref r0, .int x2] h (fun rv hv => mWp mCd 28 (13, [some (.ref r0), some (.ref r1), some (.int x2)], rv.toList ++ [], hv, 0, 0) Q)) : mWp mCd 28 (8, [some (.ref r0), some (.ref r1), some (.int x2)], [], h, 0, 0) Q := by
  refine mWp_run 2 (t' := (10, [some (.ref r0), some (.ref r1), some (.int x2)], [.int x2, .ref r0], h, 0, 0)) rfl ?_
  exact mWp_iv rfl rfl e1 rfl rfl rfl rfl k
theorem b28_13 {h : mH} {Q : Option Value → mH → Prop} {r0 : Nat} {r1 : Nat} {x2 : Int32} {u0 : Int32} {sz : Int32} (e1 : h[r1]? = some (oP r1 sz)) (k : mCt mCd 25 [.ref r1, .int x2] h (fun rv hv => mWp mCd 28 (18, [some (.ref r0), some (.ref r1), some (.int x2)], rv.toList ++ [.int u0], hv, 0, 0) Q)) : mWp mCd 28 (13, [some (.ref r0), some (.ref r1), some (.int x2)], [.int u0], h, 0, 0) Q := by
  refine mWp_run 2 (t' := (15, [some (.ref r0), some (.ref r1), some (.int x2)], [.int x2, .ref r1, .int u0], h, 0, 0)) rfl ?_
  exact mWp_iv rfl rfl e1 rfl rfl rfl rfl k
theorem b28_18 {h : mH} {Q : Option Value → mH → Prop} {r0 : Nat} {r1 : Nat} {x2 : Int32} {u0 : Int32} {u1 : Int32}  (k1 : ¬ u1 = u0 → mWp mCd 28 (35, [none, none, some (.int x2)], [], h, 0, 0) Q) (k2 : ¬ (¬ u1 = u0) → mWp mCd 28 (21, [some (.ref r0), some (.ref r1), some (.int x2)], [], h, 0, 0) Q) : mWp mCd 28 (18, [some (.ref r0), some (.ref r1), some (.int x2)], [.int u0, .int u1], h, 0, 0) Q := by
  exact mWp_ic (P := fun x y => ¬ x = y) (a := u1) (b := u0) rfl (fun q => mWp_weak (mLe_n (mLe_n (mLe_s mLe_0))) (k1 q)) k2
theorem b28_35 {h : mH} {Q : Option Value → mH → Prop} {x2 : Int32}  (k : Q (some (.int x2)) h) : mWp mCd 28 (35, [none, none, some (.int x2)], [], h, 0, 0) Q := by
  refine mWp_run 1 (t' := (36, [none, none, some (.int x2)], [.int x2], h, 0, 0)) rfl ?_
  exact mWp_r (v := (some (.int x2))) rfl k
theorem b28_21 {h : mH} {Q : Option Value → mH → Prop} {r0 : Nat} {r1 : Nat} {x2 : Int32} {sz : Int32} (e1 : h[r0]? = some (oP r0 sz)) (k : mCt mCd 26 [.ref r0, .int x2] h (fun rv hv => mWp mCd 28 (26, [some (.ref r0), some (.ref r1), some (.int x2)], rv.toList ++ [], hv, 0, 0) Q)) : mWp mCd 28 (21, [some (.ref r0), some (.ref r1), some (.int x2)], [], h, 0, 0) Q := by
  refine mWp_run 2 (t' := (23, [some (.ref r0), some (.ref r1), some (.int x2)], [.int x2, .ref r0], h, 0, 0)) rfl ?_
  exact mWp_iv rfl rfl e1 rfl rfl rfl rfl k
theorem b28_26 {h : mH} {Q : Option Value → mH → Prop} {r0 : Nat} {r1 : Nat} {x2 : Int32} {w0 : Int64} {sz : Int32} (e1 : h[r1]? = some (oP r1 sz)) (k : mCt mCd 26 [.ref r1, .int x2] h (fun rv hv => mWp mCd 28 (31, [some (.ref r0), some (.ref r1), some (.int x2)], rv.toList ++ [.long w0], hv, 0, 0) Q)) : mWp mCd 28 (26, [some (.ref r0), some (.ref r1), some (.int x2)], [.long w0], h, 0, 0) Q := by
  refine mWp_run 2 (t' := (28, [some (.ref r0), some (.ref r1), some (.int x2)], [.int x2, .ref r1, .long w0], h, 0, 0)) rfl ?_
  exact mWp_iv rfl rfl e1 rfl rfl rfl rfl k
theorem b28_31 {h : mH} {Q : Option Value → mH → Prop} {r0 : Nat} {r1 : Nat} {x2 : Int32} {w0 : Int64} {w1 : Int64}  (k1 : (lg_cmp w1 w0) = 0 → mWp mCd 28 (37, [some (.ref r0), some (.ref r1), some (.int x2)], [], h, 0, 0) Q) (k2 : ¬ ((lg_cmp w1 w0) = 0) → mWp mCd 28 (35, [none, none, some (.int x2)], [], h, 0, 0) Q) : mWp mCd 28 (31, [some (.ref r0), some (.ref r1), some (.int x2)], [.long w0, .long w1], h, 0, 0) Q := by
  refine mWp_run 1 (t' := (32, [some (.ref r0), some (.ref r1), some (.int x2)], [.int (lg_cmp w1 w0)], h, 0, 0)) rfl ?_
  exact mWp_if (P := fun x => x = 0) (a := lg_cmp w1 w0) rfl k1 (fun q => mWp_weak (mLe_n (mLe_n (mLe_s mLe_0))) (k2 q))
theorem b28_37 {h : mH} {Q : Option Value → mH → Prop} {r0 : Nat} {r1 : Nat} {x2 : Int32}  (k : mWp mCd 28 (2, [some (.ref r0), some (.ref r1), some (.int (x2 + iZ 1))], [], h, 0, 0) Q) : mWp mCd 28 (37, [some (.ref r0), some (.ref r1), some (.int x2)], [], h, 0, 0) Q := by
  refine mWp_run 2 (t' := (2, [some (.ref r0), some (.ref r1), some (.int (x2 + iZ 1))], [], h, 0, 0)) rfl ?_
  exact k
theorem b29_0 {h : mH} {Q : Option Value → mH → Prop} {r0 : Nat} {x1 : Int32} {x2 : Int32} {x3 : Int32}  (k : mCt mCd 37 [.ref r0, .int x1, .int x2] h (fun rv hv => mWp mCd 29 (6, [some (.ref r0), none, none, some (.int x3), none], rv.toList ++ [], hv, 8, 152) Q)) : mWp mCd 29 (0, [some (.ref r0), some (.int x1), some (.int x2), some (.int x3), none], [], h, 0, 0) Q := by
  refine mWp_run 3 (t' := (3, [some (.ref r0), some (.int x1), some (.int x2), some (.int x3), none], [.int x2, .int x1, .ref r0], h, 0, 0)) rfl ?_
  exact mWp_ii rfl rfl rfl rfl rfl (mCt_mono k (fun rv hv y => mWp_weak (mLe_s (mLe_n (mLe_n (mLe_s (mLe_n mLe_0))))) y))
theorem b29_6 {h : mH} {Q : Option Value → mH → Prop} {r0 : Nat} {x3 : Int32}  (k : mWp mCd 29 (9, [some (.ref r0), none, none, some (.int x3), some (.int (iZ 1))], [], h, 8, 152) Q) : mWp mCd 29 (6, [some (.ref r0), none, none, some (.int x3), none], [], h, 8, 152) Q := by
  refine mWp_run 2 (t' := (9, [some (.ref r0), none, none, some (.int x3), some (.int (iZ 1))], [], h, 8, 152)) rfl ?_
  exact k
theorem b29_9 {h : mH} {Q : Option Value → mH → Prop} {r0 : Nat} {x3 : Int32} {x4 : Int32} {ci101 : Nat} {fs102 : List Value} (e1 : h[r0]? = some (.inr (ci101, fs102))) (e2 : ci101 = 4) (k : mCt mCd 42 [.ref r0] h (fun rv hv => mWp mCd 29 (15, [some (.ref r0), none, none, some (.int x3), some (.int x4)], rv.toList ++ [.int x4], hv, 8, 152) Q)) : mWp mCd 29 (9, [some (.ref r0), none, none, some (.int x3), some (.int x4)], [], h, 8, 152) Q := by
  refine mWp_run 2 (t' := (12, [some (.ref r0), none, none, some (.int x3), some (.int x4)], [.ref r0, .int x4], h, 8, 152)) rfl ?_
  exact mWp_iv rfl rfl e1 (by rw [e2]; rfl) rfl rfl rfl k
theorem b29_15 {h : mH} {Q : Option Value → mH → Prop} {r0 : Nat} {x3 : Int32} {x4 : Int32} {u0 : Int32} {u1 : Int32}  (k1 : u0 < u1 → mWp mCd 29 (37, [none, none, none, none, none], [], h, 8, 152) Q) (k2 : ¬ (u0 < u1) → mWp mCd 29 (18, [some (.ref r0), none, none, some (.int x3), some (.int x4)], [], h, 8, 152) Q) : mWp mCd 29 (15, [some (.ref r0), none, none, some (.int x3), some (.int x4)], [.int u0, .int u1], h, 8, 152) Q := by
  exact mWp_ic (P := fun x y => y < x) (a := u1) (b := u0) rfl (fun q => mWp_weak (mLe_n (mLe_n (mLe_n (mLe_n (mLe_n mLe_0))))) (k1 q)) k2
theorem b29_37 {h : mH} {Q : Option Value → mH → Prop}   (k : Q none h) : mWp mCd 29 (37, [none, none, none, none, none], [], h, 8, 152) Q := by
  exact mWp_r (v := none) rfl k
theorem b29_18 {h : mH} {Q : Option Value → mH → Prop} {r0 : Nat} {x3 : Int32} {x4 : Int32}  (k : mCt mCd 30 [.int x4, .int x3] h (fun rv hv => mWp mCd 29 (27, [some (.ref r0), none, none, some (.int x3), some (.int x4)], rv.toList ++ [.int x4, .ref r0], hv, 8, 152) Q)) : mWp mCd 29 (18, [some (.ref r0), none, none, some (.int x3), some (.int x4)], [], h, 8, 152) Q := by
  refine mWp_run 4 (t' := (24, [some (.ref r0), none, none, some (.int x3), some (.int x4)], [.int x3, .int x4, .int x4, .ref r0], h, 8, 152)) rfl ?_
  exact mWp_is rfl rfl rfl rfl rfl k
theorem b29_27 {h : mH} {Q : Option Value → mH → Prop} {r0 : Nat} {x3 : Int32} {x4 : Int32} {u0 : Int32} {u1 : Int32} {q2 : Nat} {ci101 : Nat} {fs102 : List Value} (e1 : h[q2]? = some (.inr (ci101, fs102))) (e2 : ci101 = 4) (k : mCt mCd 48 [.ref q2, .int u1, .int (-u0)] h (fun rv hv => mWp mCd 29 (31, [some (.ref r0), none, none, some (.int x3), some (.int x4)], rv.toList ++ [], hv, 8, 152) Q)) : mWp mCd 29 (27, [some (.ref r0), none, none, some (.int x3), some (.int x4)], [.int u0, .int u1, .ref q2], h, 8, 152) Q := by
  refine mWp_run 1 (t' := (28, [some (.ref r0), none, none, some (.int x3), some (.int x4)], [.int (-u0), .int u1, .ref q2], h, 8, 152)) rfl ?_
  exact mWp_iv rfl rfl e1 (by rw [e2]; rfl) rfl rfl rfl k
theorem b29_31 {h : mH} {Q : Option Value → mH → Prop} {r0 : Nat} {x3 : Int32} {x4 : Int32}  (k : mWp mCd 29 (9, [some (.ref r0), none, none, some (.int x3), some (.int (x4 + iZ 1))], [], h, 8, 152) Q) : mWp mCd 29 (31, [some (.ref r0), none, none, some (.int x3), some (.int x4)], [], h, 8, 152) Q := by
  refine mWp_run 2 (t' := (9, [some (.ref r0), none, none, some (.int x3), some (.int (x4 + iZ 1))], [], h, 8, 152)) rfl ?_
  exact k
theorem b30_0 {h : mH} {Q : Option Value → mH → Prop} {x0 : Int32} {x1 : Int32}  (k : mWp mCd 30 (7, [some (.int x0), none, some (.int (iZ 0)), some (.int x1), some (.int (iZ 0))], [], h, 0, 0) Q) : mWp mCd 30 (0, [some (.int x0), some (.int x1), none, none, none], [], h, 0, 0) Q := by
  refine mWp_run 6 (t' := (7, [some (.int x0), some (.int x1), some (.int (iZ 0)), some (.int x1), some (.int (iZ 0))], [], h, 0, 0)) rfl ?_
  exact mWp_weak (mLe_s (mLe_n (mLe_s (mLe_s (mLe_s mLe_0))))) k
theorem b30_7 {h : mH} {Q : Option Value → mH → Prop} {x0 : Int32} {x2 : Int32} {x3 : Int32} {x4 : Int32}  (k1 : (iZ 4) ≤ x4 → mWp mCd 30 (40, [none, none, some (.int x2), none, none], [], h, 0, 0) Q) (k2 : ¬ ((iZ 4) ≤ x4) → mWp mCd 30 (13, [some (.int x0), none, some (.int x2), some (.int x3), some (.int x4)], [], h, 0, 0) Q) : mWp mCd 30 (7, [some (.int x0), none, some (.int x2), some (.int x3), some (.int x4)], [], h, 0, 0) Q := by
  refine mWp_run 2 (t' := (10, [some (.int x0), none, some (.int x2), some (.int x3), some (.int x4)], [.int (iZ 4), .int x4], h, 0, 0)) rfl ?_
  exact mWp_ic (P := fun x y => y ≤ x) (a := x4) (b := iZ 4) rfl (fun q => mWp_weak (mLe_n (mLe_n (mLe_s (mLe_n (mLe_n mLe_0))))) (k1 q)) k2
theorem b30_40 {h : mH} {Q : Option Value → mH → Prop} {x2 : Int32}  (k : Q (some (.int x2)) h) : mWp mCd 30 (40, [none, none, some (.int x2), none, none], [], h, 0, 0) Q := by
  refine mWp_run 1 (t' := (41, [none, none, some (.int x2), none, none], [.int x2], h, 0, 0)) rfl ?_
  exact mWp_r (v := (some (.int x2))) rfl k
theorem b30_13 {h : mH} {Q : Option Value → mH → Prop} {x0 : Int32} {x2 : Int32} {x3 : Int32} {x4 : Int32}  (k : mCt mCd 126 [.int x0, .int x4] h (fun rv hv => mWp mCd 30 (20, [some (.int x0), none, none, some (.int x3), some (.int x4)], rv.toList ++ [.int x2], hv, 0, 0) Q)) : mWp mCd 30 (13, [some (.int x0), none, some (.int x2), some (.int x3), some (.int x4)], [], h, 0, 0) Q := by
  refine mWp_run 3 (t' := (17, [some (.int x0), none, some (.int x2), some (.int x3), some (.int x4)], [.int x4, .int x0, .int x2], h, 0, 0)) rfl ?_
  exact mWp_is rfl rfl rfl rfl rfl (mCt_mono k (fun rv hv y => mWp_weak (mLe_s (mLe_n (mLe_n (mLe_s (mLe_s mLe_0))))) y))
theorem b30_20 {h : mH} {Q : Option Value → mH → Prop} {x0 : Int32} {x3 : Int32} {x4 : Int32} {u0 : Int32} {u1 : Int32}  (k : mCt mCd 219 [.int u1, .int (u0 * (x3 - x3 / (iZ 51) * (iZ 51)))] h (fun rv hv => mWp mCd 30 (28, [some (.int x0), none, none, some (.int x3), some (.int x4)], rv.toList ++ [], hv, 0, 0) Q)) : mWp mCd 30 (20, [some (.int x0), none, none, some (.int x3), some (.int x4)], [.int u0, .int u1], h, 0, 0) Q := by
  refine mWp_run 2 (t' := (23, [some (.int x0), none, none, some (.int x3), some (.int x4)], [.int (iZ 51), .int x3, .int u0, .int u1], h, 0, 0)) rfl ?_
  refine mWp_idv (f := fun x y => x - x / y * y) rfl (by decide +kernel) ?_
  refine mWp_run 1 (t' := (25, [some (.int x0), none, none, some (.int x3), some (.int x4)], [.int (u0 * (x3 - x3 / (iZ 51) * (iZ 51))), .int u1], h, 0, 0)) rfl ?_
  exact mWp_is rfl rfl rfl rfl rfl k
theorem b30_28 {h : mH} {Q : Option Value → mH → Prop} {x0 : Int32} {x3 : Int32} {x4 : Int32} {u0 : Int32}  (k : mWp mCd 30 (7, [some (.int x0), none, some (.int u0), some (.int (x3 / (iZ 51))), some (.int (x4 + iZ 1))], [], h, 0, 0) Q) : mWp mCd 30 (28, [some (.int x0), none, none, some (.int x3), some (.int x4)], [.int u0], h, 0, 0) Q := by
  refine mWp_run 3 (t' := (32, [some (.int x0), none, some (.int u0), some (.int x3), some (.int x4)], [.int (iZ 51), .int x3], h, 0, 0)) rfl ?_
  refine mWp_idv (f := fun x y => x / y) rfl (by decide +kernel) ?_
  refine mWp_run 3 (t' := (7, [some (.int x0), none, some (.int u0), some (.int (x3 / (iZ 51))), some (.int (x4 + iZ 1))], [], h, 0, 0)) rfl ?_
  exact k
theorem b31_0 {h : mH} {Q : Option Value → mH → Prop} {r0 : Nat}  (k : Q (some (.int (iZ 2))) h) : mWp mCd 31 (0, [some (.ref r0)], [], h, 0, 0) Q := by
  refine mWp_run 1 (t' := (1, [some (.ref r0)], [.int (iZ 2)], h, 0, 0)) rfl ?_
  exact mWp_r (v := (some (.int (iZ 2)))) rfl k
theorem b32_0 {h : mH} {Q : Option Value → mH → Prop} {r0 : Nat} {x1 : Int32} {r2 : Nat} {ran : Int32} (e1 : h[r2]? = some (oT ran)) (k : mCt mCd 71 [.ref r2, .int (iZ 30)] h (fun rv hv => mWp mCd 32 (6, [some (.ref r0), some (.int x1), some (.ref r2)], rv.toList ++ [], hv, 0, 0) Q)) : mWp mCd 32 (0, [some (.ref r0), some (.int x1), some (.ref r2)], [], h, 0, 0) Q := by
  refine mWp_run 2 (t' := (3, [some (.ref r0), some (.int x1), some (.ref r2)], [.int (iZ 30), .ref r2], h, 0, 0)) rfl ?_
  exact mWp_iv rfl rfl e1 rfl rfl rfl rfl k
theorem b32_6 {h : mH} {Q : Option Value → mH → Prop} {r0 : Nat} {x1 : Int32} {r2 : Nat} {num : Int32} {n : Int32} {fd : Int32} (e1 : h[r0]? = some (oV 4 r0 num n fd)) (k : mCt mCd 40 [.ref r0, .int x1, .ref r2] h (fun rv hv => mWp mCd 32 (12, [some (.ref r0), none, none], rv.toList ++ [], hv, 0, 0) Q)) : mWp mCd 32 (6, [some (.ref r0), some (.int x1), some (.ref r2)], [], h, 0, 0) Q := by
  refine mWp_run 3 (t' := (9, [some (.ref r0), some (.int x1), some (.ref r2)], [.ref r2, .int x1, .ref r0], h, 0, 0)) rfl ?_
  exact mWp_iv rfl rfl e1 rfl rfl rfl rfl (mCt_mono k (fun rv hv y => mWp_weak (mLe_s (mLe_n (mLe_n mLe_0))) y))
theorem b32_12 {h : mH} {Q : Option Value → mH → Prop} {r0 : Nat} {u0 : Int32} {num : Int32} {n : Int32} {fd : Int32} (e1 : h[r0]? = some (oV 4 r0 num n fd)) (k : Q (some (.int (u0 + num))) h) : mWp mCd 32 (12, [some (.ref r0), none, none], [.int u0], h, 0, 0) Q := by
  refine mWp_run 1 (t' := (13, [some (.ref r0), none, none], [.ref r0, .int u0], h, 0, 0)) rfl ?_
  refine mWp_gf rfl e1 rfl rfl ?_
  refine mWp_run 1 (t' := (17, [some (.ref r0), none, none], [.int (u0 + num)], h, 0, 0)) rfl ?_
  exact mWp_r (v := (some (.int (u0 + num)))) rfl k
theorem b33_0 {h : mH} {Q : Option Value → mH → Prop} {r0 : Nat} {x1 : Int32} {x2 : Int32} {ci101 : Nat} {fs102 : List Value} (e1 : h[r0]? = some (.inr (ci101, fs102))) (e2 : ([5] : List Nat).contains ci101 = true) (e3 : Nat.blt 0 fs102.length = true) (k : mCt mCd 219 [.int x2, .int (iZ 0)] (h.set r0 (.inr (ci101, fs102.set 0 (.int x1)))) (fun rv hv => mWp mCd 33 (15, [none, none, none], rv.toList ++ [.ref r0], hv, 0, 0) Q)) : mWp mCd 33 (0, [some (.ref r0), some (.int x1), some (.int x2)], [], h, 0, 0) Q := by
  refine mWp_run 1 (t' := (1, [some (.ref r0), some (.int x1), some (.int x2)], [.ref r0], h, 0, 0)) rfl ?_
  refine mWp_run 3 (t' := (6, [some (.ref r0), some (.int x1), some (.int x2)], [.int x1, .ref r0], h, 0, 0)) rfl ?_
  refine mWp_pf rfl e1 e2 rfl e3 ?_
  show mWp mCd 33 (9, [some (.ref r0), some (.int x1), some (.int x2)], [], (h.set r0 (.inr (ci101, fs102.set 0 (.int x1)))), 0, 0) Q
  refine mWp_run 3 (t' := (12, [some (.ref r0), some (.int x1), some (.int x2)], [.int (iZ 0), .int x2, .ref r0], (h.set r0 (.inr (ci101, fs102.set 0 (.int x1)))), 0, 0)) rfl ?_
  exact mWp_is rfl rfl rfl rfl rfl (mCt_mono k (fun rv hv y => mWp_weak (mLe_n (mLe_n (mLe_n mLe_0))) y))
theorem b33_15 {h : mH} {Q : Option Value → mH → Prop} {u0 : Int32} {q1 : Nat} (e1 : ¬ u0 < 0) (e2 : Nat.ble (0 + u0.toNatClampNeg) 40 = true) (e3 : Nat.ble (u0.toNatClampNeg * 8) 536870912 = true) (k : mWp mCd 33 (17, [none, none, none], [.ref ((h).length), .ref q1], (h ++ [aL u0.toNatClampNeg (fun _ => 0)]), 1, (0 + u0.toNatClampNeg)) Q) : mWp mCd 33 (15, [none, none, none], [.int u0, .ref q1], h, 0, 0) Q := by
  refine mWp_na rfl e1 rfl e2 e3 ?_
  exact k
theorem b33_17 {h : mH} {Q : Option Value → mH → Prop} {q0 : Nat} {q1 : Nat} {s : Nat} {ci101 : Nat} {fs102 : List Value} (e1 : h[q1]? = some (.inr (ci101, fs102))) (e2 : ([5] : List Nat).contains ci101 = true) (e3 : Nat.blt 1 fs102.length = true) (e4 : Nat.ble 1 1 = true) (e5 : Nat.ble s 40 = true) (k : Q none (h.set q1 (.inr (ci101, fs102.set 1 (.ref q0))))) : mWp mCd 33 (17, [none, none, none], [.ref q0, .ref q1], h, 1, s) Q := by
  refine mWp_pf rfl e1 e2 rfl e3 ?_
  show mWp mCd 33 (20, [none, none, none], [], (h.set q1 (.inr (ci101, fs102.set 1 (.ref q0)))), 1, s) Q
  exact mWp_vr rfl e4 e5 k
theorem b34_0 {h : mH} {Q : Option Value → mH → Prop} {r0 : Nat} {x1 : Int32} {x2 : Int32}  (k1 : x1 < 0 → mWp mCd 34 (32, [none, none, none], [], h, 0, 0) Q) (k2 : ¬ (x1 < 0) → mWp mCd 34 (4, [some (.ref r0), some (.int x1), some (.int x2)], [], h, 0, 0) Q) : mWp mCd 34 (0, [some (.ref r0), some (.int x1), some (.int x2)], [], h, 0, 0) Q := by
  refine mWp_run 1 (t' := (1, [some (.ref r0), some (.int x1), some (.int x2)], [.int x1], h, 0, 0)) rfl ?_
  exact mWp_if (P := fun x => x < 0) (a := x1) rfl (fun q => mWp_weak (mLe_n (mLe_n (mLe_n mLe_0))) (k1 q)) k2
theorem b34_32 {h : mH} {Q : Option Value → mH → Prop}   (k : Q (some (.int (iZ 0))) h) : mWp mCd 34 (32, [none, none, none], [], h, 0, 0) Q := by
  refine mWp_run 1 (t' := (33, [none, none, none], [.int (iZ 0)], h, 0, 0)) rfl ?_
  exact mWp_r (v := (some (.int (iZ 0)))) rfl k
theorem b34_4 {h : mH} {Q : Option Value → mH → Prop} {r0 : Nat} {x1 : Int32} {x2 : Int32}  (k1 : x2 < 0 → mWp mCd 34 (32, [none, none, none], [], h, 0, 0) Q) (k2 : ¬ (x2 < 0) → mWp mCd 34 (8, [some (.ref r0), some (.int x1), some (.int x2)], [], h, 0, 0) Q) : mWp mCd 34 (4, [some (.ref r0), some (.int x1), some (.int x2)], [], h, 0, 0) Q := by
  refine mWp_run 1 (t' := (5, [some (.ref r0), some (.int x1), some (.int x2)], [.int x2], h, 0, 0)) rfl ?_
  exact mWp_if (P := fun x => x < 0) (a := x2) rfl (fun q => mWp_weak (mLe_n (mLe_n (mLe_n mLe_0))) (k1 q)) k2
theorem b34_8 {h : mH} {Q : Option Value → mH → Prop} {r0 : Nat} {x1 : Int32} {x2 : Int32} {so : Int32} {len101 : Nat} {g102 : Nat → Int64} (e1 : h[r0]? = some (oS r0 so)) (e2 : h[((r0 + 1))]? = some (aL len101 g102)) (k1 : (Int32.ofNat len101) < x1 → mWp mCd 34 (32, [none, none, none], [], h, 0, 0) Q) (k2 : ¬ ((Int32.ofNat len101) < x1) → mWp mCd 34 (17, [some (.ref r0), some (.int x1), some (.int x2)], [], h, 0, 0) Q) : mWp mCd 34 (8, [some (.ref r0), some (.int x1), some (.int x2)], [], h, 0, 0) Q := by
  refine mWp_run 2 (t' := (10, [some (.ref r0), some (.int x1), some (.int x2)], [.ref r0, .int x1], h, 0, 0)) rfl ?_
  refine mWp_gf rfl e1 rfl rfl ?_
  refine mWp_aln rfl e2 (by decide) ?_
  exact mWp_ic (P := fun x y => y < x) (a := x1) (b := Int32.ofNat len101) rfl (fun q => mWp_weak (mLe_n (mLe_n (mLe_n mLe_0))) (k1 q)) k2
theorem b34_17 {h : mH} {Q : Option Value → mH → Prop} {r0 : Nat} {x1 : Int32} {x2 : Int32} {so : Int32} {len101 : Nat} {g102 : Nat → Int64} (e1 : h[r0]? = some (oS r0 so)) (e2 : h[((r0 + 1))]? = some (aL len101 g102)) (k1 : ((Int32.ofNat len101) - x1) < x2 → mWp mCd 34 (32, [none, none, none], [], h, 0, 0) Q) (k2 : ¬ (((Int32.ofNat len101) - x1) < x2) → mWp mCd 34 (28, [none, none, none], [], h, 0, 0) Q) : mWp mCd 34 (17, [some (.ref r0), some (.int x1), some (.int x2)], [], h, 0, 0) Q := by
  refine mWp_run 2 (t' := (19, [some (.ref r0), some (.int x1), some (.int x2)], [.ref r0, .int x2], h, 0, 0)) rfl ?_
  refine mWp_gf rfl e1 rfl rfl ?_
  refine mWp_aln rfl e2 (by decide) ?_
  refine mWp_run 2 (t' := (25, [some (.ref r0), some (.int x1), some (.int x2)], [.int ((Int32.ofNat len101) - x1), .int x2], h, 0, 0)) rfl ?_
  exact mWp_ic (P := fun x y => y < x) (a := x2) (b := (Int32.ofNat len101) - x1) rfl (fun q => mWp_weak (mLe_n (mLe_n (mLe_n mLe_0))) (k1 q)) (fun q => mWp_weak (mLe_n (mLe_n (mLe_n mLe_0))) (k2 q))
theorem b34_28 {h : mH} {Q : Option Value → mH → Prop}   (k : Q (some (.int (iZ 1))) h) : mWp mCd 34 (28, [none, none, none], [], h, 0, 0) Q := by
  refine mWp_run 2 (t' := (33, [none, none, none], [.int (iZ 1)], h, 0, 0)) rfl ?_
  exact mWp_r (v := (some (.int (iZ 1)))) rfl k
theorem b35_0 {h : mH} {Q : Option Value → mH → Prop} {r0 : Nat} {x1 : Int32} {so : Int32} (e1 : h[r0]? = some (oS r0 so)) (k : mCt mCd 34 [.ref r0, .int x1, .int (iZ 1)] h (fun rv hv => mWp mCd 35 (6, [some (.ref r0), some (.int x1)], rv.toList ++ [], hv, 0, 0) Q)) : mWp mCd 35 (0, [some (.ref r0), some (.int x1)], [], h, 0, 0) Q := by
  refine mWp_run 3 (t' := (3, [some (.ref r0), some (.int x1)], [.int (iZ 1), .int x1, .ref r0], h, 0, 0)) rfl ?_
  exact mWp_iv rfl rfl e1 rfl rfl rfl rfl k
theorem b35_6 {h : mH} {Q : Option Value → mH → Prop} {r0 : Nat} {x1 : Int32} {u0 : Int32}  (k1 : u0 = 0 → mWp mCd 35 (18, [none, none], [], h, 0, 0) Q) (k2 : ¬ (u0 = 0) → mWp mCd 35 (9, [some (.ref r0), some (.int x1)], [], h, 0, 0) Q) : mWp mCd 35 (6, [some (.ref r0), some (.int x1)], [.int u0], h, 0, 0) Q := by
  exact mWp_if (P := fun x => x = 0) (a := u0) rfl (fun q => mWp_weak (mLe_n (mLe_n mLe_0)) (k1 q)) k2
theorem b35_18 {h : mH} {Q : Option Value → mH → Prop}   (k : Q (some (.long (lZ 0))) h) : mWp mCd 35 (18, [none, none], [], h, 0, 0) Q := by
  refine mWp_run 1 (t' := (19, [none, none], [.long (lZ 0)], h, 0, 0)) rfl ?_
  exact mWp_r (v := (some (.long (lZ 0)))) rfl k
theorem b35_9 {h : mH} {Q : Option Value → mH → Prop} {r0 : Nat} {x1 : Int32} {so : Int32} {len101 : Nat} {g102 : Nat → Int64} (e1 : h[r0]? = some (oS r0 so)) (e2 : h[((r0 + 1))]? = some (aL len101 g102)) (e3 : ¬ (x1 < 0 ∨ len101 ≤ x1.toNatClampNeg)) (k : Q (some (.long (g102 x1.toNatClampNeg))) h) : mWp mCd 35 (9, [some (.ref r0), some (.int x1)], [], h, 0, 0) Q := by
  refine mWp_run 1 (t' := (10, [some (.ref r0), some (.int x1)], [.ref r0], h, 0, 0)) rfl ?_
  refine mWp_gf rfl e1 rfl rfl ?_
  refine mWp_run 1 (t' := (14, [some (.ref r0), some (.int x1)], [.int x1, .ref (r0 + 1)], h, 0, 0)) rfl ?_
  refine mWp_lal rfl e2 e3 ?_
  refine mWp_run 1 (t' := (19, [some (.ref r0), some (.int x1)], [.long (g102 x1.toNatClampNeg)], h, 0, 0)) rfl ?_
  exact mWp_r (v := (some (.long (g102 x1.toNatClampNeg)))) rfl k
theorem b36_0 {h : mH} {Q : Option Value → mH → Prop} {r0 : Nat} {x1 : Int32} {x2 : Int32} {so : Int32} (e1 : h[r0]? = some (oS r0 so)) (k : mCt mCd 34 [.ref r0, .int x1, .int (iZ 1)] h (fun rv hv => mWp mCd 36 (6, [some (.ref r0), some (.int x1), some (.int x2)], rv.toList ++ [], hv, 0, 0) Q)) : mWp mCd 36 (0, [some (.ref r0), some (.int x1), some (.int x2)], [], h, 0, 0) Q := by
  refine mWp_run 3 (t' := (3, [some (.ref r0), some (.int x1), some (.int x2)], [.int (iZ 1), .int x1, .ref r0], h, 0, 0)) rfl ?_
  exact mWp_iv rfl rfl e1 rfl rfl rfl rfl k
theorem b36_6 {h : mH} {Q : Option Value → mH → Prop} {r0 : Nat} {x1 : Int32} {x2 : Int32} {u0 : Int32}  (k1 : u0 = 0 → mWp mCd 36 (30, [none, none, none], [], h, 0, 0) Q) (k2 : ¬ (u0 = 0) → mWp mCd 36 (9, [some (.ref r0), some (.int x1), some (.int x2)], [], h, 0, 0) Q) : mWp mCd 36 (6, [some (.ref r0), some (.int x1), some (.int x2)], [.int u0], h, 0, 0) Q := by
  exact mWp_if (P := fun x => x = 0) (a := u0) rfl (fun q => mWp_weak (mLe_n (mLe_n (mLe_n mLe_0))) (k1 q)) k2
theorem b36_30 {h : mH} {Q : Option Value → mH → Prop}   (k : Q none h) : mWp mCd 36 (30, [none, none, none], [], h, 0, 0) Q := by
  exact mWp_r (v := none) rfl k
theorem b36_9 {h : mH} {Q : Option Value → mH → Prop} {r0 : Nat} {x1 : Int32} {x2 : Int32} {so : Int32} (e1 : h[r0]? = some (oS r0 so)) (k1 : ¬ so = 0 → mWp mCd 36 (27, [none, none, some (.int x2)], [.int x1, .ref (r0 + 1)], h, 0, 0) Q) (k2 : ¬ (¬ so = 0) → mWp mCd 36 (21, [none, none, some (.int x2)], [.int x1, .ref (r0 + 1)], h, 0, 0) Q) : mWp mCd 36 (9, [some (.ref r0), some (.int x1), some (.int x2)], [], h, 0, 0) Q := by
  refine mWp_run 1 (t' := (10, [some (.ref r0), some (.int x1), some (.int x2)], [.ref r0], h, 0, 0)) rfl ?_
  refine mWp_gf rfl e1 rfl rfl ?_
  refine mWp_run 2 (t' := (15, [some (.ref r0), some (.int x1), some (.int x2)], [.ref r0, .int x1, .ref (r0 + 1)], h, 0, 0)) rfl ?_
  refine mWp_gf rfl e1 rfl rfl ?_
  exact mWp_if (P := fun x => ¬ x = 0) (a := so) rfl (fun q => mWp_weak (mLe_n (mLe_n (mLe_s mLe_0))) (k1 q)) (fun q => mWp_weak (mLe_n (mLe_n (mLe_s mLe_0))) (k2 q))
theorem b36_27 {h : mH} {Q : Option Value → mH → Prop} {x2 : Int32} {u0 : Int32} {q1 : Nat} {len101 : Nat} {g102 : Nat → Int64} (e1 : h[q1]? = some (aL len101 g102)) (e2 : ¬ (u0 < 0 ∨ len101 ≤ u0.toNatClampNeg)) (e3 : 5 ≤ q1) (k : Q none (h.set q1 (aL len101 (vp_updL g102 (u0.toNatClampNeg) (Int32.toInt64 x2))))) : mWp mCd 36 (27, [none, none, some (.int x2)], [.int u0, .ref q1], h, 0, 0) Q := by
  refine mWp_run 2 (t' := (29, [none, none, some (.int x2)], [.long (Int32.toInt64 x2), .int u0, .ref q1], h, 0, 0)) rfl ?_
  refine mWp_las rfl e3 e1 e2 ?_
  show mWp mCd 36 (30, [none, none, some (.int x2)], [], (h.set q1 (aL len101 (vp_updL g102 (u0.toNatClampNeg) (Int32.toInt64 x2)))), 0, 0) Q
  exact mWp_r (v := none) rfl k
theorem b36_21 {h : mH} {Q : Option Value → mH → Prop} {x2 : Int32} {u0 : Int32} {q1 : Nat} {len101 : Nat} {g102 : Nat → Int64} (e1 : h[q1]? = some (aL len101 g102)) (e2 : ¬ (u0 < 0 ∨ len101 ≤ u0.toNatClampNeg)) (e3 : 5 ≤ q1) (k : Q none (h.set q1 (aL len101 (vp_updL g102 (u0.toNatClampNeg) (Int32.toInt64 x2.toInt8.toInt32))))) : mWp mCd 36 (21, [none, none, some (.int x2)], [.int u0, .ref q1], h, 0, 0) Q := by
  refine mWp_run 4 (t' := (29, [none, none, some (.int x2)], [.long (Int32.toInt64 x2.toInt8.toInt32), .int u0, .ref q1], h, 0, 0)) rfl ?_
  refine mWp_las rfl e3 e1 e2 ?_
  show mWp mCd 36 (30, [none, none, some (.int x2)], [], (h.set q1 (aL len101 (vp_updL g102 (u0.toNatClampNeg) (Int32.toInt64 x2.toInt8.toInt32)))), 0, 0) Q
  exact mWp_r (v := none) rfl k
theorem b37_0 {h : mH} {Q : Option Value → mH → Prop} {r0 : Nat} {x1 : Int32} {x2 : Int32} {ci101 : Nat} {fs102 : List Value} (e1 : h[r0]? = some (.inr (ci101, fs102))) (e2 : ([1, 2, 4, 6, 8] : List Nat).contains ci101 = true) (e3 : Nat.blt 0 fs102.length = true) (e4 : ([1, 2, 4, 6, 8] : List Nat).contains ci101 = true) (e5 : Nat.blt 1 (fs102.set 0 (.int x1)).length = true) (k : mWp mCd 37 (19, [some (.ref r0), none, none], [.ref ((((h.set r0 (.inr (ci101, fs102.set 0 (.int x1)))).set r0 (.inr (ci101, (fs102.set 0 (.int x1)).set 1 (.int x2))))).length), .ref r0], (((h.set r0 (.inr (ci101, fs102.set 0 (.int x1)))).set r0 (.inr (ci101, (fs102.set 0 (.int x1)).set 1 (.int x2)))) ++ [aI 16 (fun _ => 0)]), 1, 16) Q) : mWp mCd 37 (0, [some (.ref r0), some (.int x1), some (.int x2)], [], h, 0, 0) Q := by
  refine mWp_run 1 (t' := (1, [some (.ref r0), some (.int x1), some (.int x2)], [.ref r0], h, 0, 0)) rfl ?_
  refine mWp_run 3 (t' := (6, [some (.ref r0), some (.int x1), some (.int x2)], [.int x1, .ref r0], h, 0, 0)) rfl ?_
  refine mWp_pf rfl e1 e2 rfl e3 ?_
  show mWp mCd 37 (9, [some (.ref r0), some (.int x1), some (.int x2)], [], (h.set r0 (.inr (ci101, fs102.set 0 (.int x1)))), 0, 0) Q
  refine mWp_run 2 (t' := (11, [some (.ref r0), some (.int x1), some (.int x2)], [.int x2, .ref r0], (h.set r0 (.inr (ci101, fs102.set 0 (.int x1)))), 0, 0)) rfl ?_
  refine mWp_pf rfl (mGs e1) e4 rfl e5 ?_
  show mWp mCd 37 (14, [some (.ref r0), some (.int x1), some (.int x2)], [], ((h.set r0 (.inr (ci101, fs102.set 0 (.int x1)))).set r0 (.inr (ci101, (fs102.set 0 (.int x1)).set 1 (.int x2)))), 0, 0) Q
  refine mWp_run 2 (t' := (17, [some (.ref r0), some (.int x1), some (.int x2)], [.int (iZ 16), .ref r0], ((h.set r0 (.inr (ci101, fs102.set 0 (.int x1)))).set r0 (.inr (ci101, (fs102.set 0 (.int x1)).set 1 (.int x2)))), 0, 0)) rfl ?_
  refine mWp_run 1 (t' := (19, [some (.ref r0), some (.int x1), some (.int x2)], [.ref ((((h.set r0 (.inr (ci101, fs102.set 0 (.int x1)))).set r0 (.inr (ci101, (fs102.set 0 (.int x1)).set 1 (.int x2))))).length), .ref r0], (((h.set r0 (.inr (ci101, fs102.set 0 (.int x1)))).set r0 (.inr (ci101, (fs102.set 0 (.int x1)).set 1 (.int x2)))) ++ [aI 16 (fun _ => 0)]), 1, 16)) rfl ?_
  exact mWp_weak (mLe_s (mLe_n (mLe_n mLe_0))) k
theorem b37_19 {h : mH} {Q : Option Value → mH → Prop} {r0 : Nat} {q0 : Nat} {q1 : Nat} {ci101 : Nat} {fs102 : List Value} (e1 : h[q1]? = some (.inr (ci101, fs102))) (e2 : ([1, 2, 4, 6, 8] : List Nat).contains ci101 = true) (e3 : Nat.blt 2 fs102.length = true) (k : mWp mCd 37 (26, [some (.ref r0), none, none], [.ref (((h.set q1 (.inr (ci101, fs102.set 2 (.ref q0))))).length), .ref r0], ((h.set q1 (.inr (ci101, fs102.set 2 (.ref q0)))) ++ [aI 4 (fun _ => 0)]), 2, 20) Q) : mWp mCd 37 (19, [some (.ref r0), none, none], [.ref q0, .ref q1], h, 1, 16) Q := by
  refine mWp_pf rfl e1 e2 rfl e3 ?_
  show mWp mCd 37 (22, [some (.ref r0), none, none], [], (h.set q1 (.inr (ci101, fs102.set 2 (.ref q0)))), 1, 16) Q
  refine mWp_run 2 (t' := (24, [some (.ref r0), none, none], [.int (iZ 4), .ref r0], (h.set q1 (.inr (ci101, fs102.set 2 (.ref q0)))), 1, 16)) rfl ?_
  refine mWp_run 1 (t' := (26, [some (.ref r0), none, none], [.ref (((h.set q1 (.inr (ci101, fs102.set 2 (.ref q0))))).length), .ref r0], ((h.set q1 (.inr (ci101, fs102.set 2 (.ref q0)))) ++ [aI 4 (fun _ => 0)]), 2, 20)) rfl ?_
  exact k
