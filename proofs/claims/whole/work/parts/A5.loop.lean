/-! ===== the law's loop ===== -/
section LP
variable {L : Nat} {xs : Nat → Int32} {h : mH} {k cc ss : Nat}
theorem sw35 (P : Nat → Prop) (p0 : P 188) (p1 : P 211) (p2 : P 254) (p3 : P 297) (p4 : P 330) (p5 : P 363) (p6 : P 416) (p7 : P 449) (p8 : P 492) (p9 : P 515) (p10 : P 528) (p11 : P 561) (p12 : P 595) (p13 : P 639) (p14 : P 693) (p15 : P 747) (p16 : P 780) (p17 : P 834) (p18 : P 888) (p19 : P 922) (p20 : P 966) (p21 : P 989) (p22 : P 1032) (p23 : P 1075) (p24 : P 1098) (p25 : P 1122) (p26 : P 1185) (p27 : P 1208) (p28 : P 1251) (p29 : P 1274) (p30 : P 1297) (p31 : P 1340) (p32 : P 1383) (p33 : P 1436) (p34 : P 1499) {z : Int} (hz : ¬ (z < 0 ∨ 34 < z)) : ∃ t, ([188, 211, 254, 297, 330, 363, 416, 449, 492, 515, 528, 561, 595, 639, 693, 747, 780, 834, 888, 922, 966, 989, 1032, 1075, 1098, 1122, 1185, 1208, 1251, 1274, 1297, 1340, 1383, 1436, 1499] : List Nat)[(z - 0).toNat]? = some t ∧ P t := by
  obtain ⟨n, rfl⟩ : ∃ n : Nat, z = (n : Int) := ⟨z.toNat, by omega⟩
  have hn : n < 35 := by omega
  have e : ((n : Int) - 0).toNat = n := by omega
  rw [e]
  clear e hz
  obtain rfl | hn0 : n = 0 ∨ n ≠ 0 := by omega
  · exact ⟨_, rfl, p0⟩
  obtain rfl | hn1 : n = 1 ∨ n ≠ 1 := by omega
  · exact ⟨_, rfl, p1⟩
  obtain rfl | hn2 : n = 2 ∨ n ≠ 2 := by omega
  · exact ⟨_, rfl, p2⟩
  obtain rfl | hn3 : n = 3 ∨ n ≠ 3 := by omega
  · exact ⟨_, rfl, p3⟩
  obtain rfl | hn4 : n = 4 ∨ n ≠ 4 := by omega
  · exact ⟨_, rfl, p4⟩
  obtain rfl | hn5 : n = 5 ∨ n ≠ 5 := by omega
  · exact ⟨_, rfl, p5⟩
  obtain rfl | hn6 : n = 6 ∨ n ≠ 6 := by omega
  · exact ⟨_, rfl, p6⟩
  obtain rfl | hn7 : n = 7 ∨ n ≠ 7 := by omega
  · exact ⟨_, rfl, p7⟩
  obtain rfl | hn8 : n = 8 ∨ n ≠ 8 := by omega
  · exact ⟨_, rfl, p8⟩
  obtain rfl | hn9 : n = 9 ∨ n ≠ 9 := by omega
  · exact ⟨_, rfl, p9⟩
  obtain rfl | hn10 : n = 10 ∨ n ≠ 10 := by omega
  · exact ⟨_, rfl, p10⟩
  obtain rfl | hn11 : n = 11 ∨ n ≠ 11 := by omega
  · exact ⟨_, rfl, p11⟩
  obtain rfl | hn12 : n = 12 ∨ n ≠ 12 := by omega
  · exact ⟨_, rfl, p12⟩
  obtain rfl | hn13 : n = 13 ∨ n ≠ 13 := by omega
  · exact ⟨_, rfl, p13⟩
  obtain rfl | hn14 : n = 14 ∨ n ≠ 14 := by omega
  · exact ⟨_, rfl, p14⟩
  obtain rfl | hn15 : n = 15 ∨ n ≠ 15 := by omega
  · exact ⟨_, rfl, p15⟩
  obtain rfl | hn16 : n = 16 ∨ n ≠ 16 := by omega
  · exact ⟨_, rfl, p16⟩
  obtain rfl | hn17 : n = 17 ∨ n ≠ 17 := by omega
  · exact ⟨_, rfl, p17⟩
  obtain rfl | hn18 : n = 18 ∨ n ≠ 18 := by omega
  · exact ⟨_, rfl, p18⟩
  obtain rfl | hn19 : n = 19 ∨ n ≠ 19 := by omega
  · exact ⟨_, rfl, p19⟩
  obtain rfl | hn20 : n = 20 ∨ n ≠ 20 := by omega
  · exact ⟨_, rfl, p20⟩
  obtain rfl | hn21 : n = 21 ∨ n ≠ 21 := by omega
  · exact ⟨_, rfl, p21⟩
  obtain rfl | hn22 : n = 22 ∨ n ≠ 22 := by omega
  · exact ⟨_, rfl, p22⟩
  obtain rfl | hn23 : n = 23 ∨ n ≠ 23 := by omega
  · exact ⟨_, rfl, p23⟩
  obtain rfl | hn24 : n = 24 ∨ n ≠ 24 := by omega
  · exact ⟨_, rfl, p24⟩
  obtain rfl | hn25 : n = 25 ∨ n ≠ 25 := by omega
  · exact ⟨_, rfl, p25⟩
  obtain rfl | hn26 : n = 26 ∨ n ≠ 26 := by omega
  · exact ⟨_, rfl, p26⟩
  obtain rfl | hn27 : n = 27 ∨ n ≠ 27 := by omega
  · exact ⟨_, rfl, p27⟩
  obtain rfl | hn28 : n = 28 ∨ n ≠ 28 := by omega
  · exact ⟨_, rfl, p28⟩
  obtain rfl | hn29 : n = 29 ∨ n ≠ 29 := by omega
  · exact ⟨_, rfl, p29⟩
  obtain rfl | hn30 : n = 30 ∨ n ≠ 30 := by omega
  · exact ⟨_, rfl, p30⟩
  obtain rfl | hn31 : n = 31 ∨ n ≠ 31 := by omega
  · exact ⟨_, rfl, p31⟩
  obtain rfl | hn32 : n = 32 ∨ n ≠ 32 := by omega
  · exact ⟨_, rfl, p32⟩
  obtain rfl | hn33 : n = 33 ∨ n ≠ 33 := by omega
  · exact ⟨_, rfl, p33⟩
  obtain rfl | hn34 : n = 34 ∨ n ≠ 34 := by omega
  · exact ⟨_, rfl, p34⟩
  omega
theorem lit (hL : L ≤ 3072) (hk : 6 * k + 6 ≤ L) (hcc : cc ≤ 25 + 9 * k) (hss : ss ≤ 3899 + 158 * k) (hx : LX L xs h) (hn : NX L xs k) : mWp mCd 221 (27, [some (.ref 0), some (.ref 5), some (.ref 14), some (.int (iZ ((6 * k : Nat) : Int)))], [], h, cc, ss) QL := by
  have hx0 := hx
  obtain ⟨hS, c, kd, sz, W, T, r, f, so, it, im, hr, hc, hg⟩ := hx
  refine b221_27 hS (iZ_in (by omega) (by omega) (by omega)) (fun _ => hn h _ _ hx0 (by omega) (by omega)) (fun z => ?_)
  refine sw35 (fun t => mWp mCd 221 (t, [some (.ref 0), some (.ref 5), some (.ref 14), some (.int (iZ ((6 * k : Nat) : Int)))], [], h, cc, ss) QL) ?_ ?_ ?_ ?_ ?_ ?_ ?_ ?_ ?_ ?_ ?_ ?_ ?_ ?_ ?_ ?_ ?_ ?_ ?_ ?_ ?_ ?_ ?_ ?_ ?_ ?_ ?_ ?_ ?_ ?_ ?_ ?_ ?_ ?_ ?_ z
  · exact wc0 hL hk hcc hss hS hr hc hg hn
  · exact wc1 hL hk hcc hss hS hr hc hg hn
  · exact wc2 hL hk hcc hss hS hr hc hg hn
  · exact wc3 hL hk hcc hss hS hr hc hg hn
  · exact wc4 hL hk hcc hss hS hr hc hg hn
  · exact wc5 hL hk hcc hss hS hr hc hg hn
  · exact wc6 hL hk hcc hss hS hr hc hg hn
  · exact wc7 hL hk hcc hss hS hr hc hg hn
  · exact wc8 hL hk hcc hss hS hr hc hg hn
  · exact wc9 hL hk hcc hss hS hr hc hg hn
  · exact wc10 hL hk hcc hss hS hr hc hg hn
  · exact wc11 hL hk hcc hss hS hr hc hg hn
  · exact wc12 hL hk hcc hss hS hr hc hg hn
  · exact wc13 hL hk hcc hss hS hr hc hg hn
  · exact wc14 hL hk hcc hss hS hr hc hg hn
  · exact wc15 hL hk hcc hss hS hr hc hg hn
  · exact wc16 hL hk hcc hss hS hr hc hg hn
  · exact wc17 hL hk hcc hss hS hr hc hg hn
  · exact wc18 hL hk hcc hss hS hr hc hg hn
  · exact wc19 hL hk hcc hss hS hr hc hg hn
  · exact wc20 hL hk hcc hss hS hr hc hg hn
  · exact wc21 hL hk hcc hss hS hr hc hg hn
  · exact wc22 hL hk hcc hss hS hr hc hg hn
  · exact wc23 hL hk hcc hss hS hr hc hg hn
  · exact wc24 hL hk hcc hss hS hr hc hg hn
  · exact wc25 hL hk hcc hss hS hr hc hg hn
  · exact wc26 hL hk hcc hss hS hr hc hg hn
  · exact wc27 hL hk hcc hss hS hr hc hg hn
  · exact wc28 hL hk hcc hss hS hr hc hg hn
  · exact wc29 hL hk hcc hss hS hr hc hg hn
  · exact wc30 hL hk hcc hss hS hr hc hg hn
  · exact wc31 hL hk hcc hss hS hr hc hg hn
  · exact wc32 hL hk hcc hss hS hr hc hg hn
  · exact wc33 hL hk hcc hss hS hr hc hg hn
  · exact wc34 hL hk hcc hss hS hr hc hg hn
theorem llp (hL : L ≤ 3072) : ∀ (n k : Nat), L < 6 * (k + n) → 6 * k ≤ L + 6 → ∀ (h : mH) (cc ss : Nat), LX L xs h → cc ≤ 25 + 9 * k → ss ≤ 3899 + 158 * k → mWp mCd 221 (18, [some (.ref 0), some (.ref 5), some (.ref 14), some (.int (iZ ((6 * k : Nat) : Int)))], [], h, cc, ss) QL := by
  intro n
  induction n with
  | zero =>
    intro k h1 h2 h cc ss hx hcc hss
    refine b221_18 hx.1 (fun _ => b221_1538 (Nat.ble_eq.mpr (by omega)) (Nat.ble_eq.mpr (by omega)) rfl) (fun z => absurd ?_ z)
    rw [onat, iZ_sub, iZ_lt ⟨by omega, by omega⟩ ⟨by omega, by omega⟩]
    omega
  | succ n ih =>
    intro k h1 h2 h cc ss hx hcc hss
    refine b221_18 hx.1 (fun _ => b221_1538 (Nat.ble_eq.mpr (by omega)) (Nat.ble_eq.mpr (by omega)) rfl) (fun z => ?_)
    rw [onat, iZ_sub, iZ_lt ⟨by omega, by omega⟩ ⟨by omega, by omega⟩] at z
    refine lit hL (by omega) hcc hss hx (fun h' c' s' hx' hc' hs' => ?_)
    refine b221_1532 ?_
    have e : iZ ((6 * k : Nat) : Int) + iZ 6 = iZ ((6 * (k + 1) : Nat) : Int) := by
      rw [iZ_add]
      congr 1
    rw [e]
    exact ih (k + 1) (by omega) (by omega) h' c' s' hx' hc' hs'
end LP
