/-! ===== the reference: findBar ===== -/
/-- the code found among the first j -/
def bc (n : Nat) (w : Nat → Int) : Nat → Nat
  | 0 => 0
  | j + 1 => if j = 0 then (leanC n).getD 0 0 else if lExc w n (bc n w j) * lTot ((leanC n).getD j 0) < lExc w n ((leanC n).getD j 0) * lTot (bc n w j) then (leanC n).getD j 0 else bc n w j
theorem lc_mem {n j : Nat} (h : j < (leanC n).length) : (leanC n).getD j 0 ∈ leanC n := by
  rw [List.getD_eq_getElem?_getD, List.getElem?_eq_getElem h]
  exact List.getElem_mem h
theorem bc_mem (n : Nat) (w : Nat → Int) : ∀ j, j < (leanC n).length → bc n w (j + 1) ∈ leanC n
  | 0, h => lc_mem h
  | j + 1, h => by
    have ih := bc_mem n w j (by omega)
    show (if j + 1 = 0 then (leanC n).getD 0 0 else if lExc w n (bc n w (j + 1)) * lTot ((leanC n).getD (j + 1) 0) < lExc w n ((leanC n).getD (j + 1) 0) * lTot (bc n w (j + 1)) then (leanC n).getD (j + 1) 0 else bc n w (j + 1)) ∈ leanC n
    rw [if_neg (by omega)]
    split
    · exact lc_mem h
    · exact ih
theorem lExc_b {n c : Nat} {w : Nat → Int} (hw : ∀ s, bd 16000 (w s)) : bd 2000000 (lExc w n c) := by
  have f : ∀ k, bd (15 * 16000) ((lW c k : Int) * w (lS c k)) := by
    intro k
    refine bd_mul ?_ (hw _)
    have : lW c k < 16 := Nat.mod_lt _ (by decide)
    unfold bd; omega
  have f0 := f 0
  have f1 := f 1
  have f2 := f 2
  have f3 := f 3
  have g := hw (al n)
  unfold lExc
  unfold bd at *
  omega
theorem low_dv (a : Int) {b : Int} (hb : 0 < b) : ∃ g : Int, 0 < g ∧ lowZ a b 0 * g = a ∧ lowZ a b 1 * g = b := by
  refine ⟨(Int.gcd a b : Nat), ?_, ?_, ?_⟩
  · have : Int.gcd a b ≠ 0 := fun q => by have := (Int.gcd_eq_zero_iff.mp q).2; omega
    omega
  · unfold lowZ
    rw [if_pos rfl]
    exact Int.tdiv_mul_cancel (Int.gcd_dvd_left a b)
  · unfold lowZ
    rw [if_neg (by decide)]
    exact Int.tdiv_mul_cancel (Int.gcd_dvd_right a b)
theorem low_bd {a b : Int} {B : Int} (ha : bd B a) (hb : bd B b) (k : Nat) : bd B (lowZ a b k) := by
  unfold lowZ
  split
  · exact bd_tdiv _ ha
  · exact bd_tdiv _ hb
theorem low_06 : lowZ 0 6 0 = 0 ∧ lowZ 0 6 1 = 1 := by decide +kernel
/-- what is found among the first j codes -/
def RBar (H : mH) (n : Nat) (w : Nat → Int) (v cor rw_ bo : Int32) (j : Nat) : Prop := ∃ (a b : Int) (fa fb : Nat → Int64), H[14]? = some (oM v cor (lZ a) (lZ b) rw_ bo) ∧ H[21]? = some (aL 16 fa) ∧ H[22]? = some (aL 16 fb) ∧ (j = 0 → b = 0) ∧ (0 < j → a = lowZ (lExc w n (bc n w j)) (lTot (bc n w j)) 0 ∧ b = lowZ (lExc w n (bc n w j)) (lTot (bc n w j)) 1 ∧ ∀ s, s < al n - 1 → fa (s + 1) = lZ (lowZ (wOf (bc n w j) (s + 1)) 6 0) ∧ fb (s + 1) = lZ (lowZ (wOf (bc n w j) (s + 1)) 6 1))
/-- which comes first: the sums of the solver, or by the codes -/
theorem cmp_bar {X Y a b B e1 t1 e2 t2 : Int} (hB : 0 < B) (hX : X * 6 = e1 * B) (hY : Y * 6 = t1 * B) (hg : ∃ g : Int, 0 < g ∧ a * g = e2 ∧ b * g = t2) : a * Y < X * b ↔ e2 * t1 < e1 * t2 := by
  obtain ⟨g, hg, ha, hb⟩ := hg
  have e : (X * b - a * Y) * (6 * g) = (e1 * t2 - e2 * t1) * B := by
    have h1 : X * b * (6 * g) = (X * 6) * (b * g) := by grind
    have h2 : a * Y * (6 * g) = (a * g) * (Y * 6) := by grind
    rw [Int.sub_mul, h1, h2, hX, hY, ha, hb]
    grind
  generalize hd : X * b - a * Y = d at *
  generalize he : e1 * t2 - e2 * t1 = d2 at *
  have p6 : 0 < 6 * g := by omega
  constructor
  · intro h
    have h1 : 0 < d * (6 * g) := Int.mul_pos (by omega) p6
    rw [e] at h1
    have : ¬ d2 ≤ 0 := fun q => by
      have := Int.mul_nonneg (show 0 ≤ - d2 by omega) (show 0 ≤ B by omega)
      rw [Int.neg_mul] at this
      omega
    omega
  · intro h
    have h1 : 0 < d2 * B := Int.mul_pos (by omega) hB
    rw [← e] at h1
    have : ¬ d ≤ 0 := fun q => by
      have := Int.mul_nonneg (show 0 ≤ - d by omega) (show 0 ≤ 6 * g by omega)
      rw [Int.neg_mul] at this
      omega
    omega
section MF
variable {H : mH} {Q : Option Value → mH → Prop} {i n : Nat} {w : Nat → Int} {v cor : Int32} {rw_ bo : Int32} {z : Nat → Nat → Int} {ch : Nat} {x18 : mE}
/-- one choice that has LEAN weights -/
theorem l186t (hv : MV H i n w) (hch : ch < 16384) {j : Nat} (hj : j < (leanC n).length) (hc : lSets ((leanC n).getD j 0) = chs ch (al n - 1)) (hz : ∀ k, k < (chs ch (al n - 1)).length → 0 < z k k ∧ Int.gcd (z k k) (z k 4) = 1) (hx : ∀ k, k < (chs ch (al n - 1)).length → z k k * (lx4 ((leanC n).getD j 0) k : Int) = z k 4 * 6) (e18 : H[18]? = some x18) (hr : RBar H n w v cor rw_ bo j) (hq : ∀ H', RBar H' n w v cor rw_ bo (j + 1) → Eqx [14, 18, 21, 22] H H' → H'[18]? = some (aL 20 (zM z)) → Q none H') : mCt mCd 185 [.ref 14, .int (iZ i), .int (iZ ch), .int (iZ (chs ch (al n - 1)).length)] (mm H z) Q := by
  have hn4 := hv.2.1.2
  have hwb := hv.2.2.1
  have hcm := lc_mem hj
  have hll := lean_len n hn4 _ hcm
  generalize hcc : (leanC n).getD j 0 = c at *
  obtain ⟨a, b, fa, fb, e1, f1, f2, h0, hp⟩ := hr
  have hsm : smW z (lSets c).length := lean_res hn4 hcm (by rw [hc]; exact hz) (by rw [hc]; exact hx)
  have hwt := lean_wt hn4 hcm (z := z) (by rw [hc]; exact hx) w
  have hBb := zB_4 hsm (by omega)
  have htot := lean_tot n hn4 c hcm
  rw [hc] at hsm hwt hll hBb
  have bb : bd 1000000000 b ∧ (b ≠ 0 → bd 1000000000 a) := by
    by_cases q : j = 0
    · have := h0 q
      rw [this]
      exact ⟨⟨by decide, by decide⟩, fun h => absurd rfl h⟩
    · obtain ⟨pa, pb, _⟩ := hp (by omega)
      have m := bc_mem n w (j - 1) (by omega)
      rw [show j - 1 + 1 = j by omega] at m
      have t := lean_tot n hn4 _ m
      have g1 := bd_mono (show (2000000 : Int) ≤ 1000000000 by decide) (lExc_b (n := n) (c := bc n w j) hwb)
      have g2 : bd 1000000000 (lTot (bc n w j)) := ⟨by omega, by omega⟩
      rw [pa, pb]
      exact ⟨low_bd g1 g2 1, fun _ => low_bd g1 g2 0⟩
  have bcs : bc n w (j + 1) = if j = 0 then c else if lExc w n (bc n w j) * lTot c < lExc w n c * lTot (bc n w j) then c else bc n w j := by
    show (if j = 0 then (leanC n).getD 0 0 else if lExc w n (bc n w j) * lTot ((leanC n).getD j 0) < lExc w n ((leanC n).getD j 0) * lTot (bc n w j) then (leanC n).getD j 0 else bc n w j) = _
    rw [hcc]
    by_cases q : j = 0
    · rw [if_pos q, if_pos q, ← hcc, q]
    · rw [if_neg q, if_neg q]
  have cmp : 0 < j → (a * wTot z (chs ch (al n - 1)).length (chs ch (al n - 1)).length < wSum z w n (chs ch (al n - 1)).length (chs ch (al n - 1)) (chs ch (al n - 1)).length * b ↔ lExc w n (bc n w j) * lTot c < lExc w n c * lTot (bc n w j)) := by
    intro h
    obtain ⟨pa, pb, _⟩ := hp h
    have m := bc_mem n w (j - 1) (by omega)
    rw [show j - 1 + 1 = j by omega] at m
    have t := lean_tot n hn4 _ m
    exact cmp_bar (by omega) hwt.1 hwt.2 (by rw [pa, pb]; exact low_dv _ (by omega))
  have b0 : 0 < j → b ≠ 0 := by
    intro h q
    obtain ⟨pa, pb, _⟩ := hp h
    have m := bc_mem n w (j - 1) (by omega)
    rw [show j - 1 + 1 = j by omega] at m
    have t := lean_tot n hn4 _ m
    obtain ⟨g, _, _, g3⟩ := low_dv (lExc w n (bc n w j)) (show 0 < lTot (bc n w j) by omega)
    rw [← pb, q, Int.zero_mul] at g3
    omega
  refine c185p hv hll.1 (by omega) hsm hch rfl e1 e18 f1 f2 bb.2 bb.1 (fun hb hle => ?_) (fun hor H' fa' fb' hx' g14 g18 g21 g22 hf => ?_)
  · have hj0 : 0 < j := by
      by_cases q : j = 0
      · exact absurd (h0 q) hb
      · omega
    refine hq (mm H z) ⟨a, b, fa, fb, mm_n (by decide) e1 z, mm_n (by decide) f1 z, mm_n (by decide) f2 z, fun h => by omega, fun _ => ?_⟩ ((Eqx.rf _ _).st _ (by simp)) (mm_18 e18 z)
    rw [bcs, if_neg (by omega), if_neg (fun h => by have := (cmp hj0).mpr h; omega)]
    exact hp hj0
  · have hbc : bc n w (j + 1) = c := by
      rw [bcs]
      by_cases q : j = 0
      · rw [if_pos q]
      · rw [if_neg q, if_pos]
        exact (cmp (by omega)).mp (hor.resolve_left (b0 (by omega)))
    have hlow : ∀ k, lowZ (wSum z w n (chs ch (al n - 1)).length (chs ch (al n - 1)) (chs ch (al n - 1)).length) (wTot z (chs ch (al n - 1)).length (chs ch (al n - 1)).length) k = lowZ (lExc w n c) (lTot c) k := by
      intro k
      rw [← lowZ_mul _ _ (show (0 : Int) < 6 by decide) k, hwt.1, hwt.2, lowZ_mul _ _ (by omega) k]
    refine hq H' ⟨_, _, fa', fb', g14, g21, g22, fun h => by omega, fun _ => ?_⟩ hx' g18
    rw [hbc]
    refine ⟨hlow 0, hlow 1, fun s hs => ?_⟩
    obtain ⟨k1, k2⟩ := hf s hs
    rw [k1, k2]
    by_cases q : bt ch s = 1
    · rw [if_pos q, if_pos q]
      have hget := chs_get ch hs q
      have hlt : (chs ch s).length < (chs ch (al n - 1)).length := by
        have hm := chs_mono ch (show s + 1 ≤ al n - 1 by omega)
        rw [show chs ch (s + 1) = chs ch s ++ [s + 1] from if_pos q, List.length_append, List.length_singleton] at hm
        omega
      have ex : lx4 c (chs ch s).length = wOf c (s + 1) := by
        unfold lx4
        rw [hc, hget]
      have hxk := hx _ hlt
      have hzk := (hz _ hlt).1
      rw [ex] at hxk
      generalize (chs ch s).length = k at *
      have low : ∀ t, lowZ (z k 4) (z k k) t = lowZ (wOf c (s + 1) : Int) 6 t := by
        intro t
        rw [← lowZ_mul _ _ (show (0 : Int) < 6 by decide) t, ← hxk, ← lowZ_mul (wOf c (s + 1) : Int) 6 hzk t, Int.mul_comm (z k k), Int.mul_comm (z k k) 6]
      rw [low 0, low 1]
      exact ⟨rfl, rfl⟩
    · rw [if_neg q, if_neg q]
      have : wOf c (s + 1) = 0 := wOf_0 (by omega) (by rw [hc, chs_bit ch hs]; exact q)
      rw [this]
      show lZ 0 = lZ (lowZ 0 6 0) ∧ lZ 1 = lZ (lowZ 0 6 1)
      rw [low_06.1, low_06.2]
      exact ⟨rfl, rfl⟩
end MF
