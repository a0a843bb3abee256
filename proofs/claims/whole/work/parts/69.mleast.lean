/-! ===== the reference: findBar's run, least, bar ===== -/

def barC (n : Nat) (w : Nat → Int) : Nat := bc n w (leanC n).length
def sLeast (c : Nat) (sz : Nat → Nat) (W : Nat → Nat → Int) (a k : Int) : Int := if 0 ≤ a ∧ a < c then (if sz a.toNat ≠ 1 ∧ 0 ≤ k ∧ k ≤ 1 then lowZ (lExc (W a.toNat) (sz a.toNat) (barC (sz a.toNat) (W a.toNat))) (lTot (barC (sz a.toNat) (W a.toNat))) k.toNat else NOz) else NOz
def sBar (c : Nat) (sz : Nat → Nat) (W : Nat → Nat → Int) (a s k : Int) : Int := if 0 ≤ a ∧ a < c then (if (1 ≤ s ∧ s < al (sz a.toNat)) ∧ 0 ≤ k ∧ k ≤ 1 then lowZ (wOf (barC (sz a.toNat) (W a.toNat)) s.toNat) 6 k.toNat else NOz) else NOz
theorem prd_pos {f : Nat → Int} {m : Nat} (h : ∀ k, k < m → 0 < f k) : ∀ k, k ≤ m → 0 < prd f k
  | 0, _ => by unfold prd; decide
  | k + 1, hk => by
    unfold prd
    exact Int.mul_pos (prd_pos h k (by omega)) (h k (by omega))
theorem keyc : ∀ n, n ≤ 4 → ∀ c, c ∈ leanC n → chs (keyS (lSets c)) (al n - 1) = lSets c := by decide +kernel
theorem key_inj {n N c : Nat} (hn : n ≤ 4) (hc : c ∈ leanC n) (h : keyS (lSets c) = N) : lSets c = chs N (al n - 1) := by
  rw [← h, keyc n hn c hc]
section MF
variable {h : mH} {Q : Option Value → mH → Prop} {i n c : Nat} {w : Nat → Int} {kd sz : Nat → Nat} {W : Nat → Nat → Int} {a p s y k q : Int} {v cor : Int32} {bA bB : Int64} {rw_ bo : Int32}
theorem c186 (h2 : 2 ≤ n) (hv : MV h i n w) (e1 : h[14]? = some (oM v cor bA bB rw_ bo)) (hx : RX h) (hq : ∀ h', AskS h h' → Eqx [14, 18, 21, 22] h h' → RBar h' n w v cor rw_ bo (leanC n).length → Q none h') : mCt mCd 186 [.ref 14, .int (iZ i)] h Q := by
  have hi := hv.1
  have hn4 := hv.2.1.2
  have ha := al_n1 n hn4
  have h14 := p2_14 n hn4
  have hal : 1 ≤ al n := by
    have := p2_lt (show 0 < n by omega)
    unfold al; omega
  have hv0 := hv
  obtain ⟨_, _, _, _, _, _, _, _, _, sz, _, _, e16, _, hs, _⟩ := hv
  obtain ⟨g0, fa0, fu0, wa0, wb0, pf0, x1, x2, x3, x4, x5, x6⟩ := hx
  have lp : ∀ N, N ≤ 2 ^ (al n - 1) → 1 ≤ N → ∀ H1 g j, RBar H1 n w v cor rw_ bo j → Eqx [14, 18, 21, 22] h H1 → H1[18]? = some (aL 20 g) → j ≤ (leanC n).length → (∀ i, i < j → keyS (lSets ((leanC n).getD i 0)) < N) → (∀ i, j ≤ i → i < (leanC n).length → N ≤ keyS (lSets ((leanC n).getD i 0))) → mWp mCd 186 (23, [some (.ref 14), some (.int (iZ i)), some (.int (iZ n)), some (.int (iZ ((al n - 1 : Nat) : Int))), some (.int (iZ N)), none, none, none, none], [], H1, 0, 0) Q := by
    refine lp_up _ ?_ ?_
    · intro _ H1 g j hr hx1 h18 hj k1 k2
      refine b186_23 (fun _ => b186_197 ?_) (fun q => absurd ?_ q)
      · have hjl : j = (leanC n).length := by
          by_cases q : j < (leanC n).length
          · have := k2 j (Nat.le_refl _) q
            have := (lean_kb n hn4 _ (lc_mem q)).2
            omega
          · omega
        rw [hjl] at hr
        refine hq H1 ⟨hx1.mo (by decide), ?_, ?_⟩ hx1 hr
        · obtain ⟨_, _, fa, fb, _, y2, y3, _⟩ := hr
          exact ⟨g, fa0, fu0, fa, fb, pf0, h18, (hx1.2 19 (by decide)).trans x2, (hx1.2 20 (by decide)).trans x3, y2, y3, (hx1.2 24 (by decide)).trans x6⟩
        · intro v' cor' bA' bB' rw' bo' e
          obtain ⟨_, _, _, _, y1, _⟩ := hr
          obtain ⟨q1, q2, q3, q4, q5, q6⟩ := oM_inj (e.symm.trans e1)
          subst q1 q5 q6
          exact ⟨_, _, _, y1⟩
      · rw [shl_al n hn4]
        exact Int32.le_refl _
    · intro N hN ih hN1 H1 g j hr hx1 h18 hj k1 k2
      obtain ⟨z, hz⟩ := exZ g
      obtain ⟨a, b, fa, fb, d1, d2, d3, d4, d5⟩ := id hr
      have hv1 := hv0.eqx d1 hx1 (by decide) (by decide)
      subst hz
      have hkey : keyS (chs N (al n - 1)) = N := by rw [keyS_chs, Nat.mod_eq_of_lt hN]
      have hSb := chs_b N (al n - 1)
      have hSl := chs_len N (al n - 1)
      have next : ∀ H2 g2 j2, RBar H2 n w v cor rw_ bo j2 → Eqx [14, 18, 21, 22] h H2 → H2[18]? = some (aL 20 g2) → j2 ≤ (leanC n).length → (∀ i, i < j2 → keyS (lSets ((leanC n).getD i 0)) < N + 1) → (∀ i, j2 ≤ i → i < (leanC n).length → N + 1 ≤ keyS (lSets ((leanC n).getD i 0))) → mWp mCd 186 (191, [some (.ref 14), some (.int (iZ i)), some (.int (iZ n)), some (.int (iZ ((al n - 1 : Nat) : Int))), some (.int (iZ N)), none, none, none, none], [], H2, 0, 0) Q := by
        intro H2 g2 j2 r1 r2 r3 r4 r5 r6
        refine b186_191 ?_
        rw [iZ_add]
        exact ih (by omega) H2 g2 j2 r1 r2 r3 r4 r5 r6
      -- where N is no key of a code
      have stay : (∀ i, i < (leanC n).length → keyS (lSets ((leanC n).getD i 0)) ≠ N) → ∀ y, mWp mCd 186 (191, [some (.ref 14), some (.int (iZ i)), some (.int (iZ n)), some (.int (iZ ((al n - 1 : Nat) : Int))), some (.int (iZ N)), none, none, none, none], [], mm H1 y, 0, 0) Q := by
        intro hno y
        refine next (mm H1 y) (zM y) j ⟨a, b, fa, fb, mm_n (by decide) d1 y, mm_n (by decide) d2 y, mm_n (by decide) d3 y, d4, d5⟩ (hx1.st _ (by simp)) (mm_18 h18 y) hj (fun i hi => by have := k1 i hi; omega) (fun i h1 h2 => ?_)
        have := k2 i h1 h2
        have := hno i h2
        omega
      have hm := mm_id h18
      rw [← hm]
      refine b186_23 (fun q => ?_) (fun _ => b186_31 (l186c hn4 (by omega) (b186_61 (fun q => b186_70 (mm_n (by decide) d1 z) ?_) (fun q => b186_67 (stay ?_ z))) 0 (Nat.zero_le _)))
      · rw [shl_al n hn4, iZ_le (by unfold i32; omega) (by unfold i32; omega)] at q
        omega
      · have hl : (chs N (al n - 1)).length ≤ n := by
          rw [iZ_le (by unfold i32; omega) (by unfold i32; omega)] at q
          omega
        have hl1 : 1 ≤ (chs N (al n - 1)).length := by
          by_cases q : (chs N (al n - 1)).length = 0
          · rw [List.eq_nil_of_length_eq_zero q] at hkey
            have : (0 : Nat) = N := hkey
            omega
          · omega
        have hok := bar_S h2 hn4 (chs_srt N _) hSb hl1 hl
        refine c177 d1 h18 (b186_74 ?_)
        have hz0 : ∀ r c, r < 4 → c < 5 → clrN z 20 r c = 0 := fun r c hr hc => clr_0 z hr hc
        have := l186m (Q := Q) (i := i) (z := clrN z 20) hn4 (show N < 16384 by omega) hl d1 h18 (b186_145 ?_) 0 (Nat.zero_le _)
        · rw [show chs N 0 = [] from rfl, cz_nil] at this
          exact this
        have := l186r (Q := Q) (i := i) (z := clrN z 20) (S := chs N (al n - 1)) (x3 := iZ ((al n - 1 : Nat) : Int)) (x4 := iZ N) (x5 := iZ (chs N (al n - 1)).length) hn4 d1 h18 ?_ 0 (Nat.zero_le _)
        · rw [czr_0] at this
          exact this
        have sol := czr_sol (z := clrN z 20) hn4 hl
        refine b186_172 (mm_n (by decide) d1 _) (c176 hl hn4 (fun r hr => (czr_row hn4 hl hz0 hr).1) (fun r hr => (czr_row hn4 hl hz0 hr).2.1) (fun r k hr h1 h2 => (czr_row hn4 hl hz0 hr).2.2 k h1 h2) d1 h18 (fun y hres => ?_) (fun y hfail => ?_))
        · refine b186_179 (fun q => absurd q (by decide)) (fun _ => b186_182 (mm_n (by decide) d1 y) ?_)
          -- solved
          by_cases hin : ∃ j0, j0 < (leanC n).length ∧ lSets ((leanC n).getD j0 0) = chs N (al n - 1)
          · obtain ⟨j0, hj0, hc0⟩ := hin
            have hk0 : keyS (lSets ((leanC n).getD j0 0)) = N := by rw [hc0]; exact hkey
            have hjj : j0 = j := by
              have a1 : ¬ j0 < j := fun q => by have := k1 j0 q; omega
              have a2 : ¬ j < j0 := fun q => by
                have := k2 j (Nat.le_refl _) (by omega)
                have hp := List.pairwise_iff_getElem.mp (lean_key n hn4) j j0 (by omega) hj0 q
                have e1 : (leanC n)[j]'(by omega) = (leanC n).getD j 0 := by rw [List.getD_eq_getElem?_getD, List.getElem?_eq_getElem (by omega)]; rfl
                have e2 : (leanC n)[j0]'hj0 = (leanC n).getD j0 0 := by rw [List.getD_eq_getElem?_getD, List.getElem?_eq_getElem hj0]; rfl
                rw [e1, e2] at hp
                omega
              omega
            subst hjj
            have hcm := lc_mem hj0
            refine l186t hv1 (by omega) hj0 hc0 (fun k hk => ⟨(hres.1 k hk).1, (hres.1 k hk).2.1⟩) (fun k hk => ?_) h18 hr (fun H2 r2 hx2 y18 => next H2 (zM y) (j0 + 1) r2 (hx1.tr hx2) y18 hj0 (fun i hi => ?_) (fun i h1 h2 => ?_))
            · refine (hres.2 (fun k => (lx4 ((leanC n).getD j0 0) k : Int)) 6).mp ((sol _ 6).mpr fun i hi => ?_) k hk
              rw [← hc0]
              exact lean_row n hn4 _ hcm i hi
            · by_cases q : i = j0
              · subst q; omega
              · have := k1 i (by omega); omega
            · have hp := List.pairwise_iff_getElem.mp (lean_key n hn4) j0 i hj0 h2 (by omega)
              have e1 : (leanC n)[i]'h2 = (leanC n).getD i 0 := by rw [List.getD_eq_getElem?_getD, List.getElem?_eq_getElem h2]; rfl
              have e2 : (leanC n)[j0]'hj0 = (leanC n).getD j0 0 := by rw [List.getD_eq_getElem?_getD, List.getElem?_eq_getElem hj0]; rfl
              rw [e1, e2] at hp
              omega
          · have hno : ∀ i, i < (leanC n).length → keyS (lSets ((leanC n).getD i 0)) ≠ N := by
              intro i hi q
              refine hin ⟨i, hi, ?_⟩
              exact key_inj hn4 (lc_mem hi) q
            have hok2 := hok
            unfold barOK at hok2
            rw [Bool.or_eq_true, Bool.or_eq_true, List.any_eq_true, List.any_eq_true, List.any_eq_true] at hok2
            rcases hok2 with ⟨u, hu, hb⟩ | ⟨c, hc, hd⟩ | ⟨u, hu, hb⟩
            · by_cases hneg : ∃ j, j < (chs N (al n - 1)).length ∧ y j 4 ≤ 0
              · refine c185n (by omega) d1 h18 (fun k hk => (hres.1 k hk).2.2.2) hneg (stay hno y)
              · exfalso
                have hpos : ∀ k, k < (chs N (al n - 1)).length → 0 < y k 4 := fun k hk => by
                  by_cases q : y k 4 ≤ 0
                  · exact absurd ⟨k, hk, q⟩ hneg
                  · omega
                have hB : 0 < zB y (chs N (al n - 1)).length := prd_pos (fun k hk => (hres.1 k hk).1) _ (Nat.le_refl _)
                have hs2 := (hres.2 (wtF y (chs N (al n - 1)).length) (zB y (chs N (al n - 1)).length)).mpr (fun k hk => by
                  have hd : y k k ∣ zB y (chs N (al n - 1)).length := prd_dvd (fun k => y k k) hk
                  have h2 := Int.mul_tdiv_cancel' hd
                  unfold wtF
                  generalize (zB y (chs N (al n - 1)).length).tdiv (y k k) = t at *
                  grind)
                refine bar_u hn4 (by omega) hu hb hB ((sol _ _).mp hs2) (fun k hk => ?_)
                have hd : y k k ∣ zB y (chs N (al n - 1)).length := prd_dvd (fun k => y k k) hk
                have h2 := Int.mul_tdiv_cancel' hd
                have h3 := (hres.1 k hk).1
                have h4 : 0 < (zB y (chs N (al n - 1)).length).tdiv (y k k) := by
                  by_cases q : (zB y (chs N (al n - 1)).length).tdiv (y k k) ≤ 0
                  · have := Int.mul_nonneg (show 0 ≤ y k k by omega) (show 0 ≤ - (zB y (chs N (al n - 1)).length).tdiv (y k k) by omega)
                    rw [Int.mul_neg] at this
                    omega
                  · omega
                exact Int.mul_pos (hpos k hk) h4
            · obtain ⟨i0, hi0, e0⟩ := List.mem_iff_getElem.mp hc
              refine absurd ⟨i0, hi0, ?_⟩ hin
              rw [List.getD_eq_getElem?_getD, List.getElem?_eq_getElem hi0]
              show lSets (leanC n)[i0] = _
              rw [e0]
              exact of_decide_eq_true hd
            · obtain ⟨⟨k, hk, hyk⟩, hy0⟩ := bar_y hb
              have := (hres.2 (v4 u) 0).mp ((sol _ 0).mpr fun i hi => hy0 i (by omega)) k hk
              rw [Int.mul_zero] at this
              have h3 := (hres.1 k hk).1
              rcases Int.mul_eq_zero.mp this with q | q
              · omega
              · exact absurd q hyk
        · refine b186_179 (fun _ => stay (fun i hi q => ?_) y) (fun q => absurd rfl q)
          -- not solved
          have hc0 := key_inj hn4 (lc_mem hi) (show keyS (lSets ((leanC n).getD i 0)) = N from q)
          have hcm := lc_mem hi
          rcases hfail with ⟨x, ⟨k, hk, hxk⟩, hxs⟩ | hxs
          · have hs0 := (sol x 0).mp hxs
            rw [← hc0] at hs0 hk
            exact hxk (lean_ker hn4 hcm hs0 k hk)
          · have := hxs (fun k => (lx4 ((leanC n).getD i 0) k : Int)) 6 ((sol _ 6).mpr fun r hr => by
              rw [← hc0]
              exact lean_row n hn4 _ hcm r hr)
            exact absurd this (by decide)
      · have hl : ¬ (chs N (al n - 1)).length ≤ n := by
          rw [iZ_le (by unfold i32; omega) (by unfold i32; omega)] at q
          omega
        intro i hi q2
        have hc0 := key_inj hn4 (lc_mem hi) q2
        have := lean_len n hn4 _ (lc_mem hi)
        rw [hc0] at this
        omega
  refine en186 (b186_0 e1 e16 (iZ_in (by omega) (by omega) (by decide)) ?_)
  have hx14 : Eqx [14, 18, 21, 22] h (h.set 14 (oM v cor bA (lZ 0) rw_ bo)) := (Eqx.rf _ h).st _ (by simp)
  have hv1 : MV (h.set 14 (oM v cor bA (lZ 0) rw_ bo)) i n w := hv0.eqx (mGs e1) hx14 (by decide) (by decide)
  refine c139 hv1 (b186_17 ?_)
  rw [iZ_nat (by omega) (by omega), Int.toNat_natCast, hs, iZ_sub, show ((al n : Nat) : Int) - 1 = ((al n - 1 : Nat) : Int) by omega]
  refine lp 1 (Nat.one_le_two_pow) (Nat.le_refl 1) _ g0 0 ⟨bA.toInt, 0, wa0, wb0, ?_, mGn (by decide) x4, mGn (by decide) x5, fun _ => rfl, fun q => absurd q (by omega)⟩ hx14 (mGn (by decide) x1) (Nat.zero_le _) (fun i hi => absurd hi (Nat.not_lt_zero _)) (fun i _ hi => (lean_kb n hn4 _ (lc_mem hi)).1)
  rw [show lZ bA.toInt = bA from Int64.ofInt_toInt _]
  exact mGs e1
end MF
