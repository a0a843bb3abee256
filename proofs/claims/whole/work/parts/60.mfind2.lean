/-! ===== the reference: findCorners ===== -/
section MF
variable {H : mH} {Q : Option Value → mH → Prop} {i n : Nat} {w : Nat → Int} {v : Int32} {bA bB : Int64} {rw_ bo : Int32}

theorem al_n1 : ∀ n, n ≤ 4 → al n - 1 ≤ 14 := by decide +kernel
theorem chs_len (ch : Nat) : ∀ k, (chs ch k).length ≤ k
  | 0 => Nat.le_refl 0
  | k + 1 => by
    have := chs_len ch k
    unfold chs
    split
    · rw [List.length_append, List.length_singleton]; omega
    · omega
theorem shl_al : ∀ n, n ≤ 4 → iZ 1 <<< (iZ ((al n - 1 : Nat) : Int) &&& 31) = iZ ((2 ^ (al n - 1) : Nat) : Int) := by decide +kernel
theorem p2_14 : ∀ n, n ≤ 4 → 2 ^ (al n - 1) ≤ 16384 := by decide +kernel
/-- how many sets a choice has -/
theorem l182c {ch : Nat} (hn4 : n ≤ 4) (hch : ch < 16384) {x0 x1 x7 : Option Value} {H1 : mH} (hk : mWp mCd 182 (61, [x0, x1, some (.int (iZ n)), some (.int (iZ ((al n - 1 : Nat) : Int))), some (.int (iZ ch)), some (.int (iZ (chs ch (al n - 1)).length)), none, none], [], H1, 0, 0) Q) (hx0 : x0 = some (.ref 14)) (hx1 : x1 = some (.int (iZ i))) : ∀ k : Nat, k ≤ al n - 1 → mWp mCd 182 (37, [x0, x1, some (.int (iZ n)), some (.int (iZ ((al n - 1 : Nat) : Int))), some (.int (iZ ch)), some (.int (iZ (chs ch k).length)), some (.int (iZ k)), none], [], H1, 0, 0) Q := by
  subst hx0 hx1
  have ha := al_n1 n hn4
  refine lp_up _ ?_ ?_
  · exact b182_37 (fun _ => hk) (fun q => absurd (Int32.le_refl _) q)
  · intro k hkk ih
    refine b182_37 (fun q => ?_) (fun _ => b182_43 ?_)
    · have hs : True := trivial
      simp (disch := (first | assumption | omega | (unfold i32; omega) | (unfold i64; omega))) only [iZ_add, iZ_sub, iZ_mul, iZ_neg, lZ_add, lZ_sub, lZ_mul, lZ_neg, lZ_i, iZ_l, iZ_nat, Int.toNat_natCast, iZ_bit, iZ_shl, iZ_or, iZ_lt, iZ_le, iZ_eq, iZ_lt0, iZ_le0, iZ_gt0, iZ_ge0, iZ_eq0, cmp_eq0, cmp_lt0, cmp_le0, cmp_ge0, cmp_gt0, tf_0, tf_n0, Decidable.not_not, not_true_eq_false, not_false_eq_true, Int.toNat_natCast, hs] at q
      omega
    · rw [iZ_bitN (by omega) (by omega), iZ_add, iZ_add]
      have e : ((chs ch k).length : Int) + (bt ch k : Nat) = (chs ch (k + 1)).length := by
        show _ = (((if bt ch k = 1 then chs ch k ++ [k + 1] else chs ch k).length : Nat) : Int)
        have := bt_01 ch k
        split
        · next q => rw [q, List.length_append]; rfl
        · next q => rw [show bt ch k = 0 by omega]; rfl
      rw [e]
      exact ih
/-- its rows -/
theorem l182r {ch : Nat} {z : Nat → Nat → Int} {H1 : mH} {x18 : mE} (hv : MV H1 i n w) (hch : ch < 16384) (hl : (chs ch (al n - 1)).length = n - 1) (e2 : H1[18]? = some x18) (hk : mWp mCd 182 (121, [some (.ref 14), some (.int (iZ i)), some (.int (iZ n)), some (.int (iZ ((al n - 1 : Nat) : Int))), some (.int (iZ ch)), none, some (.int (iZ (chs ch (al n - 1)).length)), none], [], mm H1 (rz z n w (chs ch (al n - 1))), 0, 0) Q) : ∀ k : Nat, k ≤ al n - 1 → mWp mCd 182 (82, [some (.ref 14), some (.int (iZ i)), some (.int (iZ n)), some (.int (iZ ((al n - 1 : Nat) : Int))), some (.int (iZ ch)), none, some (.int (iZ (chs ch k).length)), some (.int (iZ k))], [], mm H1 (rz z n w (chs ch k)), 0, 0) Q := by
  have hn4 := hv.2.1.2
  have ha := al_n1 n hn4
  have ha2 := al_lt hn4
  have hv' : MV (mm H1 (rz z n w (chs ch (al n - 1)))) i n w := hv.mm
  refine lp_up _ ?_ ?_
  · exact b182_82 (fun _ => hk) (fun q => absurd (Int32.le_refl _) q)
  · intro k hkk ih
    have hle := chs_mono ch (show k ≤ al n - 1 by omega)
    have hle2 := chs_mono ch (show k + 1 ≤ al n - 1 by omega)
    obtain ⟨_, _, _, v, cor, bA, bB, rw_, bo, _, _, e1, _⟩ := id (hv.mm (z := rz z n w (chs ch k)))
    have hs : True := trivial
    have es : chs ch (k + 1) = if bt ch k = 1 then chs ch k ++ [k + 1] else chs ch k := rfl
    refine b182_82 (fun q => ?_) (fun _ => b182_88 (fun q => b182_101 e1 ?_) (fun q => b182_98 (b182_115 ?_)))
    · simp (disch := (first | assumption | omega | (unfold i32; omega) | (unfold i64; omega))) only [iZ_add, iZ_sub, iZ_mul, iZ_neg, lZ_add, lZ_sub, lZ_mul, lZ_neg, lZ_i, iZ_l, iZ_nat, Int.toNat_natCast, iZ_bit, iZ_shl, iZ_or, iZ_lt, iZ_le, iZ_eq, iZ_lt0, iZ_le0, iZ_gt0, iZ_ge0, iZ_eq0, cmp_eq0, cmp_lt0, cmp_le0, cmp_ge0, cmp_gt0, tf_0, tf_n0, Decidable.not_not, not_true_eq_false, not_false_eq_true, Int.toNat_natCast, hs] at q
      omega
    · rw [iZ_bitN (by omega) (by omega)] at q
      have hb : bt ch k = 1 := by
        have := bt_01 ch k
        rcases this with y | y
        · rw [y] at q; exact absurd rfl q
        · exact y
      rw [if_pos hb] at es
      rw [es, List.length_append, List.length_singleton] at hle2
      rw [iZ_add]
      refine c178 (r := (chs ch k).length) (s := k + 1) hv (by omega) (by omega) e2 (b182_112 (b182_115 ?_))
      rw [iZ_add, iZ_add, rz_s, ← es]
      rw [es, List.length_append] at ih
      rw [es]
      exact ih
    · rw [iZ_bitN (by omega) (by omega)] at q
      have hb : ¬ bt ch k = 1 := by
        intro y
        rw [y] at q
        exact q (by decide)
      rw [if_neg hb] at es
      rw [es] at ih
      rw [iZ_add]
      exact ih
theorem Int_dvd2 {a b p : Int} (h : 2 * b = p * a) (ha : 0 < a) (hg : Int.gcd a b = 1) : a ≤ 2 := by
  have h1 : a ∣ b * 2 := ⟨p, by rw [Int.mul_comm b 2, h, Int.mul_comm]⟩
  have h2 : a.natAbs ∣ b.natAbs * 2 := by
    have := Int.natAbs_dvd_natAbs.mpr h1
    rwa [Int.natAbs_mul] at this
  have h3 : a.natAbs ∣ 2 := Nat.Coprime.dvd_of_dvd_mul_left (show Nat.Coprime a.natAbs b.natAbs from hg) h2
  have := Nat.le_of_dvd (by decide) h3
  omega
/-- one choice: what is solved for it, is it a corner, kept -/
theorem l182s {ch : Nat} {z : Nat → Nat → Int} {H1 : mH} {x18 : mE} (hw0 : w 0 = 0) (hch : ch < 2 ^ (al n - 1)) (hv : MV H1 i n w) (hl : (chs ch (al n - 1)).length = n - 1) (e2 : H1[18]? = some x18) (hz : ∀ r c, r < 4 → c < 5 → z r c = 0) (hr : RC H1 n (cL n w ch) v bA bB rw_ bo) (hk : ∀ H2 g, RC H2 n (cL n w (ch + 1)) v bA bB rw_ bo → Eqx [14, 18, 19, 20] H1 H2 → H2[18]? = some (aL 20 g) → mWp mCd 182 (155, [some (.ref 14), some (.int (iZ i)), some (.int (iZ n)), some (.int (iZ ((al n - 1 : Nat) : Int))), some (.int (iZ ch)), none, none, none], [], H2, 0, 0) Q) : mWp mCd 182 (133, [some (.ref 14), some (.int (iZ i)), some (.int (iZ n)), some (.int (iZ ((al n - 1 : Nat) : Int))), some (.int (iZ ch)), none, none, none], [], mm H1 (rz z n w (chs ch (al n - 1) ++ [al n])), 0, 0) Q := by
  have hn1 := hv.2.1.1
  have hn4 := hv.2.1.2
  have hwb := hv.2.2.1
  have hb := chs_b ch (al n - 1)
  have hal : 1 ≤ al n := by
    have := p2_lt (show 0 < n by omega)
    unfold al; omega
  have hr0 := hr
  obtain ⟨hbL, fa, fu, e1, e3, e4, hf⟩ := hr
  let S := chs ch (al n - 1) ++ [al n]
  have hSl : S.length = n := by
    show (chs ch (al n - 1) ++ [al n]).length = n
    rw [List.length_append, hl, List.length_singleton]; omega
  have hSb : ∀ s, s ∈ S → 1 ≤ s ∧ s ≤ al n := by
    intro s hs
    rcases List.mem_append.mp hs with q | q
    · have := hb s q; omega
    · rw [List.mem_singleton.mp q]; omega
  have sol := rz_sol (z := z) (w := w) hn4 hz hSl (fun s hs => (hSb s hs).2)
  have gS : ∀ r, r < S.length → S.getD r 0 ∈ S := fun r hr => by
    rw [List.getD_eq_getElem?_getD, List.getElem?_eq_getElem hr]
    exact List.getElem_mem hr
  have rows : ∀ r, r < n → prim (rz z n w S r) ∧ bdR 1 (rz z n w S r) ∧ ∀ c, n ≤ c → c < 4 → rz z n w S r c = 0 := by
    intro r hr
    have hr2 : r < S.length := by omega
    unfold rz
    rw [if_pos hr2]
    have := hSb _ (gS r hr2)
    exact row_pr hn4 (fun c hc => hz r c (by omega) hc) this.1 this.2 (hwb _)
  have e1' := mm_n (h := H1) (show 18 ≠ 14 by decide) e1 (rz z n w S)
  have rcm : ∀ y, RC (mm H1 y) n (cL n w ch) v bA bB rw_ bo := fun y => ⟨hbL, fa, fu, mm_n (by decide) e1 y, mm_n (by decide) e3 y, mm_n (by decide) e4 y, hf⟩
  have exm : ∀ y, Eqx [14, 18, 19, 20] H1 (mm H1 y) := fun y => (Eqx.rf _ _).st _ (by simp)
  have hno : cS n w ch = false → ∀ y, mWp mCd 182 (155, [some (.ref 14), some (.int (iZ i)), some (.int (iZ n)), some (.int (iZ ((al n - 1 : Nat) : Int))), some (.int (iZ ch)), none, none, none], [], mm H1 y, 0, 0) Q := by
    intro hc y
    refine hk (mm H1 y) (zM y) ?_ (exm y) (mm_18 e2 y)
    rw [show cL n w (ch + 1) = if cS n w ch = true then insL 4 (pS n w (chs ch (al n - 1))) (cL n w ch) else cL n w ch from rfl, hc, if_neg (by decide)]
    exact rcm y
  have hS2 : (∀ x, (∀ s, s ∈ chs ch (al n - 1) → dot s x = 0) → dot (al n) x = 0 → Sol (rz z n w S) n n x 0) := by
    intro x h1 h2
    refine (sol x 0).mpr fun s hs => ?_
    rw [Int.mul_zero]
    rcases List.mem_append.mp hs with q | q
    · exact h1 s q
    · rw [List.mem_singleton.mp q]; exact h2
  refine b182_133 e1' (c176 (Nat.le_refl n) hn4 (fun r hr => (rows r hr).1) (fun r hr => (rows r hr).2.1) (fun r k hr h1 h2 => (rows r hr).2.2 k h1 h2) e1 e2 (fun y hres => ?_) (fun y hfail => ?_))
  · -- solved
    refine b182_139 (fun q => absurd q (by decide)) (fun _ => b182_142 (mm_n (by decide) e1 y) ?_)
    by_cases hd : dS n (chs ch (al n - 1)) = 0
    · obtain ⟨x, ⟨j, hj, hxj⟩, x1, x2⟩ := S_bad hn1 hn4 hl hb hd
      have h1 := (hres.2 x 0).mp (hS2 x x1 x2) j hj
      rw [Int.mul_zero] at h1
      have h2 := (hres.1 j hj).1
      rcases Int.mul_eq_zero.mp h1 with q | q
      · omega
      · exact absurd q hxj
    · obtain ⟨s1, s2, s3, s4⟩ := S_sol hn1 hn4 hw0 hl hb hd
      have hp0 : Sol (rz z n w S) n n (pS n w (chs ch (al n - 1))) 2 := by
        refine (sol _ 2).mpr fun s hs => ?_
        rcases List.mem_append.mp hs with q | q
        · rw [s1 s q, Int.mul_comm]
        · rw [List.mem_singleton.mp q, s4, Int.mul_comm]
      have hp : ∀ j, j < n → 2 * y j 4 = pS n w (chs ch (al n - 1)) j * y j j := by
        intro j hj
        have := (hres.2 _ 2).mp hp0 j hj
        rw [Int.mul_comm 2, ← this, Int.mul_comm]
      have hsm : smR y n := by
        intro j hj
        obtain ⟨r1, r2, r3, r4⟩ := hres.1 j hj
        have := Int_dvd2 (hp j hj) r1 r2
        exact ⟨by omega, r4⟩
      refine c179 hsm hv e2 ?_
      rw [cor_cB hsm hn4 hp]
      by_cases hc : cB n w (pS n w (chs ch (al n - 1))) = true
      · rw [hc]
        have hcs : cS n w ch = true := by
          unfold cS
          rw [hc, Bool.and_true]
          exact decide_eq_true ⟨hl, hd⟩
        refine b182_147 (fun q => absurd q (by decide)) (fun _ => b182_150 (mm_n (by decide) e1 y) ?_)
        have h24 := cL_24 hn1 hn4 hw0 (show ch ≤ 2 ^ (al n - 1) by omega)
        have hpb : ∀ j, bd 2000000000 (pS n w (chs ch (al n - 1)) j) := by
          intro j
          have hen : ∀ s, bd 32000000 (en (w4 n w) s) := by
            intro s
            have g1 := hwb (s &&& al n)
            have g2 := hwb (15 &&& al n)
            unfold en w4
            unfold bd at *
            split <;> omega
          obtain ⟨t0, t1, t2⟩ := tQ_lt hn1 hn4 hl hb
          have := pt_b (fr_lt t0) (fr_lt t1) (fr_lt t2) (hen (tQ n (chs ch (al n - 1)) 0)) (hen (tQ n (chs ch (al n - 1)) 1)) (hen (tQ n (chs ch (al n - 1)) 2)) (show bd 32000000 (2 * w4 n w 15) from by
            have g2 := hwb (15 &&& al n)
            unfold w4
            unfold bd at *
            omega) j
          unfold bd at *
          exact ⟨by have := this.1; unfold pS p3; omega, by have := this.2; unfold pS p3; omega⟩
        refine c181 hn4 (by omega) hsm hp (fun j _ => hpb j) (mm_18 e2 y) (rcm y) (fun H2 hr2 hx2 => ?_)
        have en1 : insL n (pS n w (chs ch (al n - 1))) (cL n w ch) = cL n w (ch + 1) := by
          rw [show cL n w (ch + 1) = if cS n w ch = true then insL 4 (pS n w (chs ch (al n - 1))) (cL n w ch) else cL n w ch from rfl, if_pos hcs]
          refine ins_n hn1 hn4 s3 _ (fun p hp => ?_)
          have hV : Vtx (w4 n w) p := by
            rw [← cL_V hn1 hn4 hw0]
            obtain ⟨c0, h, r⟩ := (cL_mem n w p ch).mp hp
            exact (cL_mem n w p _).mpr ⟨c0, by omega, r⟩
          exact core_z hn1 hn4 hw0 hV.1
        rw [en1] at hr2
        refine hk H2 (zM y) hr2 ((exm y).tr (hx2.mo (by simp))) ?_
        rw [hx2.2 18 (by decide)]
        exact mm_18 e2 y
      · have hcf : cB n w (pS n w (chs ch (al n - 1))) = false := by
          cases h : cB n w (pS n w (chs ch (al n - 1))) with
          | true => exact absurd h hc
          | false => rfl
        have hcs : cS n w ch = false := by
          unfold cS
          rw [hcf, Bool.and_false]
        rw [hcf]
        exact b182_147 (fun _ => hno hcs y) (fun q => absurd rfl q)
  · -- not solved
    refine b182_139 (fun _ => hno ?_ y) (fun q => absurd rfl q)
    have hd : dS n (chs ch (al n - 1)) = 0 := by
      by_cases hd : dS n (chs ch (al n - 1)) = 0
      · exact hd
      · exfalso
        obtain ⟨s1, s2, s3, s4⟩ := S_sol hn1 hn4 hw0 hl hb hd
        rcases hfail with ⟨x, ⟨k, hk, hxk⟩, hx⟩ | hx
        · have h0 := (sol x 0).mp hx
          exact hxk (S_ker hn1 hn4 hl hb hd (fun s hs => by rw [h0 s (List.mem_append_left _ hs), Int.mul_zero]) (by rw [h0 (al n) (List.mem_append_right _ (List.mem_singleton.mpr rfl)), Int.mul_zero]) k hk)
        · have := hx (pS n w (chs ch (al n - 1))) 2 ((sol _ 2).mpr fun s hs => by
            rcases List.mem_append.mp hs with q | q
            · rw [s1 s q, Int.mul_comm]
            · rw [List.mem_singleton.mp q, s4, Int.mul_comm])
          exact absurd this (by decide)
    unfold cS
    rw [hd]
    simp
theorem c182 (hw0 : w 0 = 0) (hv : MV H i n w) {g : Nat → Int64} {cor : Int32} (e1 : H[14]? = some (oM v cor bA bB rw_ bo)) (e2 : H[18]? = some (aL 20 g)) {fa fu : Nat → Int64} (e3 : H[19]? = some (aL 1600 fa)) (e4 : H[20]? = some (aL 1600 fu)) (hq : ∀ H2 g, RC H2 n (cL n w (2 ^ (al n - 1))) v bA bB rw_ bo → Eqx [14, 18, 19, 20] H H2 → H2[18]? = some (aL 20 g) → Q none H2) : mCt mCd 182 [.ref 14, .int (iZ i)] H Q := by
  have hi := hv.1
  have hn1 := hv.2.1.1
  have hn4 := hv.2.1.2
  have ha := al_n1 n hn4
  have h14 := p2_14 n hn4
  have hal : 1 ≤ al n := by
    have := p2_lt (show 0 < n by omega)
    unfold al; omega
  have hv0 := hv
  obtain ⟨_, _, _, _, _, _, _, _, _, sz, _, _, e16, _, hs, _⟩ := hv
  have lp : ∀ N, N ≤ 2 ^ (al n - 1) → ∀ H1 g, RC H1 n (cL n w N) v bA bB rw_ bo → Eqx [14, 18, 19, 20] H H1 → H1[18]? = some (aL 20 g) → mWp mCd 182 (23, [some (.ref 14), some (.int (iZ i)), some (.int (iZ n)), some (.int (iZ ((al n - 1 : Nat) : Int))), some (.int (iZ N)), none, none, none], [], H1, 0, 0) Q := by
    refine lp_up _ ?_ ?_
    · intro H1 g1 hr hx h18
      refine b182_23 (fun _ => b182_161 (hq H1 g1 hr hx h18)) (fun q => absurd ?_ q)
      rw [shl_al n hn4]
      exact Int32.le_refl _
    · intro N hN ih H1 g1 hr hx h18
      obtain ⟨z, hz⟩ := exZ g1
      obtain ⟨_, _, _, d1, _, _, _⟩ := id hr
      have hv1 := hv0.eqx d1 hx (by decide) (by decide)
      subst hz
      refine b182_23 (fun q => ?_) (fun _ => b182_31 (l182c (x7 := none) hn4 (by omega) (b182_61 (fun q => b182_72 d1 ?_) (fun q => b182_69 (b182_155 ?_))) rfl rfl 0 (Nat.zero_le _)))
      · rw [shl_al n hn4, iZ_le (by unfold i32; omega) (by unfold i32; omega)] at q
        omega
      · have hl : (chs N (al n - 1)).length = n - 1 := by
          have hm := chs_len N (al n - 1)
          rw [iZ_sub, iZ_eq (by unfold i32; omega) (by unfold i32; omega)] at q
          omega
        have hm := mm_id h18
        rw [← hm]
        refine c177 d1 h18 (b182_76 ?_)
        have := l182r (Q := Q) (ch := N) (z := clrN z 20) hv1 (by omega) hl h18 (b182_121 (mm_n (by decide) d1 _) (c139 hv1.mm (b182_130 (mm_n (by decide) d1 _) ?_))) 0 (Nat.zero_le _)
        · rw [show chs N 0 = [] from rfl, rz_nil] at this
          exact this
        · refine c178 (r := (chs N (al n - 1)).length) (s := al n) hv1 (by omega) (al_lt hn4) h18 ?_
          rw [rz_s]
          refine l182s hw0 (by omega) hv1 hl h18 (fun r c hr hc => clr_0 z hr hc) hr (fun H2 g2 r2 x2 y2 => b182_155 ?_)
          rw [iZ_add]
          exact ih H2 g2 r2 (hx.tr x2) y2
      · have hl : ¬ (chs N (al n - 1)).length = n - 1 := by
          have hm := chs_len N (al n - 1)
          rw [iZ_sub, iZ_eq (by unfold i32; omega) (by unfold i32; omega)] at q
          omega
        have hc : cS n w N = false := by
          unfold cS
          rw [decide_eq_false (fun h => hl h.1), Bool.false_and]
        rw [iZ_add]
        refine ih H1 (zM z) ?_ hx h18
        rw [show cL n w (N + 1) = if cS n w N = true then insL 4 (pS n w (chs N (al n - 1))) (cL n w N) else cL n w N from rfl, hc, if_neg (by decide)]
        exact hr
  refine en182 (b182_0 e1 e16 (iZ_in (by omega) (by omega) (by decide)) ?_)
  have hv1 : MV (H.set 14 (oM v (iZ 0) bA bB rw_ bo)) i n w := hv0.eqx (mGs e1) ((Eqx.rf [14] H).st _ (by simp)) (by decide) (by decide)
  refine c139 hv1 (b182_17 ?_)
  rw [iZ_nat (by omega) (by omega), Int.toNat_natCast, hs, iZ_sub, show ((al n : Nat) : Int) - 1 = ((al n - 1 : Nat) : Int) by omega]
  exact lp 0 (Nat.zero_le _) _ g ⟨fun c hc => absurd hc (Nat.not_lt_zero _), fa, fu, mGs e1, mGn (by decide) e3, mGn (by decide) e4, fun c hc => absurd hc (Nat.not_lt_zero _)⟩ ((Eqx.rf [14, 18, 19, 20] H).st _ (by simp)) (mGn (by decide) e2)
end MF
