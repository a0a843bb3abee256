/-! ===== the reference: weigh, on ===== -/
section MW
variable {H : mH} {Q : Option Value → mH → Prop} {i n m : Nat} {w : Nat → Int} {v cor : Int32} {a b : Int} {rw_ bo : Int32} {z : Nat → Nat → Int} {ch : Nat} {x18 : mE}

/-- the sums -/
theorem l185s (hv : MV H i n w) (hm : m ≤ 4) (hsm : smW z m) (hch : ch < 16384) (hl : (chs ch (al n - 1)).length = m) (hz : H[18]? = some (aL 20 (zM z))) (hk : mWp mCd 185 (161, [some (.ref 14), some (.int (iZ i)), some (.int (iZ ch)), none, none, none, some (.long (lZ (wSum z w n m (chs ch (al n - 1)) m))), none, some (.long (lZ (wTot z m m))), none, none, none, none, none], [], H, 0, 0) Q) : ∀ s : Nat, s ≤ al n - 1 → mWp mCd 185 (77, [some (.ref 14), some (.int (iZ i)), some (.int (iZ ch)), none, some (.long (lZ (zB z m))), none, some (.long (lZ (wSum z w n m (chs ch (al n - 1)) (chs ch s).length))), none, some (.long (lZ (wTot z m (chs ch s).length))), none, some (.int (iZ (chs ch s).length)), some (.int (iZ ((s + 1 : Nat) : Int))), none, none], [], H, 0, 0) Q := by
  have hn4 := hv.2.1.2
  have hal1 : 1 ≤ al n := by
    have := p2_lt (show 0 < n by have := hv.2.1.1; omega)
    unfold al; omega
  have hal := al_lt hn4
  obtain ⟨_, _, _, v, cor, bA, bB, rw_, bo, _, _, e1, _⟩ := id hv
  refine lp_up _ ?_ ?_
  · refine b185_77 e1 (c139 hv (b185_84 (fun _ => ?_) (fun q => ?_)))
    · rw [hl]
      exact hk
    · rw [iZ_le (by unfold i32; omega) (by unfold i32; omega)] at q
      omega
  · intro s hs ih
    have hlen := chs_len ch s
    have hle := chs_mono ch (show s + 1 ≤ al n - 1 by omega)
    have es : chs ch (s + 1) = if bt ch s = 1 then chs ch s ++ [s + 1] else chs ch s := rfl
    have sb : iZ ((s + 1 : Nat) : Int) - iZ 1 = iZ s := by rw [iZ_sub]; congr 1; omega
    refine b185_77 e1 (c139 hv (b185_84 (fun q => ?_) (fun _ => b185_87 (fun q => ?_) (fun q => b185_98 (b185_155 ?_)))))
    · rw [iZ_le (by unfold i32; omega) (by unfold i32; omega)] at q
      omega
    · rw [sb, iZ_bitN (by omega) (by omega)] at q
      have hb : bt ch s = 1 := by
        have := bt_01 ch s
        rcases this with y | y
        · rw [y] at q; exact absurd rfl q
        · exact y
      have hget := chs_get ch (show s < al n - 1 by omega) hb
      rw [if_pos hb] at es
      rw [es, List.length_append, List.length_singleton] at hle
      rw [es, List.length_append, List.length_singleton] at ih
      have hk : (chs ch s).length < m := by omega
      generalize hkk : (chs ch s).length = k at *
      have hzk := hsm k hk
      have hB := zB_4 hsm hm
      have hin1 : ¬ (iZ 5 * iZ k + iZ 4 < 0 ∨ 20 ≤ (iZ 5 * iZ k + iZ 4).toNatClampNeg) := by
        rw [iZ_mul, iZ_add]
        exact iZ_in (by omega) (by omega) (by decide)
      have hin2 : ¬ (iZ 5 * iZ k + iZ k < 0 ∨ 20 ≤ (iZ 5 * iZ k + iZ k).toNatClampNeg) := by
        rw [iZ_mul, iZ_add]
        exact iZ_in (by omega) (by omega) (by decide)
      have z4 := zM_at z k 4 (by omega)
      have zk := zM_at z k k (by omega)
      have t1 : (iZ 5 * iZ k + iZ 4).toNatClampNeg = 5 * k + 4 := by rw [iZ_mul, iZ_add, iZ_nat (by omega) (by omega)]; omega
      have t2 : (iZ 5 * iZ k + iZ k).toNatClampNeg = 5 * k + k := by rw [iZ_mul, iZ_add, iZ_nat (by omega) (by omega)]; omega
      refine b185_101 e1 hz hin1 hin2 ?_ ?_
      · rw [t2, zk, lZ_eq0 (by unfold i64; omega)]
        omega
      · rw [t1, t2, z4, zk, lZ_div (by unfold i64; omega) (by unfold i64; omega) (by omega), lZ_mul]
        refine c144 hv (by omega) (b185_141 (b185_155 ?_))
        rw [lZ_mul, lZ_add, lZ_add, iZ_add, iZ_add]
        have e1 : wSum z w n m (chs ch (al n - 1)) k + z k 4 * (zB z m).tdiv (z k k) * w (s + 1) = wSum z w n m (chs ch (al n - 1)) (k + 1) := by
          unfold wSum
          rw [show sumTo (fun j => wtF z m j * w ((chs ch (al n - 1)).getD j 0)) (k + 1) = sumTo (fun j => wtF z m j * w ((chs ch (al n - 1)).getD j 0)) k + wtF z m k * w ((chs ch (al n - 1)).getD k 0) from rfl, hget]
          unfold wtF
          omega
        have e2 : wTot z m k + z k 4 * (zB z m).tdiv (z k k) = wTot z m (k + 1) := rfl
        rw [e1, e2]
        exact ih
    · rw [sb, iZ_bitN (by omega) (by omega)] at q
      have hb : ¬ bt ch s = 1 := by
        intro y
        rw [y] at q
        exact q (by decide)
      rw [if_neg hb] at es
      rw [es] at ih
      rw [iZ_add]
      exact ih
theorem c185p (hv : MV H i n w) (hm1 : 1 ≤ m) (hm : m ≤ 4) (hsm : smW z m) (hch : ch < 16384) (hl : (chs ch (al n - 1)).length = m) {fa fb : Nat → Int64} (e1 : H[14]? = some (oM v cor (lZ a) (lZ b) rw_ bo)) (hz : H[18]? = some x18) (f1 : H[21]? = some (aL 16 fa)) (f2 : H[22]? = some (aL 16 fb)) (ha : b ≠ 0 → bd 1000000000 a) (hb : bd 1000000000 b)
    (hq0 : b ≠ 0 → wSum z w n m (chs ch (al n - 1)) m * b ≤ a * wTot z m m → Q none (mm H z))
    (hq1 : b = 0 ∨ a * wTot z m m < wSum z w n m (chs ch (al n - 1)) m * b → ∀ H' fa' fb', Eqx [14, 18, 21, 22] H H' → H'[14]? = some (oM v cor (lZ (lowZ (wSum z w n m (chs ch (al n - 1)) m) (wTot z m m) 0)) (lZ (lowZ (wSum z w n m (chs ch (al n - 1)) m) (wTot z m m) 1)) rw_ bo) → H'[18]? = some (aL 20 (zM z)) → H'[21]? = some (aL 16 fa') → H'[22]? = some (aL 16 fb') → (∀ s, s < al n - 1 → fa' (s + 1) = lZ (if bt ch s = 1 then lowZ (z (chs ch s).length 4) (z (chs ch s).length (chs ch s).length) 0 else 0) ∧ fb' (s + 1) = lZ (if bt ch s = 1 then lowZ (z (chs ch s).length 4) (z (chs ch s).length (chs ch s).length) 1 else 1)) → Q none H') : mCt mCd 185 [.ref 14, .int (iZ i), .int (iZ ch), .int (iZ m)] (mm H z) Q := by
  have hs : True := trivial
  have e1' := mm_n (h := H) (show 18 ≠ 14 by decide) e1 z
  have e2' := mm_18 (h := H) hz z
  have f1' := mm_n (h := H) (show 18 ≠ 21 by decide) f1 z
  have f2' := mm_n (h := H) (show 18 ≠ 22 by decide) f2 z
  have hv' : MV (mm H z) i n w := hv.mm
  have hn4 := hv.2.1.2
  have hwb := hv.2.2.1
  have hal := al_lt hn4
  have l0 : i64 0 := ⟨by omega, by omega⟩
  have hS := wSum_b (n := n) hsm hm hwb (chs ch (al n - 1)) (Nat.le_refl m)
  have hT := wTot_b hsm hm m (Nat.le_refl m)
  generalize hSS : wSum z w n m (chs ch (al n - 1)) m = X at *
  generalize hTT : wTot z m m = Y at *
  have hY : bd 31104 Y := ⟨by omega, by omega⟩
  have m1 := bd_mul hS hb
  have i1 : i64 (X * b) := by unfold bd at m1; unfold i64; omega
  have i2 : b ≠ 0 → i64 (a * Y) := by
    intro h
    have m2 := bd_mul (ha h) hY
    unfold bd at m2; unfold i64; omega
  have ib : i64 b := by unfold bd at hb; unfold i64; omega
  have bX : bd 4611686018427387903 X := by unfold bd at *; omega
  have bY : bd 4611686018427387903 Y := by unfold bd at *; omega
  have take : b = 0 ∨ a * Y < X * b → mWp mCd 185 (189, [some (.ref 14), some (.int (iZ i)), some (.int (iZ ch)), none, none, none, some (.long (lZ X)), none, some (.long (lZ Y)), none, none, none, none, none], [], mm H z, 0, 0) Q := by
    intro hc
    refine b185_189 e1' (c161 e1' (k := 0) (by decide) bX bY (by omega) (b185_199 e1' (c161 (mGs e1') (k := 1) (by decide) bX bY (by omega) (b185_212 (mGs e1') ?_))))
    have hx : Eqx [14, 18, 21, 22] H (((mm H z).set 14 (oM v cor (lZ (lowZ X Y 0)) (lZ b) rw_ bo)).set 14 (oM v cor (lZ (lowZ X Y 0)) (lZ (lowZ X Y 1)) rw_ bo)) := (((Eqx.rf _ _).st _ (by simp)).st _ (by simp)).st _ (by simp)
    have g14 : (((mm H z).set 14 (oM v cor (lZ (lowZ X Y 0)) (lZ b) rw_ bo)).set 14 (oM v cor (lZ (lowZ X Y 0)) (lZ (lowZ X Y 1)) rw_ bo))[14]? = some (oM v cor (lZ (lowZ X Y 0)) (lZ (lowZ X Y 1)) rw_ bo) := mGs (mGs e1')
    have hv2 := hv.eqx g14 hx (by decide) (by decide)
    refine l185w (fa := fa) (fb := fb) (z := z) hv2 hm hsm hch hl (mGn (by decide) (mGn (by decide) e2')) (mGn (by decide) (mGn (by decide) f1')) (mGn (by decide) (mGn (by decide) f2')) (fun H' fa' fb' hx2 g1 g2 hf => ?_) 0 (Nat.zero_le _) _ fa fb (Eqx.rf _ _) (mGn (by decide) (mGn (by decide) f1')) (mGn (by decide) (mGn (by decide) f2')) (fun t ht => absurd ht (Nat.not_lt_zero _))
    refine hq1 hc H' fa' fb' (hx.tr (hx2.mo (by simp))) ((hx2.2 14 (by decide)).trans g14) ((hx2.2 18 (by decide)).trans (mGn (by decide) (mGn (by decide) e2'))) g1 g2 hf
  have mid : mWp mCd 185 (161, [some (.ref 14), some (.int (iZ i)), some (.int (iZ ch)), none, none, none, some (.long (lZ X)), none, some (.long (lZ Y)), none, none, none, none, none], [], mm H z, 0, 0) Q := by
    refine b185_161 e1' (fun q => take (Or.inl ?_)) (fun q => b185_170 e1' (fun q2 => take (Or.inr ?_)) (fun q2 => b185_188 ?_))
    · simp (disch := (first | assumption | omega | (unfold i32; omega) | (unfold i64; omega))) only [iZ_add, iZ_sub, iZ_mul, iZ_neg, lZ_add, lZ_sub, lZ_mul, lZ_neg, lZ_i, iZ_l, iZ_nat, Int.toNat_natCast, iZ_bit, iZ_shl, iZ_or, iZ_lt, iZ_le, iZ_eq, iZ_lt0, iZ_le0, iZ_gt0, iZ_ge0, iZ_eq0, cmp_eq0, cmp_lt0, cmp_le0, cmp_ge0, cmp_gt0, tf_0, tf_n0, Decidable.not_not, not_true_eq_false, not_false_eq_true, Int.toNat_natCast, tn5, tn55, tn54, zM_at, hs] at q
      exact q
    · simp (disch := (first | assumption | omega | (unfold i32; omega) | (unfold i64; omega))) only [iZ_add, iZ_sub, iZ_mul, iZ_neg, lZ_add, lZ_sub, lZ_mul, lZ_neg, lZ_i, iZ_l, iZ_nat, Int.toNat_natCast, iZ_bit, iZ_shl, iZ_or, iZ_lt, iZ_le, iZ_eq, iZ_lt0, iZ_le0, iZ_gt0, iZ_ge0, iZ_eq0, cmp_eq0, cmp_lt0, cmp_le0, cmp_ge0, cmp_gt0, tf_0, tf_n0, Decidable.not_not, not_true_eq_false, not_false_eq_true, Int.toNat_natCast, tn5, tn55, tn54, zM_at, hs] at q
      have i2 := i2 q
      simp (disch := (first | assumption | omega | (unfold i32; omega) | (unfold i64; omega))) only [iZ_add, iZ_sub, iZ_mul, iZ_neg, lZ_add, lZ_sub, lZ_mul, lZ_neg, lZ_i, iZ_l, iZ_nat, Int.toNat_natCast, iZ_bit, iZ_shl, iZ_or, iZ_lt, iZ_le, iZ_eq, iZ_lt0, iZ_le0, iZ_gt0, iZ_ge0, iZ_eq0, cmp_eq0, cmp_lt0, cmp_le0, cmp_ge0, cmp_gt0, tf_0, tf_n0, Decidable.not_not, not_true_eq_false, not_false_eq_true, Int.toNat_natCast, tn5, tn55, tn54, zM_at, hs] at q2
      exact q2
    · simp (disch := (first | assumption | omega | (unfold i32; omega) | (unfold i64; omega))) only [iZ_add, iZ_sub, iZ_mul, iZ_neg, lZ_add, lZ_sub, lZ_mul, lZ_neg, lZ_i, iZ_l, iZ_nat, Int.toNat_natCast, iZ_bit, iZ_shl, iZ_or, iZ_lt, iZ_le, iZ_eq, iZ_lt0, iZ_le0, iZ_gt0, iZ_ge0, iZ_eq0, cmp_eq0, cmp_lt0, cmp_le0, cmp_ge0, cmp_gt0, tf_0, tf_n0, Decidable.not_not, not_true_eq_false, not_false_eq_true, Int.toNat_natCast, tn5, tn55, tn54, zM_at, hs] at q
      have i2 := i2 q
      simp (disch := (first | assumption | omega | (unfold i32; omega) | (unfold i64; omega))) only [iZ_add, iZ_sub, iZ_mul, iZ_neg, lZ_add, lZ_sub, lZ_mul, lZ_neg, lZ_i, iZ_l, iZ_nat, Int.toNat_natCast, iZ_bit, iZ_shl, iZ_or, iZ_lt, iZ_le, iZ_eq, iZ_lt0, iZ_le0, iZ_gt0, iZ_ge0, iZ_eq0, cmp_eq0, cmp_lt0, cmp_le0, cmp_ge0, cmp_gt0, tf_0, tf_n0, Decidable.not_not, not_true_eq_false, not_false_eq_true, Int.toNat_natCast, tn5, tn55, tn54, zM_at, hs] at q2
      exact hq0 q (by omega)
  have l1 : ∀ k : Nat, k ≤ m → mWp mCd 185 (6, [some (.ref 14), some (.int (iZ i)), some (.int (iZ ch)), some (.int (iZ m)), some (.long (lZ (prd (fun k => z k k) k))), none, some (.int (iZ k)), none, none, none, none, none, none, none], [], mm H z, 0, 0) Q := by
    refine lp_up m ?_ ?_
    · refine b185_6 (fun _ => b185_52 e1' (c139 hv' (b185_59 e1' (c144 hv' (al_lt hn4) (b185_62 ?_))))) (fun q => absurd (Int32.le_refl _) q)
      have := l185s (Q := Q) hv' hm hsm hch hl e2' (by rw [hSS, hTT]; exact mid) 0 (Nat.zero_le _)
      rw [lZ_neg, lZ_mul]
      have e0 : wSum z w n m (chs ch (al n - 1)) (chs ch 0).length = - w (al n) * prd (fun k => z k k) m := by
        show - w (al n) * zB z m + 0 = _
        unfold zB
        omega
      rw [e0] at this
      exact this
    · intro k hk ih
      have hin1 : ¬ (iZ 5 * iZ k + iZ 4 < 0 ∨ 20 ≤ (iZ 5 * iZ k + iZ 4).toNatClampNeg) := by
        rw [iZ_mul, iZ_add]
        exact iZ_in (by omega) (by omega) (by decide)
      have hin2 : ¬ (iZ 5 * iZ k + iZ k < 0 ∨ 20 ≤ (iZ 5 * iZ k + iZ k).toNatClampNeg) := by
        rw [iZ_mul, iZ_add]
        exact iZ_in (by omega) (by omega) (by decide)
      have z4 := zM_at z k 4 (by omega)
      have zk := zM_at z k k (by omega)
      have hzk := hsm k hk
      have li : i64 (z k 4) := by unfold i64; omega
      refine b185_6 (fun q => ?_) (fun _ => b185_12 e1' e2' hin1 (fun q => b185_29 e1' e2' hin2 ?_) (fun q => ?_))
      · simp (disch := (first | assumption | omega | (unfold i32; omega) | (unfold i64; omega))) only [iZ_add, iZ_sub, iZ_mul, iZ_neg, lZ_add, lZ_sub, lZ_mul, lZ_neg, lZ_i, iZ_l, iZ_nat, Int.toNat_natCast, iZ_bit, iZ_shl, iZ_or, iZ_lt, iZ_le, iZ_eq, iZ_lt0, iZ_le0, iZ_gt0, iZ_ge0, iZ_eq0, cmp_eq0, cmp_lt0, cmp_le0, cmp_ge0, cmp_gt0, tf_0, tf_n0, Decidable.not_not, not_true_eq_false, not_false_eq_true, Int.toNat_natCast, tn5, tn55, tn54, zM_at, hs] at q
        omega
      · simp (disch := (first | assumption | omega | (unfold i32; omega) | (unfold i64; omega))) only [iZ_add, iZ_sub, iZ_mul, iZ_neg, lZ_add, lZ_sub, lZ_mul, lZ_neg, lZ_i, iZ_l, iZ_nat, Int.toNat_natCast, iZ_bit, iZ_shl, iZ_or, iZ_lt, iZ_le, iZ_eq, iZ_lt0, iZ_le0, iZ_gt0, iZ_ge0, iZ_eq0, cmp_eq0, cmp_lt0, cmp_le0, cmp_ge0, cmp_gt0, tf_0, tf_n0, Decidable.not_not, not_true_eq_false, not_false_eq_true, Int.toNat_natCast, tn5, tn55, tn54, zM_at, hs, zk]
        exact ih
      · simp (disch := (first | assumption | omega | (unfold i32; omega) | (unfold i64; omega))) only [iZ_add, iZ_sub, iZ_mul, iZ_neg, lZ_add, lZ_sub, lZ_mul, lZ_neg, lZ_i, iZ_l, iZ_nat, Int.toNat_natCast, iZ_bit, iZ_shl, iZ_or, iZ_lt, iZ_le, iZ_eq, iZ_lt0, iZ_le0, iZ_gt0, iZ_ge0, iZ_eq0, cmp_eq0, cmp_lt0, cmp_le0, cmp_ge0, cmp_gt0, tf_0, tf_n0, Decidable.not_not, not_true_eq_false, not_false_eq_true, Int.toNat_natCast, tn5, tn55, tn54, zM_at, hs, z4] at q
        omega
  exact en185 (b185_0 (l1 0 (Nat.zero_le _)))
end MW
