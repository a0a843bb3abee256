/-! ===== the reference: compare ===== -/
theorem tn4 (c i : Nat) : ((4 : Int) * (c : Int) + (i : Int)).toNat = 4 * c + i := by omega
theorem low_b {q : Int} {B : Int} (h : bd B q) : bd B (lowZ q 2 0) ∧ bd 2 (lowZ q 2 1) := by
  unfold lowZ
  rw [if_pos rfl, if_neg (by decide)]
  exact ⟨bd_tdiv _ h, bd_tdiv _ ⟨by decide, by decide⟩⟩
section MC
variable {H : mH} {Q : Option Value → mH → Prop} {z : Nat → Nat → Int} {n c : Nat} {v cor : Int32} {bA bB : Int64} {rw_ bo : Int32} {fa fu : Nat → Int64} {p q : Nat → Int}

theorem l180 (hn : n ≤ 4) (hc : c < 399) (e1 : H[14]? = some (oM v cor bA bB rw_ bo)) (e2 : H[18]? = some (aL 20 (zM z))) (e3 : H[19]? = some (aL 1600 fa)) (e4 : H[20]? = some (aL 1600 fu)) (hz : smR z n) (hp : ∀ i, i < n → 2 * z i 4 = p i * z i i) (hf : ∀ i, i < n → fa (4 * c + i) = lZ (lowZ (q i) 2 0) ∧ fu (4 * c + i) = lZ (lowZ (q i) 2 1)) (hb : ∀ i, i < n → bd 2000000000 (q i)) (hq : Q (some (.int (iZ (cmpP p q n n)))) H) : ∀ k, k ≤ n → cmpP p q n n = cmpP p q n (n - k) → mWp mCd 180 (2, [some (.ref 14), some (.int (iZ n)), some (.int (iZ c)), some (.int (iZ k)), none, none], [], H, 0, 0) Q := by
  refine lp_up n ?_ ?_
  · intro he
    rw [he, Nat.sub_self] at hq
    exact b180_2 (fun _ => b180_78 hq) (fun q => absurd (Int32.le_refl _) q)
  · intro k hk ih he
    have z4 := zM_at z k 4 (by omega)
    have zk := zM_at z k k (by omega)
    obtain ⟨hs, hs2⟩ := hf k hk
    obtain ⟨b1, b2⟩ := low_b (hb k hk)
    have hzk := hz k hk
    have sg := sgn_d (a := z k 4) (b := z k k) (p := p k) (q := q k) hzk.1.1 (hp k hk)
    have c1 := bd_mul hzk.2 b2
    have c2 := bd_mul b1 (show bd 3 (z k k) from ⟨by omega, by omega⟩)
    have ld : i64 (z k 4 * lowZ (q k) 2 1 - lowZ (q k) 2 0 * z k k) := ⟨by unfold bd at c1 c2; omega, by unfold bd at c1 c2; omega⟩
    have l0 : i64 0 := ⟨by omega, by omega⟩
    obtain ⟨d, hd⟩ : ∃ d, n - k = d + 1 := ⟨n - k - 1, by omega⟩
    rw [hd, cmpP, show n - (d + 1) = k by omega] at he
    have hd' : n - (k + 1) = d := by omega
    rw [hd'] at ih
    have hin1 : ¬ (iZ 5 * iZ k + iZ 4 < 0 ∨ 20 ≤ (iZ 5 * iZ k + iZ 4).toNatClampNeg) := by
      rw [iZ_mul, iZ_add]
      exact iZ_in (by omega) (by omega) (by decide)
    have hin2 : ¬ (iZ 5 * iZ k + iZ k < 0 ∨ 20 ≤ (iZ 5 * iZ k + iZ k).toNatClampNeg) := by
      rw [iZ_mul, iZ_add]
      exact iZ_in (by omega) (by omega) (by decide)
    have hin3 : ¬ (iZ 4 * iZ c + iZ k < 0 ∨ 1600 ≤ (iZ 4 * iZ c + iZ k).toNatClampNeg) := by
      rw [iZ_mul, iZ_add]
      exact iZ_in (by omega) (by omega) (by decide)
    refine b180_2 (fun q => ?_) (fun _ => b180_7 e1 e2 hin1 e4 hin3 e3 hin2 (fun w => b180_72 ?_) (fun w => ?_))
    · simp (disch := (first | assumption | omega | (unfold i32; omega) | (unfold i64; omega))) only [iZ_add, iZ_sub, iZ_mul, iZ_neg, lZ_add, lZ_sub, lZ_mul, lZ_neg, lZ_i, iZ_l, iZ_nat, Int.toNat_natCast, iZ_bit, iZ_shl, iZ_or, iZ_lt, iZ_le, iZ_eq, iZ_lt0, iZ_le0, iZ_gt0, iZ_ge0, iZ_eq0, cmp_eq0, cmp_lt0, cmp_le0, cmp_ge0, cmp_gt0, tf_0, tf_n0, Decidable.not_not, not_true_eq_false, not_false_eq_true, hs, hs2, Int.toNat_natCast, tn5, tn55, tn54, tn4, z4, zk] at q
      omega
    · simp (disch := (first | assumption | omega | (unfold i32; omega) | (unfold i64; omega))) only [iZ_add, iZ_sub, iZ_mul, iZ_neg, lZ_add, lZ_sub, lZ_mul, lZ_neg, lZ_i, iZ_l, iZ_nat, Int.toNat_natCast, iZ_bit, iZ_shl, iZ_or, iZ_lt, iZ_le, iZ_eq, iZ_lt0, iZ_le0, iZ_gt0, iZ_ge0, iZ_eq0, cmp_eq0, cmp_lt0, cmp_le0, cmp_ge0, cmp_gt0, tf_0, tf_n0, Decidable.not_not, not_true_eq_false, not_false_eq_true, hs, hs2, Int.toNat_natCast, tn5, tn55, tn54, tn4, z4, zk] at w
      simp (disch := (first | assumption | omega | (unfold i32; omega) | (unfold i64; omega))) only [iZ_add, iZ_sub, iZ_mul, iZ_neg, lZ_add, lZ_sub, lZ_mul, lZ_neg, lZ_i, iZ_l, iZ_nat, Int.toNat_natCast, iZ_bit, iZ_shl, iZ_or, iZ_lt, iZ_le, iZ_eq, iZ_lt0, iZ_le0, iZ_gt0, iZ_ge0, iZ_eq0, cmp_eq0, cmp_lt0, cmp_le0, cmp_ge0, cmp_gt0, tf_0, tf_n0, Decidable.not_not, not_true_eq_false, not_false_eq_true, hs, hs2, Int.toNat_natCast, tn5, tn55, tn54, tn4, z4, zk]
      have := sg.1.mp w
      rw [if_neg (by omega), if_neg (by omega)] at he
      exact ih he
    · simp (disch := (first | assumption | omega | (unfold i32; omega) | (unfold i64; omega))) only [iZ_add, iZ_sub, iZ_mul, iZ_neg, lZ_add, lZ_sub, lZ_mul, lZ_neg, lZ_i, iZ_l, iZ_nat, Int.toNat_natCast, iZ_bit, iZ_shl, iZ_or, iZ_lt, iZ_le, iZ_eq, iZ_lt0, iZ_le0, iZ_gt0, iZ_ge0, iZ_eq0, cmp_eq0, cmp_lt0, cmp_le0, cmp_ge0, cmp_gt0, tf_0, tf_n0, Decidable.not_not, not_true_eq_false, not_false_eq_true, hs, hs2, Int.toNat_natCast, tn5, tn55, tn54, tn4, z4, zk] at w
      simp (disch := (first | assumption | omega | (unfold i32; omega) | (unfold i64; omega))) only [iZ_add, iZ_sub, iZ_mul, iZ_neg, lZ_add, lZ_sub, lZ_mul, lZ_neg, lZ_i, iZ_l, iZ_nat, Int.toNat_natCast, iZ_bit, iZ_shl, iZ_or, iZ_lt, iZ_le, iZ_eq, iZ_lt0, iZ_le0, iZ_gt0, iZ_ge0, iZ_eq0, cmp_eq0, cmp_lt0, cmp_le0, cmp_ge0, cmp_gt0, tf_0, tf_n0, Decidable.not_not, not_true_eq_false, not_false_eq_true, hs, hs2, Int.toNat_natCast, tn5, tn55, tn54, tn4, z4, zk]
      refine b180_59 (fun w2 => b180_70 ?_) (fun w2 => b180_66 ?_)
      · simp (disch := (first | assumption | omega | (unfold i32; omega) | (unfold i64; omega))) only [iZ_add, iZ_sub, iZ_mul, iZ_neg, lZ_add, lZ_sub, lZ_mul, lZ_neg, lZ_i, iZ_l, iZ_nat, Int.toNat_natCast, iZ_bit, iZ_shl, iZ_or, iZ_lt, iZ_le, iZ_eq, iZ_lt0, iZ_le0, iZ_gt0, iZ_ge0, iZ_eq0, cmp_eq0, cmp_lt0, cmp_le0, cmp_ge0, cmp_gt0, tf_0, tf_n0, Decidable.not_not, not_true_eq_false, not_false_eq_true, hs, hs2, Int.toNat_natCast, tn5, tn55, tn54, tn4, z4, zk] at w2
        have := sg.2.mp w2
        have h3 : ¬ p k = q k := fun y => w (sg.1.mpr y)
        rw [if_neg (by omega), if_pos (by omega)] at he
        rwa [he] at hq
      · simp (disch := (first | assumption | omega | (unfold i32; omega) | (unfold i64; omega))) only [iZ_add, iZ_sub, iZ_mul, iZ_neg, lZ_add, lZ_sub, lZ_mul, lZ_neg, lZ_i, iZ_l, iZ_nat, Int.toNat_natCast, iZ_bit, iZ_shl, iZ_or, iZ_lt, iZ_le, iZ_eq, iZ_lt0, iZ_le0, iZ_gt0, iZ_ge0, iZ_eq0, cmp_eq0, cmp_lt0, cmp_le0, cmp_ge0, cmp_gt0, tf_0, tf_n0, Decidable.not_not, not_true_eq_false, not_false_eq_true, hs, hs2, Int.toNat_natCast, tn5, tn55, tn54, tn4, z4, zk] at w2
        have h3 : ¬ q k ≤ p k := fun y => w2 (sg.2.mpr y)
        rw [if_pos (by omega)] at he
        rwa [he] at hq
theorem c180 (hn : n ≤ 4) (hc : c < 399) (e1 : H[14]? = some (oM v cor bA bB rw_ bo)) (e2 : H[18]? = some (aL 20 (zM z))) (e3 : H[19]? = some (aL 1600 fa)) (e4 : H[20]? = some (aL 1600 fu)) (hz : smR z n) (hp : ∀ i, i < n → 2 * z i 4 = p i * z i i) (hf : ∀ i, i < n → fa (4 * c + i) = lZ (lowZ (q i) 2 0) ∧ fu (4 * c + i) = lZ (lowZ (q i) 2 1)) (hb : ∀ i, i < n → bd 2000000000 (q i)) (hq : Q (some (.int (iZ (cmpP p q n n)))) H) : mCt mCd 180 [.ref 14, .int (iZ n), .int (iZ c)] H Q :=
  en180 (b180_0 (l180 hn hc e1 e2 e3 e4 hz hp hf hb hq 0 (Nat.zero_le n) rfl))
end MC
