/-! ===== the reference: turns, owns, gets, lacks, worst ===== -/

section MT
variable {h : mH} {Q : Option Value → mH → Prop} {i n : Nat} {w : Nat → Int}
theorem l167 (hv : MV h i n w) (hq : Q (some (.long (lZ (ownsZ w n)))) h) : ∀ k, k ≤ n → mWp mCd 167 (5, [some (.ref 14), some (.int (iZ i)), some (.long (lZ (sumTo (fun i => w (2 ^ i)) k))), none, some (.int (iZ k))], [], h, 0, 0) Q := by
  obtain ⟨hi, ⟨hn1, hn4⟩, hw, v, cor, bA, bB, rw_, bo, sz, g, e1, e2, e3, hs, hg⟩ := id hv
  refine lp_up n ?_ ?_
  · repeat' (first
    | refine en167 ?_
    | exact hq
    | exact iZ_in (by omega) (by omega) (by decide)
    | simp (disch := (first | assumption | omega | (unfold i32; omega) | (unfold i64; omega))) only [iZ_add, iZ_sub, iZ_mul, iZ_neg, lZ_add, lZ_sub, lZ_mul, lZ_neg, lZ_i, iZ_l, iZ_nat, Int.toNat_natCast, iZ_bit, iZ_shl, iZ_or, iZ_lt, iZ_le, iZ_eq, iZ_lt0, iZ_le0, iZ_gt0, iZ_ge0, iZ_eq0, cmp_eq0, cmp_lt0, cmp_le0, cmp_ge0, cmp_gt0, tf_0, tf_n0, Decidable.not_not, hs]
    | refine b167_0 ?_
    | (refine b167_5 (by assumption) (by assumption) ?_ (fun q => ?_) (fun q => ?_) <;> (try simp (disch := (first | assumption | omega | (unfold i32; omega) | (unfold i64; omega))) only [iZ_add, iZ_sub, iZ_mul, iZ_neg, lZ_add, lZ_sub, lZ_mul, lZ_neg, lZ_i, iZ_l, iZ_nat, Int.toNat_natCast, iZ_bit, iZ_shl, iZ_or, iZ_lt, iZ_le, iZ_eq, iZ_lt0, iZ_le0, iZ_gt0, iZ_ge0, iZ_eq0, cmp_eq0, cmp_lt0, cmp_le0, cmp_ge0, cmp_gt0, tf_0, tf_n0, Decidable.not_not, hs] at q) <;> (try (exfalso; omega)))
    | refine b167_34 ?_
    | refine b167_16 (by assumption) ?_
    | refine b167_26 ?_)
  · intro k hk ih
    repeat' (first
    | refine en167 ?_
    | exact ih
    | refine c144 hv (p2_lt16 (by omega)) ?_
    | exact iZ_in (by omega) (by omega) (by decide)
    | simp (disch := (first | assumption | omega | (unfold i32; omega) | (unfold i64; omega))) only [iZ_add, iZ_sub, iZ_mul, iZ_neg, lZ_add, lZ_sub, lZ_mul, lZ_neg, lZ_i, iZ_l, iZ_nat, Int.toNat_natCast, iZ_bit, iZ_shl, iZ_or, iZ_lt, iZ_le, iZ_eq, iZ_lt0, iZ_le0, iZ_gt0, iZ_ge0, iZ_eq0, cmp_eq0, cmp_lt0, cmp_le0, cmp_ge0, cmp_gt0, tf_0, tf_n0, Decidable.not_not, hs]
    | refine b167_0 ?_
    | (refine b167_5 (by assumption) (by assumption) ?_ (fun q => ?_) (fun q => ?_) <;> (try simp (disch := (first | assumption | omega | (unfold i32; omega) | (unfold i64; omega))) only [iZ_add, iZ_sub, iZ_mul, iZ_neg, lZ_add, lZ_sub, lZ_mul, lZ_neg, lZ_i, iZ_l, iZ_nat, Int.toNat_natCast, iZ_bit, iZ_shl, iZ_or, iZ_lt, iZ_le, iZ_eq, iZ_lt0, iZ_le0, iZ_gt0, iZ_ge0, iZ_eq0, cmp_eq0, cmp_lt0, cmp_le0, cmp_ge0, cmp_gt0, tf_0, tf_n0, Decidable.not_not, hs] at q) <;> (try (exfalso; omega)))
    | refine b167_34 ?_
    | refine b167_16 (by assumption) ?_
    | refine b167_26 ?_)
theorem c167 (hv : MV h i n w) (hq : Q (some (.long (lZ (ownsZ w n)))) h) : mCt mCd 167 [.ref 14, .int (iZ i)] h Q := by
  exact en167 (b167_0 (l167 hv hq 0 (Nat.zero_le n)))
theorem l166 (hv : MV h i n w) {p : Nat} (hp : p < n) (hq : Q (some (.long (lZ (turnsZ w n p)))) h) : ∀ k, k ≤ 2 ^ n → mWp mCd 166 (5, [some (.ref 14), some (.int (iZ i)), some (.int (iZ p)), some (.long (lZ (sumTo (turnsF w n p) k))), none, some (.int (iZ k))], [], h, 0, 0) Q := by
  obtain ⟨hi, ⟨hn1, hn4⟩, hw, v, cor, bA, bB, rw_, bo, sz, g, e1, e2, e3, hs, hg⟩ := id hv
  have h16 := two_pow_le4 hn4
  have hal : al n = 2 ^ n - 1 := rfl
  have h2p := two_pow_pos n
  refine lp_up (2 ^ n) ?_ ?_
  · repeat' (first
    | refine en166 ?_
    | exact hq
    | refine c139 hv ?_
    | exact iZ_in (by omega) (by omega) (by decide)
    | simp (disch := (first | assumption | omega | (unfold i32; omega) | (unfold i64; omega))) only [iZ_add, iZ_sub, iZ_mul, iZ_neg, lZ_add, lZ_sub, lZ_mul, lZ_neg, lZ_i, iZ_l, iZ_nat, Int.toNat_natCast, iZ_bit, iZ_shl, iZ_or, iZ_lt, iZ_le, iZ_eq, iZ_lt0, iZ_le0, iZ_gt0, iZ_ge0, iZ_eq0, cmp_eq0, cmp_lt0, cmp_le0, cmp_ge0, cmp_gt0, tf_0, tf_n0, Decidable.not_not, hs]
    | refine b166_0 ?_
    | refine b166_5 (by assumption) ?_
    | (refine b166_12 (fun q => ?_) (fun q => ?_) <;> (try simp (disch := (first | assumption | omega | (unfold i32; omega) | (unfold i64; omega))) only [iZ_add, iZ_sub, iZ_mul, iZ_neg, lZ_add, lZ_sub, lZ_mul, lZ_neg, lZ_i, iZ_l, iZ_nat, Int.toNat_natCast, iZ_bit, iZ_shl, iZ_or, iZ_lt, iZ_le, iZ_eq, iZ_lt0, iZ_le0, iZ_gt0, iZ_ge0, iZ_eq0, cmp_eq0, cmp_lt0, cmp_le0, cmp_ge0, cmp_gt0, tf_0, tf_n0, Decidable.not_not, hs] at q) <;> (try (exfalso; omega)))
    | refine b166_72 ?_
    | (refine b166_15 (fun q => ?_) (fun q => ?_) <;> (try simp (disch := (first | assumption | omega | (unfold i32; omega) | (unfold i64; omega))) only [iZ_add, iZ_sub, iZ_mul, iZ_neg, lZ_add, lZ_sub, lZ_mul, lZ_neg, lZ_i, iZ_l, iZ_nat, Int.toNat_natCast, iZ_bit, iZ_shl, iZ_or, iZ_lt, iZ_le, iZ_eq, iZ_lt0, iZ_le0, iZ_gt0, iZ_ge0, iZ_eq0, cmp_eq0, cmp_lt0, cmp_le0, cmp_ge0, cmp_gt0, tf_0, tf_n0, Decidable.not_not, hs] at q) <;> (try (exfalso; omega)))
    | refine b166_66 ?_
    | refine b166_24 (by assumption) ?_
    | refine b166_32 (by assumption) ?_
    | refine b166_35 (by assumption) (by assumption) ?_ ?_
    | refine b166_48 (by assumption) ?_
    | refine b166_54 (by assumption) ?_
    | refine b166_63 ?_)
  · intro k hk ih
    have hb := bt_01 k p
    have he : sumTo (turnsF w n p) (k + 1) = sumTo (turnsF w n p) k + turnsF w n p k := rfl
    rw [he] at ih
    have hk16 : k < 16 := by omega
    have hp4 : p < 4 := by omega
    have e0 : k / 2 ^ p % 2 = bt k p := rfl
    rcases hb with hb | hb
    · have ho := ones_bt n hn4 k hk p hp hb
      rw [turnsF, if_pos hb] at ih
      refine b166_5 e1 (c139 hv ?_)
      refine b166_12 (fun q => ?_) (fun _ => ?_)
      · simp (disch := (first | assumption | omega | (unfold i32; omega) | (unfold i64; omega))) only [iZ_add, iZ_sub, iZ_mul, iZ_neg, lZ_add, lZ_sub, lZ_mul, lZ_neg, lZ_i, iZ_l, iZ_nat, Int.toNat_natCast, iZ_bit, iZ_shl, iZ_or, iZ_lt, iZ_le, iZ_eq, iZ_lt0, iZ_le0, iZ_gt0, iZ_ge0, iZ_eq0, cmp_eq0, cmp_lt0, cmp_le0, cmp_ge0, cmp_gt0, tf_0, tf_n0, Decidable.not_not, hs] at q
        omega
      · refine b166_15 (fun q => ?_) (fun _ => ?_)
        · simp (disch := (first | assumption | omega | (unfold i32; omega) | (unfold i64; omega))) only [iZ_add, iZ_sub, iZ_mul, iZ_neg, lZ_add, lZ_sub, lZ_mul, lZ_neg, lZ_i, iZ_l, iZ_nat, Int.toNat_natCast, iZ_bit, iZ_shl, iZ_or, iZ_lt, iZ_le, iZ_eq, iZ_lt0, iZ_le0, iZ_gt0, iZ_ge0, iZ_eq0, cmp_eq0, cmp_lt0, cmp_le0, cmp_ge0, cmp_gt0, tf_0, tf_n0, Decidable.not_not, hs, e0, hb] at q
          omega
        · refine b166_24 e1 (c140 hk16 (b166_32 e1 (c165 (ones_le k hk16) (b166_35 e1 e2 (iZ_in (by omega) (by omega) (by decide)) (c140 hk16 (b166_48 e1 ?_))))))
          simp (disch := (first | assumption | omega | (unfold i32; omega) | (unfold i64; omega))) only [iZ_add, iZ_sub, iZ_mul, iZ_neg, lZ_add, lZ_sub, lZ_mul, lZ_neg, lZ_i, iZ_l, iZ_nat, Int.toNat_natCast, iZ_bit, iZ_shl, iZ_or, iZ_lt, iZ_le, iZ_eq, iZ_lt0, iZ_le0, iZ_gt0, iZ_ge0, iZ_eq0, cmp_eq0, cmp_lt0, cmp_le0, cmp_ge0, cmp_gt0, tf_0, tf_n0, Decidable.not_not, hs]
          rw [show (n : Int) - (ones k : Int) - 1 = ((n - ones k - 1 : Nat) : Int) by omega]
          refine c165 (by omega) (b166_54 e1 (c162 hv hp4 hk16 (b166_63 (b166_66 ?_))))
          simp (disch := (first | assumption | omega | (unfold i32; omega) | (unfold i64; omega))) only [iZ_add, iZ_sub, iZ_mul, iZ_neg, lZ_add, lZ_sub, lZ_mul, lZ_neg, lZ_i, iZ_l, iZ_nat, Int.toNat_natCast, iZ_bit, iZ_shl, iZ_or, iZ_lt, iZ_le, iZ_eq, iZ_lt0, iZ_le0, iZ_gt0, iZ_ge0, iZ_eq0, cmp_eq0, cmp_lt0, cmp_le0, cmp_ge0, cmp_gt0, tf_0, tf_n0, Decidable.not_not, hs]
          exact ih
    · rw [turnsF, if_neg (by omega), Int.add_zero] at ih
      refine b166_5 e1 (c139 hv ?_)
      refine b166_12 (fun q => ?_) (fun _ => ?_)
      · simp (disch := (first | assumption | omega | (unfold i32; omega) | (unfold i64; omega))) only [iZ_add, iZ_sub, iZ_mul, iZ_neg, lZ_add, lZ_sub, lZ_mul, lZ_neg, lZ_i, iZ_l, iZ_nat, Int.toNat_natCast, iZ_bit, iZ_shl, iZ_or, iZ_lt, iZ_le, iZ_eq, iZ_lt0, iZ_le0, iZ_gt0, iZ_ge0, iZ_eq0, cmp_eq0, cmp_lt0, cmp_le0, cmp_ge0, cmp_gt0, tf_0, tf_n0, Decidable.not_not, hs] at q
        omega
      · refine b166_15 (fun _ => b166_66 ?_) (fun q => ?_)
        · simp (disch := (first | assumption | omega | (unfold i32; omega) | (unfold i64; omega))) only [iZ_add, iZ_sub, iZ_mul, iZ_neg, lZ_add, lZ_sub, lZ_mul, lZ_neg, lZ_i, iZ_l, iZ_nat, Int.toNat_natCast, iZ_bit, iZ_shl, iZ_or, iZ_lt, iZ_le, iZ_eq, iZ_lt0, iZ_le0, iZ_gt0, iZ_ge0, iZ_eq0, cmp_eq0, cmp_lt0, cmp_le0, cmp_ge0, cmp_gt0, tf_0, tf_n0, Decidable.not_not, hs]
          exact ih
        · simp (disch := (first | assumption | omega | (unfold i32; omega) | (unfold i64; omega))) only [iZ_add, iZ_sub, iZ_mul, iZ_neg, lZ_add, lZ_sub, lZ_mul, lZ_neg, lZ_i, iZ_l, iZ_nat, Int.toNat_natCast, iZ_bit, iZ_shl, iZ_or, iZ_lt, iZ_le, iZ_eq, iZ_lt0, iZ_le0, iZ_gt0, iZ_ge0, iZ_eq0, cmp_eq0, cmp_lt0, cmp_le0, cmp_ge0, cmp_gt0, tf_0, tf_n0, Decidable.not_not, hs, e0, hb] at q
          omega
theorem c166 (hv : MV h i n w) {p : Nat} (hp : p < n) (hq : Q (some (.long (lZ (turnsZ w n p)))) h) : mCt mCd 166 [.ref 14, .int (iZ i), .int (iZ p)] h Q := by
  exact en166 (b166_0 (l166 hv hp hq 0 (Nat.zero_le _)))
theorem c168 (hv : MV h i n w) {way : Nat} (hy : way < 2) (hq : Q (some (.long (lZ (belowZ n way)))) h) : mCt mCd 168 [.ref 14, .int (iZ i), .int (iZ way)] h Q := by
  obtain ⟨hi, ⟨hn1, hn4⟩, hw, v, cor, bA, bB, rw_, bo, sz, g, e1, e2, e3, hs, hg⟩ := id hv
  rcases (show way = 0 ∨ way = 1 by omega) with rfl | rfl
  · repeat' (first
    | refine en168 ?_
    | exact hq
    | refine c165 hn4 ?_
    | exact iZ_in (by omega) (by omega) (by decide)
    | simp (disch := (first | assumption | omega | (unfold i32; omega) | (unfold i64; omega))) only [iZ_add, iZ_sub, iZ_mul, iZ_neg, lZ_add, lZ_sub, lZ_mul, lZ_neg, lZ_i, iZ_l, iZ_nat, Int.toNat_natCast, iZ_bit, iZ_shl, iZ_or, iZ_lt, iZ_le, iZ_eq, iZ_lt0, iZ_le0, iZ_gt0, iZ_ge0, iZ_eq0, cmp_eq0, cmp_lt0, cmp_le0, cmp_ge0, cmp_gt0, tf_0, tf_n0, Decidable.not_not, hs]
    | (refine b168_0 (fun q => ?_) (fun q => ?_) <;> (try simp (disch := (first | assumption | omega | (unfold i32; omega) | (unfold i64; omega))) only [iZ_add, iZ_sub, iZ_mul, iZ_neg, lZ_add, lZ_sub, lZ_mul, lZ_neg, lZ_i, iZ_l, iZ_nat, Int.toNat_natCast, iZ_bit, iZ_shl, iZ_or, iZ_lt, iZ_le, iZ_eq, iZ_lt0, iZ_le0, iZ_gt0, iZ_ge0, iZ_eq0, cmp_eq0, cmp_lt0, cmp_le0, cmp_ge0, cmp_gt0, tf_0, tf_n0, Decidable.not_not, hs] at q) <;> (try (exfalso; omega)))
    | refine b168_17 (by assumption) (by assumption) ?_ ?_
    | refine b168_4 (by assumption) (by assumption) ?_ ?_
    | refine b168_14 ?_)
  · repeat' (first
    | refine en168 ?_
    | exact hq
    | exact iZ_in (by omega) (by omega) (by decide)
    | simp (disch := (first | assumption | omega | (unfold i32; omega) | (unfold i64; omega))) only [iZ_add, iZ_sub, iZ_mul, iZ_neg, lZ_add, lZ_sub, lZ_mul, lZ_neg, lZ_i, iZ_l, iZ_nat, Int.toNat_natCast, iZ_bit, iZ_shl, iZ_or, iZ_lt, iZ_le, iZ_eq, iZ_lt0, iZ_le0, iZ_gt0, iZ_ge0, iZ_eq0, cmp_eq0, cmp_lt0, cmp_le0, cmp_ge0, cmp_gt0, tf_0, tf_n0, Decidable.not_not, hs]
    | (refine b168_0 (fun q => ?_) (fun q => ?_) <;> (try simp (disch := (first | assumption | omega | (unfold i32; omega) | (unfold i64; omega))) only [iZ_add, iZ_sub, iZ_mul, iZ_neg, lZ_add, lZ_sub, lZ_mul, lZ_neg, lZ_i, iZ_l, iZ_nat, Int.toNat_natCast, iZ_bit, iZ_shl, iZ_or, iZ_lt, iZ_le, iZ_eq, iZ_lt0, iZ_le0, iZ_gt0, iZ_ge0, iZ_eq0, cmp_eq0, cmp_lt0, cmp_le0, cmp_ge0, cmp_gt0, tf_0, tf_n0, Decidable.not_not, hs] at q) <;> (try (exfalso; omega)))
    | refine b168_17 (by assumption) (by assumption) ?_ ?_
    | refine b168_4 (by assumption) (by assumption) ?_ ?_
    | refine b168_14 ?_)
theorem c169 (hv : MV h i n w) {way p : Nat} (hy : way < 2) (hp : p < n) (hq : Q (some (.long (lZ (getsZ w n way p)))) h) : mCt mCd 169 [.ref 14, .int (iZ i), .int (iZ way), .int (iZ p)] h Q := by
  obtain ⟨hi, ⟨hn1, hn4⟩, hw, v, cor, bA, bB, rw_, bo, sz, g, e1, e2, e3, hs, hg⟩ := id hv
  have hp4 : p < 4 := by omega
  rcases (show way = 0 ∨ way = 1 by omega) with rfl | rfl
  · repeat' (first
    | refine en169 ?_
    | exact hq
    | refine c166 hv hp ?_
    | exact iZ_in (by omega) (by omega) (by decide)
    | simp (disch := (first | assumption | omega | (unfold i32; omega) | (unfold i64; omega))) only [iZ_add, iZ_sub, iZ_mul, iZ_neg, lZ_add, lZ_sub, lZ_mul, lZ_neg, lZ_i, iZ_l, iZ_nat, Int.toNat_natCast, iZ_bit, iZ_shl, iZ_or, iZ_lt, iZ_le, iZ_eq, iZ_lt0, iZ_le0, iZ_gt0, iZ_ge0, iZ_eq0, cmp_eq0, cmp_lt0, cmp_le0, cmp_ge0, cmp_gt0, tf_0, tf_n0, Decidable.not_not, hs]
    | (refine b169_0 (fun q => ?_) (fun q => ?_) <;> (try simp (disch := (first | assumption | omega | (unfold i32; omega) | (unfold i64; omega))) only [iZ_add, iZ_sub, iZ_mul, iZ_neg, lZ_add, lZ_sub, lZ_mul, lZ_neg, lZ_i, iZ_l, iZ_nat, Int.toNat_natCast, iZ_bit, iZ_shl, iZ_or, iZ_lt, iZ_le, iZ_eq, iZ_lt0, iZ_le0, iZ_gt0, iZ_ge0, iZ_eq0, cmp_eq0, cmp_lt0, cmp_le0, cmp_ge0, cmp_gt0, tf_0, tf_n0, Decidable.not_not, hs] at q) <;> (try (exfalso; omega)))
    | refine b169_13 (by assumption) (by assumption) ?_ ?_
    | refine b169_4 (by assumption) ?_
    | refine b169_28 (by assumption) ?_
    | refine b169_10 ?_
    | refine b169_36 (by assumption) ?_
    | refine b169_39 (by assumption) ?_
    | refine b169_45 ?_)
  · repeat' (first
    | refine en169 ?_
    | exact hq
    | refine c144 hv (p2_lt16 hp4) ?_
    | refine c144 hv (al_lt hn4) ?_
    | refine c139 hv ?_
    | refine c167 hv ?_
    | exact iZ_in (by omega) (by omega) (by decide)
    | simp (disch := (first | assumption | omega | (unfold i32; omega) | (unfold i64; omega))) only [iZ_add, iZ_sub, iZ_mul, iZ_neg, lZ_add, lZ_sub, lZ_mul, lZ_neg, lZ_i, iZ_l, iZ_nat, Int.toNat_natCast, iZ_bit, iZ_shl, iZ_or, iZ_lt, iZ_le, iZ_eq, iZ_lt0, iZ_le0, iZ_gt0, iZ_ge0, iZ_eq0, cmp_eq0, cmp_lt0, cmp_le0, cmp_ge0, cmp_gt0, tf_0, tf_n0, Decidable.not_not, hs]
    | (refine b169_0 (fun q => ?_) (fun q => ?_) <;> (try simp (disch := (first | assumption | omega | (unfold i32; omega) | (unfold i64; omega))) only [iZ_add, iZ_sub, iZ_mul, iZ_neg, lZ_add, lZ_sub, lZ_mul, lZ_neg, lZ_i, iZ_l, iZ_nat, Int.toNat_natCast, iZ_bit, iZ_shl, iZ_or, iZ_lt, iZ_le, iZ_eq, iZ_lt0, iZ_le0, iZ_gt0, iZ_ge0, iZ_eq0, cmp_eq0, cmp_lt0, cmp_le0, cmp_ge0, cmp_gt0, tf_0, tf_n0, Decidable.not_not, hs] at q) <;> (try (exfalso; omega)))
    | refine b169_13 (by assumption) (by assumption) ?_ ?_
    | refine b169_4 (by assumption) ?_
    | refine b169_28 (by assumption) ?_
    | refine b169_10 ?_
    | refine b169_36 (by assumption) ?_
    | refine b169_39 (by assumption) ?_
    | refine b169_45 ?_)
end MT
