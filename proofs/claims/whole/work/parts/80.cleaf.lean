/-! ===== the class: small things ===== -/

theorem Qi {Q : Option Value → mH → Prop} {h : mH} {x y : Int32} (e : x = y) (hq : Q (some (.int y)) h) : Q (some (.int x)) h := e ▸ hq
theorem Ql {Q : Option Value → mH → Prop} {h : mH} {x y : Int64} (e : x = y) (hq : Q (some (.long y)) h) : Q (some (.long x)) h := e ▸ hq
theorem tf1 {p : Prop} [Decidable p] (h : p) : iZ 1 = tf p := by rw [tf_t h]; decide +kernel
theorem tf0 {p : Prop} [Decidable p] (h : ¬ p) : iZ 0 = tf p := by rw [tf_f h]; decide +kernel
theorem onat (n : Nat) : Int32.ofNat n = iZ n := rfl
section CL
variable {h : mH} {Q : Option Value → mH → Prop}
theorem k119 {n : Int} (hn : i32 n) (hq : Q (some (.int (tf (1 ≤ n ∧ n ≤ 4)))) h) : mCt mCd 119 [.int (iZ n)] h Q := by
  repeat' (first
    | refine en119 ?_
    | exact Qi (tf0 (by omega)) hq
    | exact Qi (tf1 (by omega)) hq
    | exact iZ_in (by omega) (by omega) (by decide)
    | simp (disch := (first | assumption | omega | (unfold i32; omega) | (unfold i64; omega))) only [iZ_add, iZ_sub, iZ_mul, iZ_neg, lZ_add, lZ_sub, lZ_mul, lZ_neg, lZ_i, iZ_l, iZ_nat, Int.toNat_natCast, iZ_bit, iZ_shl, iZ_or, iZ_lt, iZ_le, iZ_eq, iZ_lt0, iZ_le0, iZ_gt0, iZ_ge0, iZ_eq0, cmp_eq0, cmp_lt0, cmp_le0, cmp_ge0, cmp_gt0, tf_0, tf_n0, Decidable.not_not, not_true_eq_false, not_false_eq_true, Int.toNat_natCast, onat]
    | (refine b119_0 (fun q => ?_) (fun q => ?_) <;> (try simp (disch := (first | assumption | omega | (unfold i32; omega) | (unfold i64; omega))) only [iZ_add, iZ_sub, iZ_mul, iZ_neg, lZ_add, lZ_sub, lZ_mul, lZ_neg, lZ_i, iZ_l, iZ_nat, Int.toNat_natCast, iZ_bit, iZ_shl, iZ_or, iZ_lt, iZ_le, iZ_eq, iZ_lt0, iZ_le0, iZ_gt0, iZ_ge0, iZ_eq0, cmp_eq0, cmp_lt0, cmp_le0, cmp_ge0, cmp_gt0, tf_0, tf_n0, Decidable.not_not, not_true_eq_false, not_false_eq_true, Int.toNat_natCast, onat] at q) <;> (try (exfalso; omega)))
    | refine b119_14 ?_
    | (refine b119_5 (fun q => ?_) (fun q => ?_) <;> (try simp (disch := (first | assumption | omega | (unfold i32; omega) | (unfold i64; omega))) only [iZ_add, iZ_sub, iZ_mul, iZ_neg, lZ_add, lZ_sub, lZ_mul, lZ_neg, lZ_i, iZ_l, iZ_nat, Int.toNat_natCast, iZ_bit, iZ_shl, iZ_or, iZ_lt, iZ_le, iZ_eq, iZ_lt0, iZ_le0, iZ_gt0, iZ_ge0, iZ_eq0, cmp_eq0, cmp_lt0, cmp_le0, cmp_ge0, cmp_gt0, tf_0, tf_n0, Decidable.not_not, not_true_eq_false, not_false_eq_true, Int.toNat_natCast, onat] at q) <;> (try (exfalso; omega)))
    | refine b119_10 ?_)
theorem k120 {n : Int} (hn : i64 n) (hq : Q (some (.int (tf (-100 ≤ n ∧ n ≤ 100)))) h) : mCt mCd 120 [.long (lZ n)] h Q := by
  repeat' (first
    | refine en120 ?_
    | exact Qi (tf0 (by omega)) hq
    | exact Qi (tf1 (by omega)) hq
    | exact iZ_in (by omega) (by omega) (by decide)
    | simp (disch := (first | assumption | omega | (unfold i32; omega) | (unfold i64; omega))) only [iZ_add, iZ_sub, iZ_mul, iZ_neg, lZ_add, lZ_sub, lZ_mul, lZ_neg, lZ_i, iZ_l, iZ_nat, Int.toNat_natCast, iZ_bit, iZ_shl, iZ_or, iZ_lt, iZ_le, iZ_eq, iZ_lt0, iZ_le0, iZ_gt0, iZ_ge0, iZ_eq0, cmp_eq0, cmp_lt0, cmp_le0, cmp_ge0, cmp_gt0, tf_0, tf_n0, Decidable.not_not, not_true_eq_false, not_false_eq_true, Int.toNat_natCast, onat]
    | (refine b120_0 (fun q => ?_) (fun q => ?_) <;> (try simp (disch := (first | assumption | omega | (unfold i32; omega) | (unfold i64; omega))) only [iZ_add, iZ_sub, iZ_mul, iZ_neg, lZ_add, lZ_sub, lZ_mul, lZ_neg, lZ_i, iZ_l, iZ_nat, Int.toNat_natCast, iZ_bit, iZ_shl, iZ_or, iZ_lt, iZ_le, iZ_eq, iZ_lt0, iZ_le0, iZ_gt0, iZ_ge0, iZ_eq0, cmp_eq0, cmp_lt0, cmp_le0, cmp_ge0, cmp_gt0, tf_0, tf_n0, Decidable.not_not, not_true_eq_false, not_false_eq_true, Int.toNat_natCast, onat] at q) <;> (try (exfalso; omega)))
    | refine b120_20 ?_
    | (refine b120_8 (fun q => ?_) (fun q => ?_) <;> (try simp (disch := (first | assumption | omega | (unfold i32; omega) | (unfold i64; omega))) only [iZ_add, iZ_sub, iZ_mul, iZ_neg, lZ_add, lZ_sub, lZ_mul, lZ_neg, lZ_i, iZ_l, iZ_nat, Int.toNat_natCast, iZ_bit, iZ_shl, iZ_or, iZ_lt, iZ_le, iZ_eq, iZ_lt0, iZ_le0, iZ_gt0, iZ_ge0, iZ_eq0, cmp_eq0, cmp_lt0, cmp_le0, cmp_ge0, cmp_gt0, tf_0, tf_n0, Decidable.not_not, not_true_eq_false, not_false_eq_true, Int.toNat_natCast, onat] at q) <;> (try (exfalso; omega)))
    | refine b120_16 ?_)
theorem k121 {n : Int} (hn : i32 n) (hq : Q (some (.int (tf (-3 ≤ n ∧ n ≤ 3)))) h) : mCt mCd 121 [.int (iZ n)] h Q := by
  repeat' (first
    | refine en121 ?_
    | exact Qi (tf0 (by omega)) hq
    | exact Qi (tf1 (by omega)) hq
    | exact iZ_in (by omega) (by omega) (by decide)
    | simp (disch := (first | assumption | omega | (unfold i32; omega) | (unfold i64; omega))) only [iZ_add, iZ_sub, iZ_mul, iZ_neg, lZ_add, lZ_sub, lZ_mul, lZ_neg, lZ_i, iZ_l, iZ_nat, Int.toNat_natCast, iZ_bit, iZ_shl, iZ_or, iZ_lt, iZ_le, iZ_eq, iZ_lt0, iZ_le0, iZ_gt0, iZ_ge0, iZ_eq0, cmp_eq0, cmp_lt0, cmp_le0, cmp_ge0, cmp_gt0, tf_0, tf_n0, Decidable.not_not, not_true_eq_false, not_false_eq_true, Int.toNat_natCast, onat]
    | (refine b121_0 (fun q => ?_) (fun q => ?_) <;> (try simp (disch := (first | assumption | omega | (unfold i32; omega) | (unfold i64; omega))) only [iZ_add, iZ_sub, iZ_mul, iZ_neg, lZ_add, lZ_sub, lZ_mul, lZ_neg, lZ_i, iZ_l, iZ_nat, Int.toNat_natCast, iZ_bit, iZ_shl, iZ_or, iZ_lt, iZ_le, iZ_eq, iZ_lt0, iZ_le0, iZ_gt0, iZ_ge0, iZ_eq0, cmp_eq0, cmp_lt0, cmp_le0, cmp_ge0, cmp_gt0, tf_0, tf_n0, Decidable.not_not, not_true_eq_false, not_false_eq_true, Int.toNat_natCast, onat] at q) <;> (try (exfalso; omega)))
    | refine b121_15 ?_
    | (refine b121_6 (fun q => ?_) (fun q => ?_) <;> (try simp (disch := (first | assumption | omega | (unfold i32; omega) | (unfold i64; omega))) only [iZ_add, iZ_sub, iZ_mul, iZ_neg, lZ_add, lZ_sub, lZ_mul, lZ_neg, lZ_i, iZ_l, iZ_nat, Int.toNat_natCast, iZ_bit, iZ_shl, iZ_or, iZ_lt, iZ_le, iZ_eq, iZ_lt0, iZ_le0, iZ_gt0, iZ_ge0, iZ_eq0, cmp_eq0, cmp_lt0, cmp_le0, cmp_ge0, cmp_gt0, tf_0, tf_n0, Decidable.not_not, not_true_eq_false, not_false_eq_true, Int.toNat_natCast, onat] at q) <;> (try (exfalso; omega)))
    | refine b121_11 ?_)
theorem k122 {n : Int} (hn : i32 n) (hq : Q (some (.int (tf (0 ≤ n ∧ n ≤ 1)))) h) : mCt mCd 122 [.int (iZ n)] h Q := by
  repeat' (first
    | refine en122 ?_
    | exact Qi (tf0 (by omega)) hq
    | exact Qi (tf1 (by omega)) hq
    | exact iZ_in (by omega) (by omega) (by decide)
    | simp (disch := (first | assumption | omega | (unfold i32; omega) | (unfold i64; omega))) only [iZ_add, iZ_sub, iZ_mul, iZ_neg, lZ_add, lZ_sub, lZ_mul, lZ_neg, lZ_i, iZ_l, iZ_nat, Int.toNat_natCast, iZ_bit, iZ_shl, iZ_or, iZ_lt, iZ_le, iZ_eq, iZ_lt0, iZ_le0, iZ_gt0, iZ_ge0, iZ_eq0, cmp_eq0, cmp_lt0, cmp_le0, cmp_ge0, cmp_gt0, tf_0, tf_n0, Decidable.not_not, not_true_eq_false, not_false_eq_true, Int.toNat_natCast, onat]
    | (refine b122_0 (fun q => ?_) (fun q => ?_) <;> (try simp (disch := (first | assumption | omega | (unfold i32; omega) | (unfold i64; omega))) only [iZ_add, iZ_sub, iZ_mul, iZ_neg, lZ_add, lZ_sub, lZ_mul, lZ_neg, lZ_i, iZ_l, iZ_nat, Int.toNat_natCast, iZ_bit, iZ_shl, iZ_or, iZ_lt, iZ_le, iZ_eq, iZ_lt0, iZ_le0, iZ_gt0, iZ_ge0, iZ_eq0, cmp_eq0, cmp_lt0, cmp_le0, cmp_ge0, cmp_gt0, tf_0, tf_n0, Decidable.not_not, not_true_eq_false, not_false_eq_true, Int.toNat_natCast, onat] at q) <;> (try (exfalso; omega)))
    | refine b122_9 ?_
    | (refine b122_4 (fun q => ?_) (fun q => ?_) <;> (try simp (disch := (first | assumption | omega | (unfold i32; omega) | (unfold i64; omega))) only [iZ_add, iZ_sub, iZ_mul, iZ_neg, lZ_add, lZ_sub, lZ_mul, lZ_neg, lZ_i, iZ_l, iZ_nat, Int.toNat_natCast, iZ_bit, iZ_shl, iZ_or, iZ_lt, iZ_le, iZ_eq, iZ_lt0, iZ_le0, iZ_gt0, iZ_ge0, iZ_eq0, cmp_eq0, cmp_lt0, cmp_le0, cmp_ge0, cmp_gt0, tf_0, tf_n0, Decidable.not_not, not_true_eq_false, not_false_eq_true, Int.toNat_natCast, onat] at q) <;> (try (exfalso; omega)))
    | refine b122_13 ?_)
theorem k123 {n : Int} {vc : Int32} {g : Nat → Option Nat} (hn : i32 n) (e1 : h[5]? = some (oJ vc)) (e2 : h[13]? = some (aR 3 4 g)) (hq : Q (some (.int (tf (0 ≤ n ∧ n ≤ 3)))) h) : mCt mCd 123 [.ref 5, .int (iZ n)] h Q := by
  repeat' (first
    | refine en123 ?_
    | exact Qi (tf0 (by omega)) hq
    | exact Qi (tf1 (by omega)) hq
    | exact iZ_in (by omega) (by omega) (by decide)
    | simp (disch := (first | assumption | omega | (unfold i32; omega) | (unfold i64; omega))) only [iZ_add, iZ_sub, iZ_mul, iZ_neg, lZ_add, lZ_sub, lZ_mul, lZ_neg, lZ_i, iZ_l, iZ_nat, Int.toNat_natCast, iZ_bit, iZ_shl, iZ_or, iZ_lt, iZ_le, iZ_eq, iZ_lt0, iZ_le0, iZ_gt0, iZ_ge0, iZ_eq0, cmp_eq0, cmp_lt0, cmp_le0, cmp_ge0, cmp_gt0, tf_0, tf_n0, Decidable.not_not, not_true_eq_false, not_false_eq_true, Int.toNat_natCast, onat]
    | (refine b123_0 (fun q => ?_) (fun q => ?_) <;> (try simp (disch := (first | assumption | omega | (unfold i32; omega) | (unfold i64; omega))) only [iZ_add, iZ_sub, iZ_mul, iZ_neg, lZ_add, lZ_sub, lZ_mul, lZ_neg, lZ_i, iZ_l, iZ_nat, Int.toNat_natCast, iZ_bit, iZ_shl, iZ_or, iZ_lt, iZ_le, iZ_eq, iZ_lt0, iZ_le0, iZ_gt0, iZ_ge0, iZ_eq0, cmp_eq0, cmp_lt0, cmp_le0, cmp_ge0, cmp_gt0, tf_0, tf_n0, Decidable.not_not, not_true_eq_false, not_false_eq_true, Int.toNat_natCast, onat] at q) <;> (try (exfalso; omega)))
    | refine b123_17 ?_
    | (refine b123_4 (by first | assumption | (repeat' (first | assumption | refine mGs ?_ | refine mGn (by omega) ?_))) (by first | assumption | (repeat' (first | assumption | refine mGs ?_ | refine mGn (by omega) ?_))) (fun q => ?_) (fun q => ?_) <;> (try simp (disch := (first | assumption | omega | (unfold i32; omega) | (unfold i64; omega))) only [iZ_add, iZ_sub, iZ_mul, iZ_neg, lZ_add, lZ_sub, lZ_mul, lZ_neg, lZ_i, iZ_l, iZ_nat, Int.toNat_natCast, iZ_bit, iZ_shl, iZ_or, iZ_lt, iZ_le, iZ_eq, iZ_lt0, iZ_le0, iZ_gt0, iZ_ge0, iZ_eq0, cmp_eq0, cmp_lt0, cmp_le0, cmp_ge0, cmp_gt0, tf_0, tf_n0, Decidable.not_not, not_true_eq_false, not_false_eq_true, Int.toNat_natCast, onat] at q) <;> (try (exfalso; omega)))
    | refine b123_13 ?_)
theorem k124 {n : Int} (hn : i32 n) (hq : Q (some (.int (tf (0 ≤ n ∧ n ≤ 2)))) h) : mCt mCd 124 [.int (iZ n)] h Q := by
  repeat' (first
    | refine en124 ?_
    | exact Qi (tf0 (by omega)) hq
    | exact Qi (tf1 (by omega)) hq
    | exact iZ_in (by omega) (by omega) (by decide)
    | simp (disch := (first | assumption | omega | (unfold i32; omega) | (unfold i64; omega))) only [iZ_add, iZ_sub, iZ_mul, iZ_neg, lZ_add, lZ_sub, lZ_mul, lZ_neg, lZ_i, iZ_l, iZ_nat, Int.toNat_natCast, iZ_bit, iZ_shl, iZ_or, iZ_lt, iZ_le, iZ_eq, iZ_lt0, iZ_le0, iZ_gt0, iZ_ge0, iZ_eq0, cmp_eq0, cmp_lt0, cmp_le0, cmp_ge0, cmp_gt0, tf_0, tf_n0, Decidable.not_not, not_true_eq_false, not_false_eq_true, Int.toNat_natCast, onat]
    | (refine b124_0 (fun q => ?_) (fun q => ?_) <;> (try simp (disch := (first | assumption | omega | (unfold i32; omega) | (unfold i64; omega))) only [iZ_add, iZ_sub, iZ_mul, iZ_neg, lZ_add, lZ_sub, lZ_mul, lZ_neg, lZ_i, iZ_l, iZ_nat, Int.toNat_natCast, iZ_bit, iZ_shl, iZ_or, iZ_lt, iZ_le, iZ_eq, iZ_lt0, iZ_le0, iZ_gt0, iZ_ge0, iZ_eq0, cmp_eq0, cmp_lt0, cmp_le0, cmp_ge0, cmp_gt0, tf_0, tf_n0, Decidable.not_not, not_true_eq_false, not_false_eq_true, Int.toNat_natCast, onat] at q) <;> (try (exfalso; omega)))
    | refine b124_13 ?_
    | (refine b124_4 (fun q => ?_) (fun q => ?_) <;> (try simp (disch := (first | assumption | omega | (unfold i32; omega) | (unfold i64; omega))) only [iZ_add, iZ_sub, iZ_mul, iZ_neg, lZ_add, lZ_sub, lZ_mul, lZ_neg, lZ_i, iZ_l, iZ_nat, Int.toNat_natCast, iZ_bit, iZ_shl, iZ_or, iZ_lt, iZ_le, iZ_eq, iZ_lt0, iZ_le0, iZ_gt0, iZ_ge0, iZ_eq0, cmp_eq0, cmp_lt0, cmp_le0, cmp_ge0, cmp_gt0, tf_0, tf_n0, Decidable.not_not, not_true_eq_false, not_false_eq_true, Int.toNat_natCast, onat] at q) <;> (try (exfalso; omega)))
    | refine b124_9 ?_)
theorem k125 {x : Int} {b n : Nat} (hx : i32 x) (hn : n ≤ 4) (hb : ((b ^ n : Nat) : Int) < 2147483648) (hq : Q (some (.int (tf (0 ≤ x ∧ x < ((b ^ n : Nat) : Int))))) h) : mCt mCd 125 [.int (iZ x), .int (iZ b), .int (iZ n)] h Q := by
  have lp : ∀ k : Nat, k ≤ n → mWp mCd 125 (5, [some (.int (iZ x)), some (.int (iZ b)), some (.int (iZ n)), some (.int (iZ ((b ^ k : Nat) : Int))), some (.int (iZ k))], [], h, 0, 0) Q := by
    refine lp_up n ?_ ?_
    · refine b125_5 (fun _ => b125_21 (fun q => b125_34 ?_) (fun q => b125_25 (fun q2 => b125_34 ?_) (fun q2 => b125_30 ?_))) (fun q => absurd (Int32.le_refl _) q)
      · simp (disch := (first | assumption | omega | (unfold i32; omega) | (unfold i64; omega))) only [iZ_add, iZ_sub, iZ_mul, iZ_neg, lZ_add, lZ_sub, lZ_mul, lZ_neg, lZ_i, iZ_l, iZ_nat, Int.toNat_natCast, iZ_bit, iZ_shl, iZ_or, iZ_lt, iZ_le, iZ_eq, iZ_lt0, iZ_le0, iZ_gt0, iZ_ge0, iZ_eq0, cmp_eq0, cmp_lt0, cmp_le0, cmp_ge0, cmp_gt0, tf_0, tf_n0, Decidable.not_not, not_true_eq_false, not_false_eq_true, Int.toNat_natCast, onat] at q
        exact Qi (tf0 (by omega)) hq
      · simp (disch := (first | assumption | omega | (unfold i32; omega) | (unfold i64; omega))) only [iZ_add, iZ_sub, iZ_mul, iZ_neg, lZ_add, lZ_sub, lZ_mul, lZ_neg, lZ_i, iZ_l, iZ_nat, Int.toNat_natCast, iZ_bit, iZ_shl, iZ_or, iZ_lt, iZ_le, iZ_eq, iZ_lt0, iZ_le0, iZ_gt0, iZ_ge0, iZ_eq0, cmp_eq0, cmp_lt0, cmp_le0, cmp_ge0, cmp_gt0, tf_0, tf_n0, Decidable.not_not, not_true_eq_false, not_false_eq_true, Int.toNat_natCast, onat] at q
        have : i32 ((b ^ n : Nat) : Int) := ⟨by omega, by omega⟩
        simp (disch := (first | assumption | omega | (unfold i32; omega) | (unfold i64; omega))) only [iZ_add, iZ_sub, iZ_mul, iZ_neg, lZ_add, lZ_sub, lZ_mul, lZ_neg, lZ_i, iZ_l, iZ_nat, Int.toNat_natCast, iZ_bit, iZ_shl, iZ_or, iZ_lt, iZ_le, iZ_eq, iZ_lt0, iZ_le0, iZ_gt0, iZ_ge0, iZ_eq0, cmp_eq0, cmp_lt0, cmp_le0, cmp_ge0, cmp_gt0, tf_0, tf_n0, Decidable.not_not, not_true_eq_false, not_false_eq_true, Int.toNat_natCast, onat] at q2
        exact Qi (tf0 (by omega)) hq
      · simp (disch := (first | assumption | omega | (unfold i32; omega) | (unfold i64; omega))) only [iZ_add, iZ_sub, iZ_mul, iZ_neg, lZ_add, lZ_sub, lZ_mul, lZ_neg, lZ_i, iZ_l, iZ_nat, Int.toNat_natCast, iZ_bit, iZ_shl, iZ_or, iZ_lt, iZ_le, iZ_eq, iZ_lt0, iZ_le0, iZ_gt0, iZ_ge0, iZ_eq0, cmp_eq0, cmp_lt0, cmp_le0, cmp_ge0, cmp_gt0, tf_0, tf_n0, Decidable.not_not, not_true_eq_false, not_false_eq_true, Int.toNat_natCast, onat] at q
        have : i32 ((b ^ n : Nat) : Int) := ⟨by omega, by omega⟩
        simp (disch := (first | assumption | omega | (unfold i32; omega) | (unfold i64; omega))) only [iZ_add, iZ_sub, iZ_mul, iZ_neg, lZ_add, lZ_sub, lZ_mul, lZ_neg, lZ_i, iZ_l, iZ_nat, Int.toNat_natCast, iZ_bit, iZ_shl, iZ_or, iZ_lt, iZ_le, iZ_eq, iZ_lt0, iZ_le0, iZ_gt0, iZ_ge0, iZ_eq0, cmp_eq0, cmp_lt0, cmp_le0, cmp_ge0, cmp_gt0, tf_0, tf_n0, Decidable.not_not, not_true_eq_false, not_false_eq_true, Int.toNat_natCast, onat] at q2
        exact Qi (tf1 (by omega)) hq
    · intro k hk ih
      refine b125_5 (fun q => ?_) (fun _ => b125_11 ?_)
      · simp (disch := (first | assumption | omega | (unfold i32; omega) | (unfold i64; omega))) only [iZ_add, iZ_sub, iZ_mul, iZ_neg, lZ_add, lZ_sub, lZ_mul, lZ_neg, lZ_i, iZ_l, iZ_nat, Int.toNat_natCast, iZ_bit, iZ_shl, iZ_or, iZ_lt, iZ_le, iZ_eq, iZ_lt0, iZ_le0, iZ_gt0, iZ_ge0, iZ_eq0, cmp_eq0, cmp_lt0, cmp_le0, cmp_ge0, cmp_gt0, tf_0, tf_n0, Decidable.not_not, not_true_eq_false, not_false_eq_true, Int.toNat_natCast, onat] at q
        omega
      · rw [iZ_mul, iZ_add]
        rw [Nat.pow_succ, Int.natCast_mul] at ih
        exact ih
  have := lp 0 (Nat.zero_le _)
  rw [Nat.pow_zero] at this
  exact en125 (b125_0 this)
theorem k126 {s p : Nat} (hs : s < 2147483648) (hp : p < 31) (hq : Q (some (.int (iZ (bt s p : Nat)))) h) : mCt mCd 126 [.int (iZ s), .int (iZ p)] h Q :=
  en126 (b126_0 (Qi (iZ_bitN hs hp) hq))
def gapN (s p : Nat) : Nat := s % 2 ^ p + 2 * (s - s % 2 ^ p)
theorem gap_z : ∀ s, s < 16 → ∀ p, p < 4 → (iZ (s : Nat) &&& (((iZ 1) <<< (iZ (p : Nat) &&& 31)) - (iZ 1))) ||| ((iZ (s : Nat) &&& ((iZ (s : Nat) &&& (((iZ 1) <<< (iZ (p : Nat) &&& 31)) - (iZ 1))) ^^^ (iZ (-1)))) <<< ((iZ 1) &&& 31)) = iZ (gapN s p : Nat) := by decide +kernel
theorem k127 {s p : Nat} (hs : s < 16) (hp : p < 4) (hq : Q (some (.int (iZ (gapN s p : Nat)))) h) : mCt mCd 127 [.int (iZ s), .int (iZ p)] h Q :=
  en127 (b127_0 (Qi (gap_z s hs p hp) hq))
theorem k128 {n : Nat} (hn : n ≤ 4) (hq : Q (some (.int (iZ (fac n)))) h) : mCt mCd 128 [.int (iZ n)] h Q := by
  have lp : ∀ k : Nat, 2 ≤ k → k ≤ n + 1 → ∀ d, k + d = n + 1 → mWp mCd 128 (4, [some (.int (iZ n)), some (.int (iZ (fac (k - 1)))), some (.int (iZ k))], [], h, 0, 0) Q := by
    intro k h2 hk d
    induction d generalizing k with
    | zero =>
      intro hd
      refine b128_4 (fun _ => b128_19 ?_) (fun q => ?_)
      · rw [show k - 1 = n by omega]
        exact hq
      · simp (disch := (first | assumption | omega | (unfold i32; omega) | (unfold i64; omega))) only [iZ_add, iZ_sub, iZ_mul, iZ_neg, lZ_add, lZ_sub, lZ_mul, lZ_neg, lZ_i, iZ_l, iZ_nat, Int.toNat_natCast, iZ_bit, iZ_shl, iZ_or, iZ_lt, iZ_le, iZ_eq, iZ_lt0, iZ_le0, iZ_gt0, iZ_ge0, iZ_eq0, cmp_eq0, cmp_lt0, cmp_le0, cmp_ge0, cmp_gt0, tf_0, tf_n0, Decidable.not_not, not_true_eq_false, not_false_eq_true, Int.toNat_natCast, onat] at q
        omega
    | succ d ih =>
      intro hd
      refine b128_4 (fun q => ?_) (fun _ => b128_9 ?_)
      · simp (disch := (first | assumption | omega | (unfold i32; omega) | (unfold i64; omega))) only [iZ_add, iZ_sub, iZ_mul, iZ_neg, lZ_add, lZ_sub, lZ_mul, lZ_neg, lZ_i, iZ_l, iZ_nat, Int.toNat_natCast, iZ_bit, iZ_shl, iZ_or, iZ_lt, iZ_le, iZ_eq, iZ_lt0, iZ_le0, iZ_gt0, iZ_ge0, iZ_eq0, cmp_eq0, cmp_lt0, cmp_le0, cmp_ge0, cmp_gt0, tf_0, tf_n0, Decidable.not_not, not_true_eq_false, not_false_eq_true, Int.toNat_natCast, onat] at q
        omega
      · rw [iZ_mul, iZ_add]
        have := ih (k + 1) (by omega) (by omega) (by omega)
        have e : fac (k + 1 - 1) = fac (k - 1) * (k : Int) := by
          rw [show k + 1 - 1 = (k - 1) + 1 by omega]
          show fac (k - 1) * (((k - 1 : Nat) : Int) + 1) = _
          congr 1
          omega
        rw [e] at this
        exact this
  refine en128 (b128_0 ?_)
  by_cases h0 : n = 0
  · subst h0
    refine b128_4 (fun _ => b128_19 hq) (fun q => ?_)
    simp (disch := (first | assumption | omega | (unfold i32; omega) | (unfold i64; omega))) only [iZ_add, iZ_sub, iZ_mul, iZ_neg, lZ_add, lZ_sub, lZ_mul, lZ_neg, lZ_i, iZ_l, iZ_nat, Int.toNat_natCast, iZ_bit, iZ_shl, iZ_or, iZ_lt, iZ_le, iZ_eq, iZ_lt0, iZ_le0, iZ_gt0, iZ_ge0, iZ_eq0, cmp_eq0, cmp_lt0, cmp_le0, cmp_ge0, cmp_gt0, tf_0, tf_n0, Decidable.not_not, not_true_eq_false, not_false_eq_true, Int.toNat_natCast, onat] at q
    omega
  · exact lp 2 (Nat.le_refl 2) (by omega) (n - 1) (by omega)
def leanR (n : Nat) : Nat := if n = 2 then 2 else if n = 3 then 3 else if n = 4 then 4 else 1
theorem k129 {n : Nat} (hn : n ≤ 4) (hq : Q (some (.ref (leanR n))) h) : mCt mCd 129 [.int (iZ n)] h Q := by
  have hi : (iZ (n : Int)).toInt = n := iZ_toInt (by unfold i32; omega)
  refine en129 (b129_0 (fun q => b129_40 ?_) (fun q => ?_))
  · rw [hi] at q
    unfold leanR at hq
    rw [if_neg (by omega), if_neg (by omega), if_neg (by omega)] at hq
    exact hq
  · rw [hi] at q ⊢
    have : n = 2 ∨ n = 3 ∨ n = 4 := by omega
    rcases this with e | e | e <;> subst e
    · exact ⟨28, rfl, b129_28 hq⟩
    · exact ⟨32, rfl, b129_32 hq⟩
    · exact ⟨36, rfl, b129_36 hq⟩
theorem ls_z : ∀ n, n ≤ 4 → ∀ c, c ∈ leanC n → ∀ k, k < 4 → (Int64.toInt32 (lZ (c : Nat) >>> ((((iZ 8) * iZ (k : Nat)) + (iZ 4) : Int32).toInt64 &&& 63))) &&& (iZ 15) = iZ (lS c k : Nat) := by decide +kernel
theorem lw_z : ∀ n, n ≤ 4 → ∀ c, c ∈ leanC n → ∀ k, k < 4 → (Int64.toInt32 (lZ (c : Nat) >>> (((iZ 8) * iZ (k : Nat) : Int32).toInt64 &&& 63))) &&& (iZ 15) = iZ (lW c k : Nat) := by decide +kernel
theorem k130 {n c k : Nat} (hn : n ≤ 4) (hc : c ∈ leanC n) (hk : k < 4) (hq : Q (some (.int (iZ (lS c k : Nat)))) h) : mCt mCd 130 [.long (lZ c), .int (iZ k)] h Q :=
  en130 (b130_0 (Qi (ls_z n hn c hc k hk) hq))
theorem k131 {n c k : Nat} (hn : n ≤ 4) (hc : c ∈ leanC n) (hk : k < 4) (hq : Q (some (.int (iZ (lW c k : Nat)))) h) : mCt mCd 131 [.long (lZ c), .int (iZ k)] h Q :=
  en131 (b131_0 (Qi (lw_z n hn c hc k hk) hq))
theorem k132 {n c s : Nat} (hn : n ≤ 4) (hc : c ∈ leanC n) (hs : s < 16) (hq : Q (some (.int (iZ (wOf c s : Nat)))) h) : mCt mCd 132 [.long (lZ c), .int (iZ s)] h Q := by
  have hS : ∀ k, lS c k < 16 := fun k => Nat.mod_lt _ (by decide)
  have st : ∀ k : Nat, k < 4 → (lS c k = s → Q (some (.int (iZ (lW c k : Nat)))) h) → (lS c k ≠ s → mWp mCd 132 (2, [some (.long (lZ c)), none, some (.int (iZ s)), some (.int (iZ ((k + 1 : Nat) : Int)))], [], h, 0, 0) Q) → mWp mCd 132 (2, [some (.long (lZ c)), none, some (.int (iZ s)), some (.int (iZ k))], [], h, 0, 0) Q := by
    intro k hk h1 h2
    have := hS k
    refine b132_2 (fun q => ?_) (fun _ => b132_7 (k130 hn hc hk (b132_12 (fun q => b132_22 ?_) (fun q => b132_16 (k131 hn hc hk (b132_21 (h1 ?_)))))))
    · simp (disch := (first | assumption | omega | (unfold i32; omega) | (unfold i64; omega))) only [iZ_add, iZ_sub, iZ_mul, iZ_neg, lZ_add, lZ_sub, lZ_mul, lZ_neg, lZ_i, iZ_l, iZ_nat, Int.toNat_natCast, iZ_bit, iZ_shl, iZ_or, iZ_lt, iZ_le, iZ_eq, iZ_lt0, iZ_le0, iZ_gt0, iZ_ge0, iZ_eq0, cmp_eq0, cmp_lt0, cmp_le0, cmp_ge0, cmp_gt0, tf_0, tf_n0, Decidable.not_not, not_true_eq_false, not_false_eq_true, Int.toNat_natCast, onat] at q
      omega
    · simp (disch := (first | assumption | omega | (unfold i32; omega) | (unfold i64; omega))) only [iZ_add, iZ_sub, iZ_mul, iZ_neg, lZ_add, lZ_sub, lZ_mul, lZ_neg, lZ_i, iZ_l, iZ_nat, Int.toNat_natCast, iZ_bit, iZ_shl, iZ_or, iZ_lt, iZ_le, iZ_eq, iZ_lt0, iZ_le0, iZ_gt0, iZ_ge0, iZ_eq0, cmp_eq0, cmp_lt0, cmp_le0, cmp_ge0, cmp_gt0, tf_0, tf_n0, Decidable.not_not, not_true_eq_false, not_false_eq_true, Int.toNat_natCast, onat] at q
      rw [iZ_add]
      exact h2 (by omega)
    · simp (disch := (first | assumption | omega | (unfold i32; omega) | (unfold i64; omega))) only [iZ_add, iZ_sub, iZ_mul, iZ_neg, lZ_add, lZ_sub, lZ_mul, lZ_neg, lZ_i, iZ_l, iZ_nat, Int.toNat_natCast, iZ_bit, iZ_shl, iZ_or, iZ_lt, iZ_le, iZ_eq, iZ_lt0, iZ_le0, iZ_gt0, iZ_ge0, iZ_eq0, cmp_eq0, cmp_lt0, cmp_le0, cmp_ge0, cmp_gt0, tf_0, tf_n0, Decidable.not_not, not_true_eq_false, not_false_eq_true, Int.toNat_natCast, onat] at q
      omega
  unfold wOf at hq
  refine en132 (b132_0 (st 0 (by decide) (fun e => ?_) (fun n0 => st 1 (by decide) (fun e => ?_) (fun n1 => st 2 (by decide) (fun e => ?_) (fun n2 => st 3 (by decide) (fun e => ?_) (fun n3 => b132_2 (fun _ => b132_28 ?_) (fun q => absurd (Int32.le_refl _) q)))))))
  · rw [if_pos e] at hq; exact hq
  · rw [if_neg n0, if_pos e] at hq; exact hq
  · rw [if_neg n0, if_neg n1, if_pos e] at hq; exact hq
  · rw [if_neg n0, if_neg n1, if_neg n2, if_pos e] at hq; exact hq
  · rw [if_neg n0, if_neg n1, if_neg n2, if_neg n3] at hq; exact hq
theorem k133 {n c : Nat} (hn : n ≤ 4) (hc : c ∈ leanC n) (hq : Q (some (.int (iZ (lTot c)))) h) : mCt mCd 133 [.long (lZ c)] h Q := by
  have st : ∀ (k : Nat) (x : Int), k < 4 → mWp mCd 133 (4, [some (.long (lZ c)), none, some (.int (iZ (x + (lW c k : Nat)))), some (.int (iZ ((k + 1 : Nat) : Int)))], [], h, 0, 0) Q → mWp mCd 133 (4, [some (.long (lZ c)), none, some (.int (iZ x)), some (.int (iZ k))], [], h, 0, 0) Q := by
    intro k x hk h1
    refine b133_4 (fun q => ?_) (fun _ => b133_9 (k131 hn hc hk (b133_15 ?_)))
    · simp (disch := (first | assumption | omega | (unfold i32; omega) | (unfold i64; omega))) only [iZ_add, iZ_sub, iZ_mul, iZ_neg, lZ_add, lZ_sub, lZ_mul, lZ_neg, lZ_i, iZ_l, iZ_nat, Int.toNat_natCast, iZ_bit, iZ_shl, iZ_or, iZ_lt, iZ_le, iZ_eq, iZ_lt0, iZ_le0, iZ_gt0, iZ_ge0, iZ_eq0, cmp_eq0, cmp_lt0, cmp_le0, cmp_ge0, cmp_gt0, tf_0, tf_n0, Decidable.not_not, not_true_eq_false, not_false_eq_true, Int.toNat_natCast, onat] at q
      omega
    · rw [iZ_add, iZ_add]
      exact h1
  refine en133 (b133_0 (st 0 0 (by decide) (st 1 _ (by decide) (st 2 _ (by decide) (st 3 _ (by decide) (b133_4 (fun _ => b133_23 ?_) (fun q => absurd (Int32.le_refl _) q)))))))
  unfold lTot at hq
  rw [Int.zero_add]
  exact hq
theorem k218 {a : Int} (ha : bd 4611686018427387903 a) (hq : Q (some (.long (lZ (a.natAbs : Nat)))) h) : mCt mCd 218 [.long (lZ a)] h Q := by
  have hai : i64 a := ⟨by unfold bd at *; omega, by unfold bd at *; omega⟩
  have h0 : i64 0 := ⟨by omega, by omega⟩
  refine en218 (b218_0 (fun q => b218_11 ?_) (fun q => b218_6 ?_))
  · rw [cmp_ge0 hai h0] at q
    exact Ql (by congr 1; omega) hq
  · rw [cmp_ge0 hai h0] at q
    rw [lZ_neg]
    exact Ql (by congr 1; omega) hq
theorem k219 {a b : Int} (ha : i32 a) (hb : i32 b) (hq : Q (some (.int (iZ (max a b)))) h) : mCt mCd 219 [.int (iZ a), .int (iZ b)] h Q := by
  refine en219 (b219_0 (fun q => b219_9 (Qi ?_ hq)) (fun q => b219_5 (Qi ?_ hq)))
  · simp (disch := (first | assumption | omega | (unfold i32; omega) | (unfold i64; omega))) only [iZ_add, iZ_sub, iZ_mul, iZ_neg, lZ_add, lZ_sub, lZ_mul, lZ_neg, lZ_i, iZ_l, iZ_nat, Int.toNat_natCast, iZ_bit, iZ_shl, iZ_or, iZ_lt, iZ_le, iZ_eq, iZ_lt0, iZ_le0, iZ_gt0, iZ_ge0, iZ_eq0, cmp_eq0, cmp_lt0, cmp_le0, cmp_ge0, cmp_gt0, tf_0, tf_n0, Decidable.not_not, not_true_eq_false, not_false_eq_true, Int.toNat_natCast, onat] at q
    congr 1; omega
  · simp (disch := (first | assumption | omega | (unfold i32; omega) | (unfold i64; omega))) only [iZ_add, iZ_sub, iZ_mul, iZ_neg, lZ_add, lZ_sub, lZ_mul, lZ_neg, lZ_i, iZ_l, iZ_nat, Int.toNat_natCast, iZ_bit, iZ_shl, iZ_or, iZ_lt, iZ_le, iZ_eq, iZ_lt0, iZ_le0, iZ_gt0, iZ_ge0, iZ_eq0, cmp_eq0, cmp_lt0, cmp_le0, cmp_ge0, cmp_gt0, tf_0, tf_n0, Decidable.not_not, not_true_eq_false, not_false_eq_true, Int.toNat_natCast, onat] at q
    congr 1; omega
theorem k220 {a b : Int} (ha : i32 a) (hb : i32 b) (hq : Q (some (.int (iZ (min a b)))) h) : mCt mCd 220 [.int (iZ a), .int (iZ b)] h Q := by
  refine en220 (b220_0 (fun q => b220_9 (Qi ?_ hq)) (fun q => b220_5 (Qi ?_ hq)))
  · simp (disch := (first | assumption | omega | (unfold i32; omega) | (unfold i64; omega))) only [iZ_add, iZ_sub, iZ_mul, iZ_neg, lZ_add, lZ_sub, lZ_mul, lZ_neg, lZ_i, iZ_l, iZ_nat, Int.toNat_natCast, iZ_bit, iZ_shl, iZ_or, iZ_lt, iZ_le, iZ_eq, iZ_lt0, iZ_le0, iZ_gt0, iZ_ge0, iZ_eq0, cmp_eq0, cmp_lt0, cmp_le0, cmp_ge0, cmp_gt0, tf_0, tf_n0, Decidable.not_not, not_true_eq_false, not_false_eq_true, Int.toNat_natCast, onat] at q
    congr 1; omega
  · simp (disch := (first | assumption | omega | (unfold i32; omega) | (unfold i64; omega))) only [iZ_add, iZ_sub, iZ_mul, iZ_neg, lZ_add, lZ_sub, lZ_mul, lZ_neg, lZ_i, iZ_l, iZ_nat, Int.toNat_natCast, iZ_bit, iZ_shl, iZ_or, iZ_lt, iZ_le, iZ_eq, iZ_lt0, iZ_le0, iZ_gt0, iZ_ge0, iZ_eq0, cmp_eq0, cmp_lt0, cmp_le0, cmp_ge0, cmp_gt0, tf_0, tf_n0, Decidable.not_not, not_true_eq_false, not_false_eq_true, Int.toNat_natCast, onat] at q
    congr 1; omega
theorem k216 {a b : Int} (ha : i32 a) (hb : i32 b) (hq : Q (some (.int (iZ (if a < b then -1 else if b < a then 1 else 0)))) h) : mCt mCd 216 [.int (iZ a), .int (iZ b)] h Q := by
  refine en216 (b216_0 (fun q => b216_9 (fun q2 => b216_18 ?_) (fun q2 => b216_14 ?_)) (fun q => b216_5 ?_))
  · simp (disch := (first | assumption | omega | (unfold i32; omega) | (unfold i64; omega))) only [iZ_add, iZ_sub, iZ_mul, iZ_neg, lZ_add, lZ_sub, lZ_mul, lZ_neg, lZ_i, iZ_l, iZ_nat, Int.toNat_natCast, iZ_bit, iZ_shl, iZ_or, iZ_lt, iZ_le, iZ_eq, iZ_lt0, iZ_le0, iZ_gt0, iZ_ge0, iZ_eq0, cmp_eq0, cmp_lt0, cmp_le0, cmp_ge0, cmp_gt0, tf_0, tf_n0, Decidable.not_not, not_true_eq_false, not_false_eq_true, Int.toNat_natCast, onat] at q
    simp (disch := (first | assumption | omega | (unfold i32; omega) | (unfold i64; omega))) only [iZ_add, iZ_sub, iZ_mul, iZ_neg, lZ_add, lZ_sub, lZ_mul, lZ_neg, lZ_i, iZ_l, iZ_nat, Int.toNat_natCast, iZ_bit, iZ_shl, iZ_or, iZ_lt, iZ_le, iZ_eq, iZ_lt0, iZ_le0, iZ_gt0, iZ_ge0, iZ_eq0, cmp_eq0, cmp_lt0, cmp_le0, cmp_ge0, cmp_gt0, tf_0, tf_n0, Decidable.not_not, not_true_eq_false, not_false_eq_true, Int.toNat_natCast, onat] at q2
    rw [if_neg (by omega), if_pos (by omega)] at hq
    exact hq
  · simp (disch := (first | assumption | omega | (unfold i32; omega) | (unfold i64; omega))) only [iZ_add, iZ_sub, iZ_mul, iZ_neg, lZ_add, lZ_sub, lZ_mul, lZ_neg, lZ_i, iZ_l, iZ_nat, Int.toNat_natCast, iZ_bit, iZ_shl, iZ_or, iZ_lt, iZ_le, iZ_eq, iZ_lt0, iZ_le0, iZ_gt0, iZ_ge0, iZ_eq0, cmp_eq0, cmp_lt0, cmp_le0, cmp_ge0, cmp_gt0, tf_0, tf_n0, Decidable.not_not, not_true_eq_false, not_false_eq_true, Int.toNat_natCast, onat] at q
    simp (disch := (first | assumption | omega | (unfold i32; omega) | (unfold i64; omega))) only [iZ_add, iZ_sub, iZ_mul, iZ_neg, lZ_add, lZ_sub, lZ_mul, lZ_neg, lZ_i, iZ_l, iZ_nat, Int.toNat_natCast, iZ_bit, iZ_shl, iZ_or, iZ_lt, iZ_le, iZ_eq, iZ_lt0, iZ_le0, iZ_gt0, iZ_ge0, iZ_eq0, cmp_eq0, cmp_lt0, cmp_le0, cmp_ge0, cmp_gt0, tf_0, tf_n0, Decidable.not_not, not_true_eq_false, not_false_eq_true, Int.toNat_natCast, onat] at q2
    rw [if_neg (by omega), if_neg (by omega)] at hq
    exact hq
  · simp (disch := (first | assumption | omega | (unfold i32; omega) | (unfold i64; omega))) only [iZ_add, iZ_sub, iZ_mul, iZ_neg, lZ_add, lZ_sub, lZ_mul, lZ_neg, lZ_i, iZ_l, iZ_nat, Int.toNat_natCast, iZ_bit, iZ_shl, iZ_or, iZ_lt, iZ_le, iZ_eq, iZ_lt0, iZ_le0, iZ_gt0, iZ_ge0, iZ_eq0, cmp_eq0, cmp_lt0, cmp_le0, cmp_ge0, cmp_gt0, tf_0, tf_n0, Decidable.not_not, not_true_eq_false, not_false_eq_true, Int.toNat_natCast, onat] at q
    rw [if_pos (by omega)] at hq
    exact hq
theorem k217 {s : Nat} (hs : s < 16) (hq : Q (some (.int (iZ (ones s : Nat)))) h) : mCt mCd 217 [.int (iZ s)] h Q := by
  refine en217 (b217_0 ?_)
  have : s = 0 ∨ s = 1 ∨ s = 2 ∨ s = 3 ∨ s = 4 ∨ s = 5 ∨ s = 6 ∨ s = 7 ∨ s = 8 ∨ s = 9 ∨ s = 10 ∨ s = 11 ∨ s = 12 ∨ s = 13 ∨ s = 14 ∨ s = 15 := by omega
  rcases this with e | e | e | e | e | e | e | e | e | e | e | e | e | e | e | e <;> subst e <;> refine Qi ?_ hq <;> decide +kernel
/-- the greatest common divisor, in at most 128 steps -/
theorem l135 : ∀ (k y x i : Nat), y < 2 ^ k → x < 4611686018427387904 → y < 4611686018427387904 → i + 2 * k ≤ 127 → Q (some (.long (lZ (Nat.gcd x y)))) h → mWp mCd 135 (9, [none, none, none, none, some (.long (lZ x)), none, some (.long (lZ y)), none, some (.int (iZ i)), none, none], [], h, 0, 0) Q := by
  have st : ∀ (y x i : Nat), x < 4611686018427387904 → y < 4611686018427387904 → i < 128 → (y = 0 → Q (some (.long (lZ x))) h) → (0 < y → mWp mCd 135 (9, [none, none, none, none, some (.long (lZ y)), none, some (.long (lZ (x % y : Nat))), none, some (.int (iZ ((i + 1 : Nat) : Int))), none, none], [], h, 0, 0) Q) → mWp mCd 135 (9, [none, none, none, none, some (.long (lZ x)), none, some (.long (lZ y)), none, some (.int (iZ i)), none, none], [], h, 0, 0) Q := by
    intro y x i hx hy hi h1 h2
    have hyb : i64 (y : Int) := ⟨by omega, by omega⟩
    have hxb : i64 (x : Int) := ⟨by omega, by omega⟩
    refine b135_9 (fun q => ?_) (fun _ => b135_17 (fun q => b135_45 ?_) (fun q => b135_24 ?_ ?_))
    · simp (disch := (first | assumption | omega | (unfold i32; omega) | (unfold i64; omega))) only [iZ_add, iZ_sub, iZ_mul, iZ_neg, lZ_add, lZ_sub, lZ_mul, lZ_neg, lZ_i, iZ_l, iZ_nat, Int.toNat_natCast, iZ_bit, iZ_shl, iZ_or, iZ_lt, iZ_le, iZ_eq, iZ_lt0, iZ_le0, iZ_gt0, iZ_ge0, iZ_eq0, cmp_eq0, cmp_lt0, cmp_le0, cmp_ge0, cmp_gt0, tf_0, tf_n0, Decidable.not_not, not_true_eq_false, not_false_eq_true, Int.toNat_natCast, onat] at q
      omega
    · rw [cmp_eq0 hyb ⟨by omega, by omega⟩] at q
      exact h1 (by omega)
    · rw [cmp_eq0 hyb ⟨by omega, by omega⟩] at q
      rw [lZ_eq0 hyb]; exact q
    · rw [cmp_eq0 hyb ⟨by omega, by omega⟩] at q
      rw [lZ_rem hxb hyb (by omega)]
      have e : (x : Int).tmod (y : Int) = ((x % y : Nat) : Int) := by
        rw [Int.tmod_eq_emod_of_nonneg (by omega)]; exact (Int.natCast_emod x y).symm
      rw [e, iZ_add]
      exact h2 (by omega)
  intro k
  induction k with
  | zero =>
    intro y x i hk hx hy hi hq
    have : y = 0 := by rw [Nat.pow_zero] at hk; omega
    subst this
    exact st 0 x i hx hy (by omega) (fun _ => by simpa using hq) (fun q => absurd q (by omega))
  | succ k ih =>
    intro y x i hk hx hy hi hq
    refine st y x i hx hy (by omega) (fun q => by subst q; simpa using hq) (fun q => ?_)
    have hm := Nat.mod_lt x q
    refine st (x % y) y (i + 1) hy (by omega) (by omega) (fun q2 => ?_) (fun q2 => ?_)
    · rw [Nat.gcd_comm, Nat.gcd_rec, q2, Nat.gcd_zero_left] at hq
      exact hq
    · have hm2 := Nat.mod_lt y q2
      have hlt : y % (x % y) < 2 ^ k := by
        have h3 : y % (x % y) + (x % y) ≤ y := by
          have e := Nat.div_add_mod y (x % y)
          have h4 : 1 ≤ y / (x % y) := Nat.div_pos (by omega) q2
          have h5 := Nat.mul_le_mul_left (x % y) h4
          omega
        rw [Nat.pow_succ] at hk
        omega
      refine ih (y % (x % y)) (x % y) (i + 1 + 1) hlt (by omega) (by omega) (by omega) ?_
      have e : Nat.gcd x y = Nat.gcd (x % y) (y % (x % y)) := by rw [Nat.gcd_comm x y, Nat.gcd_rec y x, Nat.gcd_rec (x % y) y, Nat.gcd_comm]
      rw [e] at hq
      exact hq
theorem k135 {x y : Nat} (hx : x < 4611686018427387904) (hy : y < 4611686018427387904) (hq : Q (some (.long (lZ (Nat.gcd x y)))) h) : mCt mCd 135 [.long (lZ x), .long (lZ y)] h Q :=
  en135 (b135_0 (l135 62 y x 0 (by omega) hx hy (by omega) hq))
theorem k134 {a b k : Int} (ha : bd 4611686018427387903 a) (hb : bd 4611686018427387903 b) (hb0 : 0 < b) (hk : i32 k) (hq : Q (some (.long (lZ (if 0 ≤ k ∧ k ≤ 1 then lowZ a b k.toNat else NOz)))) h) : mCt mCd 134 [.long (lZ a), .long (lZ b), .int (iZ k)] h Q := by
  have hai : i64 a := ⟨by unfold bd at *; omega, by unfold bd at *; omega⟩
  have hbi : i64 b := ⟨by unfold bd at *; omega, by unfold bd at *; omega⟩
  have hg0 : 0 < Int.gcd a b := Nat.pos_of_ne_zero fun z => by
    have := (Int.gcd_eq_zero_iff.mp z).2
    omega
  have hgb : Int.gcd a b ≤ b.natAbs := Int.gcd_le_natAbs_right a (by omega)
  have hgi : i64 (Int.gcd a b : Int) := ⟨by omega, by unfold bd at *; omega⟩
  have l1 : i64 1 := ⟨by omega, by omega⟩
  have eb : lZ b = lZ (b.natAbs : Nat) := by congr 1; omega
  refine en134 (b134_0 (k218 ha (b134_4 ?_)))
  rw [eb]
  refine k135 (by unfold bd at *; omega) (by unfold bd at *; omega) ?_
  rw [← eb]
  show mWp mCd 134 (8, _, [.long (lZ (Int.gcd a b : Nat))], h, 0, 0) Q
  refine b134_8 (fun q => ?_) (fun q => b134_17 (fun q2 => b134_32 (fun q3 => absurd q2 q3) (fun q3 => b134_37 ?_ ?_)) (fun q2 => b134_22 (fun q3 => b134_32 (fun q4 => b134_41 ?_ ?_) (fun q4 => absurd q2 q4)) (fun q3 => b134_28 ?_)))
  · rw [cmp_lt0 hgi l1] at q
    omega
  · rw [lZ_eq0 hgi]; omega
  · simp (disch := (first | assumption | omega | (unfold i32; omega) | (unfold i64; omega))) only [iZ_add, iZ_sub, iZ_mul, iZ_neg, lZ_add, lZ_sub, lZ_mul, lZ_neg, lZ_i, iZ_l, iZ_nat, Int.toNat_natCast, iZ_bit, iZ_shl, iZ_or, iZ_lt, iZ_le, iZ_eq, iZ_lt0, iZ_le0, iZ_gt0, iZ_ge0, iZ_eq0, cmp_eq0, cmp_lt0, cmp_le0, cmp_ge0, cmp_gt0, tf_0, tf_n0, Decidable.not_not, not_true_eq_false, not_false_eq_true, Int.toNat_natCast, onat] at q2
    subst q2
    rw [lZ_div hai hgi (by unfold bd at *; omega)]
    rw [if_pos (by omega)] at hq
    exact hq
  · rw [lZ_eq0 hgi]; omega
  · simp (disch := (first | assumption | omega | (unfold i32; omega) | (unfold i64; omega))) only [iZ_add, iZ_sub, iZ_mul, iZ_neg, lZ_add, lZ_sub, lZ_mul, lZ_neg, lZ_i, iZ_l, iZ_nat, Int.toNat_natCast, iZ_bit, iZ_shl, iZ_or, iZ_lt, iZ_le, iZ_eq, iZ_lt0, iZ_le0, iZ_gt0, iZ_ge0, iZ_eq0, cmp_eq0, cmp_lt0, cmp_le0, cmp_ge0, cmp_gt0, tf_0, tf_n0, Decidable.not_not, not_true_eq_false, not_false_eq_true, Int.toNat_natCast, onat] at q3
    subst q3
    rw [lZ_div hbi hgi (by unfold bd at *; omega)]
    rw [if_pos (by omega)] at hq
    exact hq
  · simp (disch := (first | assumption | omega | (unfold i32; omega) | (unfold i64; omega))) only [iZ_add, iZ_sub, iZ_mul, iZ_neg, lZ_add, lZ_sub, lZ_mul, lZ_neg, lZ_i, iZ_l, iZ_nat, Int.toNat_natCast, iZ_bit, iZ_shl, iZ_or, iZ_lt, iZ_le, iZ_eq, iZ_lt0, iZ_le0, iZ_gt0, iZ_ge0, iZ_eq0, cmp_eq0, cmp_lt0, cmp_le0, cmp_ge0, cmp_gt0, tf_0, tf_n0, Decidable.not_not, not_true_eq_false, not_false_eq_true, Int.toNat_natCast, onat] at q2
    simp (disch := (first | assumption | omega | (unfold i32; omega) | (unfold i64; omega))) only [iZ_add, iZ_sub, iZ_mul, iZ_neg, lZ_add, lZ_sub, lZ_mul, lZ_neg, lZ_i, iZ_l, iZ_nat, Int.toNat_natCast, iZ_bit, iZ_shl, iZ_or, iZ_lt, iZ_le, iZ_eq, iZ_lt0, iZ_le0, iZ_gt0, iZ_ge0, iZ_eq0, cmp_eq0, cmp_lt0, cmp_le0, cmp_ge0, cmp_gt0, tf_0, tf_n0, Decidable.not_not, not_true_eq_false, not_false_eq_true, Int.toNat_natCast, onat] at q3
    rw [if_neg (by omega)] at hq
    exact hq
end CL
