/-! ===== the reference: least, bar ===== -/

theorem lean_n {n : Nat} (h4 : n ≤ 4) (h2 : 2 ≤ n) : 0 < (leanC n).length := by have := lean_ne n h4 h2; omega
section MQ
variable {h h' : mH} {Q : Option Value → mH → Prop} {i n c : Nat} {w : Nat → Int} {kd sz : Nat → Nat} {W : Nat → Nat → Int} {a p s y k q : Int}
theorem r187 (hr : RV h c kd sz W) (hx : RX h) (ha : i32 a) (hk : i32 k) (hq : ∀ h', AskS h h' → Q (some (.long (lZ (sLeast c sz W a k)))) h') : mCt mCd 187 [.ref 14, .int (iZ a), .int (iZ k)] h Q := by
  obtain ⟨cor, bA, bB, rw_, bo, e1⟩ := hr.o
  have hs : True := trivial
  have hq0 := hq h (AskS.rf hx)
  unfold sLeast at hq hq0
  by_cases hA : 0 ≤ a ∧ a < c
  · rw [if_pos hA] at hq hq0
    obtain ⟨i, rfl⟩ : ∃ m : Nat, a = m := ⟨a.toNat, by omega⟩
    have hi : i < c := by omega
    have hv := hr.mv hi
    obtain ⟨hi11, ⟨hn1, hn4⟩, hwb, -⟩ := id hv
    obtain ⟨_, _, _, _, _, _, _, fk, fs, gg, _, e15, e16, _, hff⟩ := id hr
    have hff := (hff i hi).2.1
    simp only [Int.toNat_natCast] at hq hq0
    have hin : ¬ (iZ i < 0 ∨ 11 ≤ (iZ i).toNatClampNeg) := iZ_in (by omega) (by omega) (by decide)
    have tn : (iZ i).toNatClampNeg = i := by rw [iZ_nat (by omega) (by omega)]; omega
    refine en187 (b187_0 e1 (r138 hr ha (b187_5 (fun q => ?_) (fun _ => b187_8 e1 e16 hin (fun q => b187_28 ?_) (fun q => b187_18 e1 (c137 hk (by unfold i32; omega) (by unfold i32; omega) (b187_25 (fun q2 => b187_32 e1 ?_) (fun q2 => b187_28 ?_))))))))
    · simp (disch := (first | assumption | omega | (unfold i32; omega) | (unfold i64; omega))) only [iZ_add, iZ_sub, iZ_mul, iZ_neg, lZ_add, lZ_sub, lZ_mul, lZ_neg, lZ_i, iZ_l, iZ_nat, Int.toNat_natCast, iZ_bit, iZ_shl, iZ_or, iZ_lt, iZ_le, iZ_eq, iZ_lt0, iZ_le0, iZ_gt0, iZ_ge0, iZ_eq0, cmp_eq0, cmp_lt0, cmp_le0, cmp_ge0, cmp_gt0, tf_0, tf_n0, Decidable.not_not, not_true_eq_false, not_false_eq_true, hs, Int.toNat_natCast] at q
      omega
    · rw [tn, hff, iZ_eq (by unfold i32; omega) (by unfold i32; omega)] at q
      rw [if_neg (by omega)] at hq0
      exact hq0
    · rw [tn, hff, iZ_eq (by unfold i32; omega) (by unfold i32; omega)] at q
      simp (disch := (first | assumption | omega | (unfold i32; omega) | (unfold i64; omega))) only [iZ_add, iZ_sub, iZ_mul, iZ_neg, lZ_add, lZ_sub, lZ_mul, lZ_neg, lZ_i, iZ_l, iZ_nat, Int.toNat_natCast, iZ_bit, iZ_shl, iZ_or, iZ_lt, iZ_le, iZ_eq, iZ_lt0, iZ_le0, iZ_gt0, iZ_ge0, iZ_eq0, cmp_eq0, cmp_lt0, cmp_le0, cmp_ge0, cmp_gt0, tf_0, tf_n0, Decidable.not_not, not_true_eq_false, not_false_eq_true, hs, Int.toNat_natCast] at q2
      refine c186 (by omega) hv e1 hx (fun h2 ask _ hb => ?_)
      have hq2 := hq h2 ask
      rw [if_pos (by omega)] at hq2
      obtain ⟨x, y, fa, fb, d1, d2, d3, _, d5⟩ := hb
      obtain ⟨p1, p2, _⟩ := d5 (lean_n hn4 (by omega))
      unfold barC at hq2
      refine b187_37 (fun q3 => b187_48 d1 ?_) (fun q3 => b187_41 d1 ?_)
      · simp (disch := (first | assumption | omega | (unfold i32; omega) | (unfold i64; omega))) only [iZ_add, iZ_sub, iZ_mul, iZ_neg, lZ_add, lZ_sub, lZ_mul, lZ_neg, lZ_i, iZ_l, iZ_nat, Int.toNat_natCast, iZ_bit, iZ_shl, iZ_or, iZ_lt, iZ_le, iZ_eq, iZ_lt0, iZ_le0, iZ_gt0, iZ_ge0, iZ_eq0, cmp_eq0, cmp_lt0, cmp_le0, cmp_ge0, cmp_gt0, tf_0, tf_n0, Decidable.not_not, not_true_eq_false, not_false_eq_true, hs, Int.toNat_natCast] at q3
        have : k = 1 := by omega
        subst this
        rw [p2]
        exact hq2
      · simp (disch := (first | assumption | omega | (unfold i32; omega) | (unfold i64; omega))) only [iZ_add, iZ_sub, iZ_mul, iZ_neg, lZ_add, lZ_sub, lZ_mul, lZ_neg, lZ_i, iZ_l, iZ_nat, Int.toNat_natCast, iZ_bit, iZ_shl, iZ_or, iZ_lt, iZ_le, iZ_eq, iZ_lt0, iZ_le0, iZ_gt0, iZ_ge0, iZ_eq0, cmp_eq0, cmp_lt0, cmp_le0, cmp_ge0, cmp_gt0, tf_0, tf_n0, Decidable.not_not, not_true_eq_false, not_false_eq_true, hs, Int.toNat_natCast] at q3
        subst q3
        rw [p1]
        exact hq2
    · simp (disch := (first | assumption | omega | (unfold i32; omega) | (unfold i64; omega))) only [iZ_add, iZ_sub, iZ_mul, iZ_neg, lZ_add, lZ_sub, lZ_mul, lZ_neg, lZ_i, iZ_l, iZ_nat, Int.toNat_natCast, iZ_bit, iZ_shl, iZ_or, iZ_lt, iZ_le, iZ_eq, iZ_lt0, iZ_le0, iZ_gt0, iZ_ge0, iZ_eq0, cmp_eq0, cmp_lt0, cmp_le0, cmp_ge0, cmp_gt0, tf_0, tf_n0, Decidable.not_not, not_true_eq_false, not_false_eq_true, hs, Int.toNat_natCast] at q2
      rw [if_neg (by omega)] at hq0
      exact hq0
  · rw [if_neg hA] at hq0
    repeat' (first
    | refine en187 ?_
    | exact hq0
    | refine r138 hr ha ?_
    | exact iZ_in (by omega) (by omega) (by decide)
    | simp (disch := (first | assumption | omega | (unfold i32; omega) | (unfold i64; omega))) only [iZ_add, iZ_sub, iZ_mul, iZ_neg, lZ_add, lZ_sub, lZ_mul, lZ_neg, lZ_i, iZ_l, iZ_nat, Int.toNat_natCast, iZ_bit, iZ_shl, iZ_or, iZ_lt, iZ_le, iZ_eq, iZ_lt0, iZ_le0, iZ_gt0, iZ_ge0, iZ_eq0, cmp_eq0, cmp_lt0, cmp_le0, cmp_ge0, cmp_gt0, tf_0, tf_n0, Decidable.not_not, not_true_eq_false, not_false_eq_true, hs, Int.toNat_natCast]
    | refine b187_0 (by first | assumption | (repeat' (first | assumption | refine mGs ?_ | refine mGn (by omega) ?_))) ?_
    | (refine b187_5 (fun q => ?_) (fun q => ?_) <;> (try simp (disch := (first | assumption | omega | (unfold i32; omega) | (unfold i64; omega))) only [iZ_add, iZ_sub, iZ_mul, iZ_neg, lZ_add, lZ_sub, lZ_mul, lZ_neg, lZ_i, iZ_l, iZ_nat, Int.toNat_natCast, iZ_bit, iZ_shl, iZ_or, iZ_lt, iZ_le, iZ_eq, iZ_lt0, iZ_le0, iZ_gt0, iZ_ge0, iZ_eq0, cmp_eq0, cmp_lt0, cmp_le0, cmp_ge0, cmp_gt0, tf_0, tf_n0, Decidable.not_not, not_true_eq_false, not_false_eq_true, hs, Int.toNat_natCast] at q) <;> (try (exfalso; omega)))
    | refine b187_28 ?_)
theorem r188 (hr : RV h c kd sz W) (hx : RX h) (ha : i32 a) (hs' : i32 s) (hk : i32 k) (hq : ∀ h', AskS h h' → Q (some (.long (lZ (sBar c sz W a s k)))) h') : mCt mCd 188 [.ref 14, .int (iZ a), .int (iZ s), .int (iZ k)] h Q := by
  obtain ⟨cor, bA, bB, rw_, bo, e1⟩ := hr.o
  have hs : True := trivial
  have hq0 := hq h (AskS.rf hx)
  unfold sBar at hq hq0
  by_cases hA : 0 ≤ a ∧ a < c
  · rw [if_pos hA] at hq hq0
    obtain ⟨i, rfl⟩ : ∃ m : Nat, a = m := ⟨a.toNat, by omega⟩
    have hi : i < c := by omega
    have hv := hr.mv hi
    obtain ⟨hi11, ⟨hn1, hn4⟩, hwb, -⟩ := id hv
    simp only [Int.toNat_natCast] at hq hq0
    have hal := al_lt hn4
    refine en188 (b188_0 e1 (r138 hr ha (b188_5 (fun q => ?_) (fun _ => b188_8 e1 (c142 hv hs' (b188_14 (fun q => b188_27 ?_) (fun q => b188_17 e1 (c137 hk (by unfold i32; omega) (by unfold i32; omega) (b188_24 (fun q2 => b188_31 e1 ?_) (fun q2 => b188_27 ?_))))))))))
    · simp (disch := (first | assumption | omega | (unfold i32; omega) | (unfold i64; omega))) only [iZ_add, iZ_sub, iZ_mul, iZ_neg, lZ_add, lZ_sub, lZ_mul, lZ_neg, lZ_i, iZ_l, iZ_nat, Int.toNat_natCast, iZ_bit, iZ_shl, iZ_or, iZ_lt, iZ_le, iZ_eq, iZ_lt0, iZ_le0, iZ_gt0, iZ_ge0, iZ_eq0, cmp_eq0, cmp_lt0, cmp_le0, cmp_ge0, cmp_gt0, tf_0, tf_n0, Decidable.not_not, not_true_eq_false, not_false_eq_true, hs, Int.toNat_natCast] at q
      omega
    · simp (disch := (first | assumption | omega | (unfold i32; omega) | (unfold i64; omega))) only [iZ_add, iZ_sub, iZ_mul, iZ_neg, lZ_add, lZ_sub, lZ_mul, lZ_neg, lZ_i, iZ_l, iZ_nat, Int.toNat_natCast, iZ_bit, iZ_shl, iZ_or, iZ_lt, iZ_le, iZ_eq, iZ_lt0, iZ_le0, iZ_gt0, iZ_ge0, iZ_eq0, cmp_eq0, cmp_lt0, cmp_le0, cmp_ge0, cmp_gt0, tf_0, tf_n0, Decidable.not_not, not_true_eq_false, not_false_eq_true, hs, Int.toNat_natCast] at q
      rw [if_neg (by omega)] at hq0
      exact hq0
    · simp (disch := (first | assumption | omega | (unfold i32; omega) | (unfold i64; omega))) only [iZ_add, iZ_sub, iZ_mul, iZ_neg, lZ_add, lZ_sub, lZ_mul, lZ_neg, lZ_i, iZ_l, iZ_nat, Int.toNat_natCast, iZ_bit, iZ_shl, iZ_or, iZ_lt, iZ_le, iZ_eq, iZ_lt0, iZ_le0, iZ_gt0, iZ_ge0, iZ_eq0, cmp_eq0, cmp_lt0, cmp_le0, cmp_ge0, cmp_gt0, tf_0, tf_n0, Decidable.not_not, not_true_eq_false, not_false_eq_true, hs, Int.toNat_natCast] at q
      simp (disch := (first | assumption | omega | (unfold i32; omega) | (unfold i64; omega))) only [iZ_add, iZ_sub, iZ_mul, iZ_neg, lZ_add, lZ_sub, lZ_mul, lZ_neg, lZ_i, iZ_l, iZ_nat, Int.toNat_natCast, iZ_bit, iZ_shl, iZ_or, iZ_lt, iZ_le, iZ_eq, iZ_lt0, iZ_le0, iZ_gt0, iZ_ge0, iZ_eq0, cmp_eq0, cmp_lt0, cmp_le0, cmp_ge0, cmp_gt0, tf_0, tf_n0, Decidable.not_not, not_true_eq_false, not_false_eq_true, hs, Int.toNat_natCast] at q2
      have hn2 : 2 ≤ sz i := by
        by_cases z : sz i = 1
        · rw [z] at q
          have : al 1 = 1 := rfl
          omega
        · omega
      refine c186 hn2 hv e1 hx (fun h2 ask _ hb => ?_)
      have hq2 := hq h2 ask
      rw [if_pos (by omega)] at hq2
      obtain ⟨s, rfl⟩ : ∃ m : Nat, s = ((m + 1 : Nat) : Int) := ⟨s.toNat - 1, by omega⟩
      simp only [Int.toNat_natCast] at hq2
      obtain ⟨x, y, fa, fb, d1, d2, d3, _, d5⟩ := hb
      obtain ⟨_, _, p3⟩ := d5 (lean_n hn4 (by omega))
      obtain ⟨p4, p5⟩ := p3 s (by omega)
      unfold barC at hq2
      have hin : ¬ (iZ ((s + 1 : Nat) : Int) < 0 ∨ 16 ≤ (iZ ((s + 1 : Nat) : Int)).toNatClampNeg) := iZ_in (by omega) (by omega) (by decide)
      have tn : (iZ ((s + 1 : Nat) : Int)).toNatClampNeg = s + 1 := by rw [iZ_nat (by omega) (by omega)]; omega
      refine b188_36 (fun q3 => b188_49 d1 d3 hin ?_) (fun q3 => b188_40 d1 d2 hin ?_)
      · simp (disch := (first | assumption | omega | (unfold i32; omega) | (unfold i64; omega))) only [iZ_add, iZ_sub, iZ_mul, iZ_neg, lZ_add, lZ_sub, lZ_mul, lZ_neg, lZ_i, iZ_l, iZ_nat, Int.toNat_natCast, iZ_bit, iZ_shl, iZ_or, iZ_lt, iZ_le, iZ_eq, iZ_lt0, iZ_le0, iZ_gt0, iZ_ge0, iZ_eq0, cmp_eq0, cmp_lt0, cmp_le0, cmp_ge0, cmp_gt0, tf_0, tf_n0, Decidable.not_not, not_true_eq_false, not_false_eq_true, hs, Int.toNat_natCast] at q3
        have : k = 1 := by omega
        subst this
        rw [tn, p5]
        exact hq2
      · simp (disch := (first | assumption | omega | (unfold i32; omega) | (unfold i64; omega))) only [iZ_add, iZ_sub, iZ_mul, iZ_neg, lZ_add, lZ_sub, lZ_mul, lZ_neg, lZ_i, iZ_l, iZ_nat, Int.toNat_natCast, iZ_bit, iZ_shl, iZ_or, iZ_lt, iZ_le, iZ_eq, iZ_lt0, iZ_le0, iZ_gt0, iZ_ge0, iZ_eq0, cmp_eq0, cmp_lt0, cmp_le0, cmp_ge0, cmp_gt0, tf_0, tf_n0, Decidable.not_not, not_true_eq_false, not_false_eq_true, hs, Int.toNat_natCast] at q3
        subst q3
        rw [tn, p4]
        exact hq2
    · simp (disch := (first | assumption | omega | (unfold i32; omega) | (unfold i64; omega))) only [iZ_add, iZ_sub, iZ_mul, iZ_neg, lZ_add, lZ_sub, lZ_mul, lZ_neg, lZ_i, iZ_l, iZ_nat, Int.toNat_natCast, iZ_bit, iZ_shl, iZ_or, iZ_lt, iZ_le, iZ_eq, iZ_lt0, iZ_le0, iZ_gt0, iZ_ge0, iZ_eq0, cmp_eq0, cmp_lt0, cmp_le0, cmp_ge0, cmp_gt0, tf_0, tf_n0, Decidable.not_not, not_true_eq_false, not_false_eq_true, hs, Int.toNat_natCast] at q2
      rw [if_neg (by omega)] at hq0
      exact hq0
  · rw [if_neg hA] at hq0
    repeat' (first
    | refine en188 ?_
    | exact hq0
    | refine r138 hr ha ?_
    | exact iZ_in (by omega) (by omega) (by decide)
    | simp (disch := (first | assumption | omega | (unfold i32; omega) | (unfold i64; omega))) only [iZ_add, iZ_sub, iZ_mul, iZ_neg, lZ_add, lZ_sub, lZ_mul, lZ_neg, lZ_i, iZ_l, iZ_nat, Int.toNat_natCast, iZ_bit, iZ_shl, iZ_or, iZ_lt, iZ_le, iZ_eq, iZ_lt0, iZ_le0, iZ_gt0, iZ_ge0, iZ_eq0, cmp_eq0, cmp_lt0, cmp_le0, cmp_ge0, cmp_gt0, tf_0, tf_n0, Decidable.not_not, not_true_eq_false, not_false_eq_true, hs, Int.toNat_natCast]
    | refine b188_0 (by first | assumption | (repeat' (first | assumption | refine mGs ?_ | refine mGn (by omega) ?_))) ?_
    | (refine b188_5 (fun q => ?_) (fun q => ?_) <;> (try simp (disch := (first | assumption | omega | (unfold i32; omega) | (unfold i64; omega))) only [iZ_add, iZ_sub, iZ_mul, iZ_neg, lZ_add, lZ_sub, lZ_mul, lZ_neg, lZ_i, iZ_l, iZ_nat, Int.toNat_natCast, iZ_bit, iZ_shl, iZ_or, iZ_lt, iZ_le, iZ_eq, iZ_lt0, iZ_le0, iZ_gt0, iZ_ge0, iZ_eq0, cmp_eq0, cmp_lt0, cmp_le0, cmp_ge0, cmp_gt0, tf_0, tf_n0, Decidable.not_not, not_true_eq_false, not_false_eq_true, hs, Int.toNat_natCast] at q) <;> (try (exfalso; omega)))
    | refine b188_27 ?_)
end MQ
