
section MM
variable {h h' : mH} {Q : Option Value → mH → Prop} {i n m c kn : Nat} {w f : Nat → Int} {kd sz : Nat → Nat} {W : Nat → Nat → Int} {a b p s y k : Int}
def okSet (c : Nat) (kd sz : Nat → Nat) (a s v : Int) : Bool := decide ((0 ≤ a ∧ a < c) ∧ (1 ≤ s ∧ s ≤ al (sz a.toNat)) ∧ (-100 ≤ v ∧ v ≤ 100) ∧ kd a.toNat = 0)
def sSet (c : Nat) (kd sz : Nat → Nat) (a s v : Int) : Int := if 0 ≤ a ∧ a < c then (if (1 ≤ s ∧ s ≤ al (sz a.toNat)) ∧ -100 ≤ v ∧ v ≤ 100 then (if kd a.toNat = 0 then 1 else -3) else -2) else -2
def sSetW (c : Nat) (kd sz : Nat → Nat) (W : Nat → Nat → Int) (a s v : Int) : Nat → Nat → Int := if okSet c kd sz a s v then set1 W a.toNat (set1 (W a.toNat) s.toNat v) else W
theorem c148 {v : Int} (hr : RV h c kd sz W) (ha : i32 a) (hs' : i32 s) (hv' : i32 v) (hq : ∀ h', Eqx [17] h h' → RV h' c kd sz (sSetW c kd sz W a s v) → Q (some (.int (iZ (sSet c kd sz a s v)))) h') : mCt mCd 148 [.ref 14, .int (iZ a), .int (iZ s), .int (iZ v)] h Q := by
  obtain ⟨hc, hb, cor, bA, bB, rw_, bo, fk, fs, g, e1, e2, e3, e4, hf⟩ := id hr
  have hs : True := trivial
  have hno : okSet c kd sz a s v = false → Q (some (.int (iZ (sSet c kd sz a s v)))) h := fun z => hq h (Eqx.rf _ _) (by rw [sSetW, z]; exact hr)
  by_cases hA : 0 ≤ a ∧ a < c
  · obtain ⟨i, rfl⟩ : ∃ m : Nat, a = m := ⟨a.toNat, by omega⟩
    have hi : i < c := by omega
    have hv := hr.mv hi
    obtain ⟨hi11, ⟨hn1, hn4⟩, hw, -⟩ := id hv
    have hs := (hf i hi).1
    have hk4 := (hb i hi).1
    have hal := al_lt hn4
    by_cases hB : (1 ≤ s ∧ s ≤ al (sz i)) ∧ -100 ≤ v ∧ v ≤ 100
    · obtain ⟨s, rfl⟩ : ∃ m : Nat, s = m := ⟨s.toNat, by omega⟩
      by_cases hC : kd i = 0
      · have hok : okSet c kd sz i s v = true := decide_eq_true (by simp only [Int.toNat_natCast]; omega)
        have e : sSet c kd sz i s v = 1 := by rw [sSet, if_pos hA]; simp only [Int.toNat_natCast]; rw [if_pos hB, if_pos hC]
        rw [e] at hq
        have hp := hr.rb.put (i := i) (s := s) (x := v) e4 (Or.inr ⟨by omega, by omega⟩) (by omega)
        have hp := hp.rv (Nat.le_refl c)
        rw [sSetW, hok] at hq
        simp only [Int.toNat_natCast, if_true] at hq
        have hq := hq _ ((Eqx.rf _ h).st _ (by decide)) hp
        repeat' (first
    | refine en148 ?_
    | refine r138 hr ha ?_
    | refine c139 hv ?_
    | refine c137 (by assumption) (by unfold i32; omega) (by unfold i32; omega) ?_
    | exact iZ_in (by omega) (by omega) (by decide)
    | simp (disch := (first | assumption | omega | (unfold i32; omega) | (unfold i64; omega))) only [iZ_add, iZ_sub, iZ_mul, iZ_neg, lZ_add, lZ_sub, lZ_mul, lZ_neg, lZ_i, iZ_l, iZ_nat, Int.toNat_natCast, iZ_bit, iZ_shl, iZ_or, iZ_lt, iZ_le, iZ_eq, iZ_lt0, iZ_le0, iZ_gt0, iZ_ge0, iZ_eq0, cmp_eq0, cmp_lt0, cmp_le0, cmp_ge0, cmp_gt0, tf_0, tf_n0, Decidable.not_not, not_true_eq_false, not_false_eq_true, hs, Int.toNat_natCast, tn16]
    | refine b148_0 (by first | assumption | (repeat' (first | assumption | refine mGs ?_ | refine mGn (by omega) ?_))) ?_
    | (refine b148_5 (fun q => ?_) (fun q => ?_) <;> (try simp (disch := (first | assumption | omega | (unfold i32; omega) | (unfold i64; omega))) only [iZ_add, iZ_sub, iZ_mul, iZ_neg, lZ_add, lZ_sub, lZ_mul, lZ_neg, lZ_i, iZ_l, iZ_nat, Int.toNat_natCast, iZ_bit, iZ_shl, iZ_or, iZ_lt, iZ_le, iZ_eq, iZ_lt0, iZ_le0, iZ_gt0, iZ_ge0, iZ_eq0, cmp_eq0, cmp_lt0, cmp_le0, cmp_ge0, cmp_gt0, tf_0, tf_n0, Decidable.not_not, not_true_eq_false, not_false_eq_true, hs, Int.toNat_natCast, tn16] at q) <;> (try (exfalso; omega)))
    | refine b148_34 ?_
    | refine b148_8 (by first | assumption | (repeat' (first | assumption | refine mGs ?_ | refine mGn (by omega) ?_))) ?_
    | refine b148_16 (by first | assumption | (repeat' (first | assumption | refine mGs ?_ | refine mGn (by omega) ?_))) ?_
    | (refine b148_19 (fun q => ?_) (fun q => ?_) <;> (try simp (disch := (first | assumption | omega | (unfold i32; omega) | (unfold i64; omega))) only [iZ_add, iZ_sub, iZ_mul, iZ_neg, lZ_add, lZ_sub, lZ_mul, lZ_neg, lZ_i, iZ_l, iZ_nat, Int.toNat_natCast, iZ_bit, iZ_shl, iZ_or, iZ_lt, iZ_le, iZ_eq, iZ_lt0, iZ_le0, iZ_gt0, iZ_ge0, iZ_eq0, cmp_eq0, cmp_lt0, cmp_le0, cmp_ge0, cmp_gt0, tf_0, tf_n0, Decidable.not_not, not_true_eq_false, not_false_eq_true, hs, Int.toNat_natCast, tn16] at q) <;> (try (exfalso; omega)))
    | refine b148_22 (by first | assumption | (repeat' (first | assumption | refine mGs ?_ | refine mGn (by omega) ?_))) ?_
    | (refine b148_31 (fun q => ?_) (fun q => ?_) <;> (try simp (disch := (first | assumption | omega | (unfold i32; omega) | (unfold i64; omega))) only [iZ_add, iZ_sub, iZ_mul, iZ_neg, lZ_add, lZ_sub, lZ_mul, lZ_neg, lZ_i, iZ_l, iZ_nat, Int.toNat_natCast, iZ_bit, iZ_shl, iZ_or, iZ_lt, iZ_le, iZ_eq, iZ_lt0, iZ_le0, iZ_gt0, iZ_ge0, iZ_eq0, cmp_eq0, cmp_lt0, cmp_le0, cmp_ge0, cmp_gt0, tf_0, tf_n0, Decidable.not_not, not_true_eq_false, not_false_eq_true, hs, Int.toNat_natCast, tn16] at q) <;> (try (exfalso; omega)))
    | (refine b148_37 (by first | assumption | (repeat' (first | assumption | refine mGs ?_ | refine mGn (by omega) ?_))) (by first | assumption | (repeat' (first | assumption | refine mGs ?_ | refine mGn (by omega) ?_))) ?_ (fun q => ?_) (fun q => ?_) <;> (try simp (disch := (first | assumption | omega | (unfold i32; omega) | (unfold i64; omega))) only [iZ_add, iZ_sub, iZ_mul, iZ_neg, lZ_add, lZ_sub, lZ_mul, lZ_neg, lZ_i, iZ_l, iZ_nat, Int.toNat_natCast, iZ_bit, iZ_shl, iZ_or, iZ_lt, iZ_le, iZ_eq, iZ_lt0, iZ_le0, iZ_gt0, iZ_ge0, iZ_eq0, cmp_eq0, cmp_lt0, cmp_le0, cmp_ge0, cmp_gt0, tf_0, tf_n0, Decidable.not_not, not_true_eq_false, not_false_eq_true, hs, Int.toNat_natCast, tn16] at q) <;> (try (exfalso; omega)))
    | refine b148_46 ?_)
        refine b148_49 e1 e4 ?_ ?_
        · rw [iZ_mul, iZ_add]
          exact iZ_in (by omega) (by omega) (by decide)
        · simp (disch := (first | assumption | omega | (unfold i32; omega) | (unfold i64; omega))) only [iZ_add, iZ_sub, iZ_mul, iZ_neg, lZ_add, lZ_sub, lZ_mul, lZ_neg, lZ_i, iZ_l, iZ_nat, Int.toNat_natCast, iZ_bit, iZ_shl, iZ_or, iZ_lt, iZ_le, iZ_eq, iZ_lt0, iZ_le0, iZ_gt0, iZ_ge0, iZ_eq0, cmp_eq0, cmp_lt0, cmp_le0, cmp_ge0, cmp_gt0, tf_0, tf_n0, Decidable.not_not, not_true_eq_false, not_false_eq_true, hs, Int.toNat_natCast, tn16]
          exact hq
      · have e : sSet c kd sz i s v = -3 := by rw [sSet, if_pos hA]; simp only [Int.toNat_natCast]; rw [if_pos hB, if_neg hC]
        rw [e] at hno
        have hno := hno (decide_eq_false (by simp only [Int.toNat_natCast]; omega))
        repeat' (first
    | refine en148 ?_
    | exact hno
    | refine r138 hr ha ?_
    | refine c139 hv ?_
    | refine c137 (by assumption) (by unfold i32; omega) (by unfold i32; omega) ?_
    | exact iZ_in (by omega) (by omega) (by decide)
    | simp (disch := (first | assumption | omega | (unfold i32; omega) | (unfold i64; omega))) only [iZ_add, iZ_sub, iZ_mul, iZ_neg, lZ_add, lZ_sub, lZ_mul, lZ_neg, lZ_i, iZ_l, iZ_nat, Int.toNat_natCast, iZ_bit, iZ_shl, iZ_or, iZ_lt, iZ_le, iZ_eq, iZ_lt0, iZ_le0, iZ_gt0, iZ_ge0, iZ_eq0, cmp_eq0, cmp_lt0, cmp_le0, cmp_ge0, cmp_gt0, tf_0, tf_n0, Decidable.not_not, not_true_eq_false, not_false_eq_true, hs, Int.toNat_natCast, tn16]
    | refine b148_0 (by first | assumption | (repeat' (first | assumption | refine mGs ?_ | refine mGn (by omega) ?_))) ?_
    | (refine b148_5 (fun q => ?_) (fun q => ?_) <;> (try simp (disch := (first | assumption | omega | (unfold i32; omega) | (unfold i64; omega))) only [iZ_add, iZ_sub, iZ_mul, iZ_neg, lZ_add, lZ_sub, lZ_mul, lZ_neg, lZ_i, iZ_l, iZ_nat, Int.toNat_natCast, iZ_bit, iZ_shl, iZ_or, iZ_lt, iZ_le, iZ_eq, iZ_lt0, iZ_le0, iZ_gt0, iZ_ge0, iZ_eq0, cmp_eq0, cmp_lt0, cmp_le0, cmp_ge0, cmp_gt0, tf_0, tf_n0, Decidable.not_not, not_true_eq_false, not_false_eq_true, hs, Int.toNat_natCast, tn16] at q) <;> (try (exfalso; omega)))
    | refine b148_34 ?_
    | refine b148_8 (by first | assumption | (repeat' (first | assumption | refine mGs ?_ | refine mGn (by omega) ?_))) ?_
    | refine b148_16 (by first | assumption | (repeat' (first | assumption | refine mGs ?_ | refine mGn (by omega) ?_))) ?_
    | (refine b148_19 (fun q => ?_) (fun q => ?_) <;> (try simp (disch := (first | assumption | omega | (unfold i32; omega) | (unfold i64; omega))) only [iZ_add, iZ_sub, iZ_mul, iZ_neg, lZ_add, lZ_sub, lZ_mul, lZ_neg, lZ_i, iZ_l, iZ_nat, Int.toNat_natCast, iZ_bit, iZ_shl, iZ_or, iZ_lt, iZ_le, iZ_eq, iZ_lt0, iZ_le0, iZ_gt0, iZ_ge0, iZ_eq0, cmp_eq0, cmp_lt0, cmp_le0, cmp_ge0, cmp_gt0, tf_0, tf_n0, Decidable.not_not, not_true_eq_false, not_false_eq_true, hs, Int.toNat_natCast, tn16] at q) <;> (try (exfalso; omega)))
    | refine b148_22 (by first | assumption | (repeat' (first | assumption | refine mGs ?_ | refine mGn (by omega) ?_))) ?_
    | (refine b148_31 (fun q => ?_) (fun q => ?_) <;> (try simp (disch := (first | assumption | omega | (unfold i32; omega) | (unfold i64; omega))) only [iZ_add, iZ_sub, iZ_mul, iZ_neg, lZ_add, lZ_sub, lZ_mul, lZ_neg, lZ_i, iZ_l, iZ_nat, Int.toNat_natCast, iZ_bit, iZ_shl, iZ_or, iZ_lt, iZ_le, iZ_eq, iZ_lt0, iZ_le0, iZ_gt0, iZ_ge0, iZ_eq0, cmp_eq0, cmp_lt0, cmp_le0, cmp_ge0, cmp_gt0, tf_0, tf_n0, Decidable.not_not, not_true_eq_false, not_false_eq_true, hs, Int.toNat_natCast, tn16] at q) <;> (try (exfalso; omega)))
    | (refine b148_37 (by first | assumption | (repeat' (first | assumption | refine mGs ?_ | refine mGn (by omega) ?_))) (by first | assumption | (repeat' (first | assumption | refine mGs ?_ | refine mGn (by omega) ?_))) ?_ (fun q => ?_) (fun q => ?_) <;> (try simp (disch := (first | assumption | omega | (unfold i32; omega) | (unfold i64; omega))) only [iZ_add, iZ_sub, iZ_mul, iZ_neg, lZ_add, lZ_sub, lZ_mul, lZ_neg, lZ_i, iZ_l, iZ_nat, Int.toNat_natCast, iZ_bit, iZ_shl, iZ_or, iZ_lt, iZ_le, iZ_eq, iZ_lt0, iZ_le0, iZ_gt0, iZ_ge0, iZ_eq0, cmp_eq0, cmp_lt0, cmp_le0, cmp_ge0, cmp_gt0, tf_0, tf_n0, Decidable.not_not, not_true_eq_false, not_false_eq_true, hs, Int.toNat_natCast, tn16] at q) <;> (try (exfalso; omega)))
    | refine b148_49 (by first | assumption | (repeat' (first | assumption | refine mGs ?_ | refine mGn (by omega) ?_))) (by first | assumption | (repeat' (first | assumption | refine mGs ?_ | refine mGn (by omega) ?_))) ?_ ?_
    | refine b148_46 ?_)
    · have e : sSet c kd sz i s v = -2 := by rw [sSet, if_pos hA]; simp only [Int.toNat_natCast]; rw [if_neg hB]
      rw [e] at hno
      have hno := hno (decide_eq_false (by simp only [Int.toNat_natCast]; omega))
      repeat' (first
    | refine en148 ?_
    | exact hno
    | refine r138 hr ha ?_
    | refine c139 hv ?_
    | refine c137 (by assumption) (by unfold i32; omega) (by unfold i32; omega) ?_
    | exact iZ_in (by omega) (by omega) (by decide)
    | simp (disch := (first | assumption | omega | (unfold i32; omega) | (unfold i64; omega))) only [iZ_add, iZ_sub, iZ_mul, iZ_neg, lZ_add, lZ_sub, lZ_mul, lZ_neg, lZ_i, iZ_l, iZ_nat, Int.toNat_natCast, iZ_bit, iZ_shl, iZ_or, iZ_lt, iZ_le, iZ_eq, iZ_lt0, iZ_le0, iZ_gt0, iZ_ge0, iZ_eq0, cmp_eq0, cmp_lt0, cmp_le0, cmp_ge0, cmp_gt0, tf_0, tf_n0, Decidable.not_not, not_true_eq_false, not_false_eq_true, hs, Int.toNat_natCast, tn16]
    | refine b148_0 (by first | assumption | (repeat' (first | assumption | refine mGs ?_ | refine mGn (by omega) ?_))) ?_
    | (refine b148_5 (fun q => ?_) (fun q => ?_) <;> (try simp (disch := (first | assumption | omega | (unfold i32; omega) | (unfold i64; omega))) only [iZ_add, iZ_sub, iZ_mul, iZ_neg, lZ_add, lZ_sub, lZ_mul, lZ_neg, lZ_i, iZ_l, iZ_nat, Int.toNat_natCast, iZ_bit, iZ_shl, iZ_or, iZ_lt, iZ_le, iZ_eq, iZ_lt0, iZ_le0, iZ_gt0, iZ_ge0, iZ_eq0, cmp_eq0, cmp_lt0, cmp_le0, cmp_ge0, cmp_gt0, tf_0, tf_n0, Decidable.not_not, not_true_eq_false, not_false_eq_true, hs, Int.toNat_natCast, tn16] at q) <;> (try (exfalso; omega)))
    | refine b148_34 ?_
    | refine b148_8 (by first | assumption | (repeat' (first | assumption | refine mGs ?_ | refine mGn (by omega) ?_))) ?_
    | refine b148_16 (by first | assumption | (repeat' (first | assumption | refine mGs ?_ | refine mGn (by omega) ?_))) ?_
    | (refine b148_19 (fun q => ?_) (fun q => ?_) <;> (try simp (disch := (first | assumption | omega | (unfold i32; omega) | (unfold i64; omega))) only [iZ_add, iZ_sub, iZ_mul, iZ_neg, lZ_add, lZ_sub, lZ_mul, lZ_neg, lZ_i, iZ_l, iZ_nat, Int.toNat_natCast, iZ_bit, iZ_shl, iZ_or, iZ_lt, iZ_le, iZ_eq, iZ_lt0, iZ_le0, iZ_gt0, iZ_ge0, iZ_eq0, cmp_eq0, cmp_lt0, cmp_le0, cmp_ge0, cmp_gt0, tf_0, tf_n0, Decidable.not_not, not_true_eq_false, not_false_eq_true, hs, Int.toNat_natCast, tn16] at q) <;> (try (exfalso; omega)))
    | refine b148_22 (by first | assumption | (repeat' (first | assumption | refine mGs ?_ | refine mGn (by omega) ?_))) ?_
    | (refine b148_31 (fun q => ?_) (fun q => ?_) <;> (try simp (disch := (first | assumption | omega | (unfold i32; omega) | (unfold i64; omega))) only [iZ_add, iZ_sub, iZ_mul, iZ_neg, lZ_add, lZ_sub, lZ_mul, lZ_neg, lZ_i, iZ_l, iZ_nat, Int.toNat_natCast, iZ_bit, iZ_shl, iZ_or, iZ_lt, iZ_le, iZ_eq, iZ_lt0, iZ_le0, iZ_gt0, iZ_ge0, iZ_eq0, cmp_eq0, cmp_lt0, cmp_le0, cmp_ge0, cmp_gt0, tf_0, tf_n0, Decidable.not_not, not_true_eq_false, not_false_eq_true, hs, Int.toNat_natCast, tn16] at q) <;> (try (exfalso; omega)))
    | (refine b148_37 (by first | assumption | (repeat' (first | assumption | refine mGs ?_ | refine mGn (by omega) ?_))) (by first | assumption | (repeat' (first | assumption | refine mGs ?_ | refine mGn (by omega) ?_))) ?_ (fun q => ?_) (fun q => ?_) <;> (try simp (disch := (first | assumption | omega | (unfold i32; omega) | (unfold i64; omega))) only [iZ_add, iZ_sub, iZ_mul, iZ_neg, lZ_add, lZ_sub, lZ_mul, lZ_neg, lZ_i, iZ_l, iZ_nat, Int.toNat_natCast, iZ_bit, iZ_shl, iZ_or, iZ_lt, iZ_le, iZ_eq, iZ_lt0, iZ_le0, iZ_gt0, iZ_ge0, iZ_eq0, cmp_eq0, cmp_lt0, cmp_le0, cmp_ge0, cmp_gt0, tf_0, tf_n0, Decidable.not_not, not_true_eq_false, not_false_eq_true, hs, Int.toNat_natCast, tn16] at q) <;> (try (exfalso; omega)))
    | refine b148_49 (by first | assumption | (repeat' (first | assumption | refine mGs ?_ | refine mGn (by omega) ?_))) (by first | assumption | (repeat' (first | assumption | refine mGs ?_ | refine mGn (by omega) ?_))) ?_ ?_
    | refine b148_46 ?_)
  · have e : sSet c kd sz a s v = -2 := by rw [sSet, if_neg hA]
    rw [e] at hno
    have hno := hno (decide_eq_false (by omega))
    repeat' (first
    | refine en148 ?_
    | exact hno
    | refine r138 hr ha ?_
    | exact iZ_in (by omega) (by omega) (by decide)
    | simp (disch := (first | assumption | omega | (unfold i32; omega) | (unfold i64; omega))) only [iZ_add, iZ_sub, iZ_mul, iZ_neg, lZ_add, lZ_sub, lZ_mul, lZ_neg, lZ_i, iZ_l, iZ_nat, Int.toNat_natCast, iZ_bit, iZ_shl, iZ_or, iZ_lt, iZ_le, iZ_eq, iZ_lt0, iZ_le0, iZ_gt0, iZ_ge0, iZ_eq0, cmp_eq0, cmp_lt0, cmp_le0, cmp_ge0, cmp_gt0, tf_0, tf_n0, Decidable.not_not, not_true_eq_false, not_false_eq_true, hs, Int.toNat_natCast, tn16]
    | refine b148_0 (by first | assumption | (repeat' (first | assumption | refine mGs ?_ | refine mGn (by omega) ?_))) ?_
    | (refine b148_5 (fun q => ?_) (fun q => ?_) <;> (try simp (disch := (first | assumption | omega | (unfold i32; omega) | (unfold i64; omega))) only [iZ_add, iZ_sub, iZ_mul, iZ_neg, lZ_add, lZ_sub, lZ_mul, lZ_neg, lZ_i, iZ_l, iZ_nat, Int.toNat_natCast, iZ_bit, iZ_shl, iZ_or, iZ_lt, iZ_le, iZ_eq, iZ_lt0, iZ_le0, iZ_gt0, iZ_ge0, iZ_eq0, cmp_eq0, cmp_lt0, cmp_le0, cmp_ge0, cmp_gt0, tf_0, tf_n0, Decidable.not_not, not_true_eq_false, not_false_eq_true, hs, Int.toNat_natCast, tn16] at q) <;> (try (exfalso; omega)))
    | refine b148_34 ?_
    | refine b148_8 (by first | assumption | (repeat' (first | assumption | refine mGs ?_ | refine mGn (by omega) ?_))) ?_
    | refine b148_16 (by first | assumption | (repeat' (first | assumption | refine mGs ?_ | refine mGn (by omega) ?_))) ?_
    | (refine b148_19 (fun q => ?_) (fun q => ?_) <;> (try simp (disch := (first | assumption | omega | (unfold i32; omega) | (unfold i64; omega))) only [iZ_add, iZ_sub, iZ_mul, iZ_neg, lZ_add, lZ_sub, lZ_mul, lZ_neg, lZ_i, iZ_l, iZ_nat, Int.toNat_natCast, iZ_bit, iZ_shl, iZ_or, iZ_lt, iZ_le, iZ_eq, iZ_lt0, iZ_le0, iZ_gt0, iZ_ge0, iZ_eq0, cmp_eq0, cmp_lt0, cmp_le0, cmp_ge0, cmp_gt0, tf_0, tf_n0, Decidable.not_not, not_true_eq_false, not_false_eq_true, hs, Int.toNat_natCast, tn16] at q) <;> (try (exfalso; omega)))
    | refine b148_22 (by first | assumption | (repeat' (first | assumption | refine mGs ?_ | refine mGn (by omega) ?_))) ?_
    | (refine b148_31 (fun q => ?_) (fun q => ?_) <;> (try simp (disch := (first | assumption | omega | (unfold i32; omega) | (unfold i64; omega))) only [iZ_add, iZ_sub, iZ_mul, iZ_neg, lZ_add, lZ_sub, lZ_mul, lZ_neg, lZ_i, iZ_l, iZ_nat, Int.toNat_natCast, iZ_bit, iZ_shl, iZ_or, iZ_lt, iZ_le, iZ_eq, iZ_lt0, iZ_le0, iZ_gt0, iZ_ge0, iZ_eq0, cmp_eq0, cmp_lt0, cmp_le0, cmp_ge0, cmp_gt0, tf_0, tf_n0, Decidable.not_not, not_true_eq_false, not_false_eq_true, hs, Int.toNat_natCast, tn16] at q) <;> (try (exfalso; omega)))
    | (refine b148_37 (by first | assumption | (repeat' (first | assumption | refine mGs ?_ | refine mGn (by omega) ?_))) (by first | assumption | (repeat' (first | assumption | refine mGs ?_ | refine mGn (by omega) ?_))) ?_ (fun q => ?_) (fun q => ?_) <;> (try simp (disch := (first | assumption | omega | (unfold i32; omega) | (unfold i64; omega))) only [iZ_add, iZ_sub, iZ_mul, iZ_neg, lZ_add, lZ_sub, lZ_mul, lZ_neg, lZ_i, iZ_l, iZ_nat, Int.toNat_natCast, iZ_bit, iZ_shl, iZ_or, iZ_lt, iZ_le, iZ_eq, iZ_lt0, iZ_le0, iZ_gt0, iZ_ge0, iZ_eq0, cmp_eq0, cmp_lt0, cmp_le0, cmp_ge0, cmp_gt0, tf_0, tf_n0, Decidable.not_not, not_true_eq_false, not_false_eq_true, hs, Int.toNat_natCast, tn16] at q) <;> (try (exfalso; omega)))
    | refine b148_49 (by first | assumption | (repeat' (first | assumption | refine mGs ?_ | refine mGn (by omega) ?_))) (by first | assumption | (repeat' (first | assumption | refine mGs ?_ | refine mGn (by omega) ?_))) ?_ ?_
    | refine b148_46 ?_)
end MM
