/-! ===== the reference: acts ===== -/

def tG (wN : Int) (x : Int32) : Int32 := x + iZ wN
def aG (kd n : Nat) (wN : Int) (x : Int32) : Int32 := if kd = 1 then tG wN x * iZ 2 else if kd = 4 then tG wN (x - iZ n) else tG wN x
def rG (kd : Nat) : List Int := if kd = 1 then [20, 10] else if kd = 4 then [50, 10] else [10]
def tL (kd n : Nat) (wN : Int) (x : Int32) : Int32 := aG kd n wN x * iZ n
def aLk (kd n v : Nat) (wN : Int) (x : Int32) : Int32 := if kd = 2 then tL kd n wN x + iZ v else if kd = 4 then tL kd n wN x ^^^ tG wN x else tL kd n wN x
def rL (kd : Nat) : List Int := if kd = 2 then 30 :: 11 :: rG kd else if kd = 4 then 51 :: 11 :: (rG kd ++ [10]) else 11 :: rG kd
def tS (kd n v : Nat) (wN : Int) (x : Int32) : Int32 := aLk kd n v wN x ^^^ aG kd n wN (x + iZ v)
def rS (kd : Nat) : List Int := 12 :: (rL kd ++ rG kd)
def aSh (kd n v : Nat) (wN : Int) (x : Int32) : Int32 := if kd = 1 then tS kd n v wN x - iZ 1 else if kd = 3 then aG kd n wN x - tS kd n v wN (x + iZ 1) else tS kd n v wN x
def rSh (kd : Nat) : List Int := if kd = 1 then 21 :: rS kd else if kd = 3 then 40 :: (rG kd ++ rS kd) else rS kd
/-- the bodies that ran -/
def RT (h : mH) (T : List Int) : Prop := T.length ≤ 40 ∧ ∃ (v cor : Int32) (bA bB : Int64) (rw_ : Int32) (f : Nat → Int32), h[14]? = some (oM v cor bA bB rw_ (iZ T.length)) ∧ h[25]? = some (aI 40 f) ∧ ∀ k, k < T.length → f k = iZ (T.getD k 0)
def ActS (h h' : mH) : Prop := Eqx [14, 25] h h' ∧ ∀ v cor bA bB rw_ bo, h[14]? = some (oM v cor bA bB rw_ bo) → ∃ bo', h'[14]? = some (oM v cor bA bB rw_ bo')
theorem ActS.rf (h : mH) : ActS h h := ⟨Eqx.rf _ _, fun v cor bA bB rw_ bo e => ⟨bo, e⟩⟩
theorem ActS.tr {h h1 h2 : mH} (a : ActS h h1) (b : ActS h1 h2) : ActS h h2 := ⟨a.1.tr b.1, fun v cor bA bB rw_ bo e => by
  obtain ⟨bo', e'⟩ := a.2 v cor bA bB rw_ bo e
  exact b.2 v cor bA bB rw_ bo' e'⟩
section MA
variable {h h' : mH} {Q : Option Value → mH → Prop} {i n c : Nat} {w : Nat → Int} {kd sz : Nat → Nat} {W : Nat → Nat → Int} {T : List Int} {x : Int32}
theorem RV.act (hr : RV h c kd sz W) (a : ActS h h') : RV h' c kd sz W := by
  obtain ⟨hc, hb, cor, bA, bB, rw_, bo, fk, fs, g, e1, e2, e3, e4, hf⟩ := hr
  obtain ⟨bo', e1'⟩ := a.2 _ _ _ _ _ _ e1
  exact ⟨hc, hb, cor, bA, bB, rw_, bo', fk, fs, g, e1', by rw [a.1.2 15 (by decide)]; exact e2, by rw [a.1.2 16 (by decide)]; exact e3, by rw [a.1.2 17 (by decide)]; exact e4, hf⟩
theorem getD_app (T : List Int) (b : Int) {k : Nat} (hk : k < T.length + 1) : (T ++ [b]).getD k 0 = if k = T.length then b else T.getD k 0 := by
  simp only [List.getD_eq_getElem?_getD, List.getElem?_append]
  split
  · next z => rw [if_neg (by omega)]
  · next z =>
    have : k = T.length := by omega
    subst this
    simp
theorem c200 (ht : RT h T) (hT : T.length < 40) {b : Int} (hq : ∀ h', ActS h h' → RT h' (T ++ [b]) → Q none h') : mCt mCd 200 [.ref 14, .int (iZ b)] h Q := by
  obtain ⟨hl, v, cor, bA, bB, rw_, f, e1, e2, hf⟩ := ht
  refine en200 (b200_0 e1 (fun q => ?_) (fun _ => b200_9 e1 e2 (iZ_in (by omega) (by omega) (by decide)) (b200_19 (mGn (by omega) e1) ?_)))
  · rw [iZ_le (by unfold i32; omega) (by unfold i32; omega)] at q
    omega
  · rw [iZ_nat (by omega) (by omega), Int.toNat_natCast, iZ_add]
    refine hq _ ⟨((Eqx.rf _ h).st _ (by decide)).st _ (by decide), ?_⟩ ⟨by simp; omega, v, cor, bA, bB, rw_, _, ?_, mGn (by omega) (mGs e2), fun k hk => ?_⟩
    · intro v' cor' bA' bB' rw' bo' e
      rw [e1] at e
      have e := Option.some.inj e
      simp only [oM, Sum.inr.injEq, Prod.mk.injEq, List.cons.injEq, Value.int.injEq, Value.long.injEq, true_and, and_true] at e
      obtain ⟨k0, k1, k2, k3, k4, k5⟩ := e
      subst k0 k1 k2 k3 k4
      exact ⟨_, mGs (mGn (by omega) e1)⟩
    · rw [mGs (mGn (by omega) e1)]
      simp
    · rw [List.length_append] at hk
      rw [getD_app T b hk]
      show upd f T.length (iZ b) k = _
      unfold upd
      split
      · rfl
      · exact hf k (by simp at hk; omega)
theorem c201 (hr : RV h c kd sz W) (hi : i < c) (ht : RT h T) (hT : T.length < 40) (hq : ∀ h', ActS h h' → RT h' (T ++ [10]) → Q (some (.int (tG (W i (al (sz i))) x))) h') : mCt mCd 201 [.ref 14, .int (iZ i), .int x] h Q := by
  obtain ⟨cor, bA, bB, rw_, bo, e1⟩ := hr.o
  refine en201 (b201_0 e1 (c200 ht hT (fun h1 a1 t1 => ?_)))
  have hr1 := hr.act a1
  obtain ⟨cor, bA, bB, rw_, bo, e1'⟩ := hr1.o
  have hv := hr1.mv hi
  refine b201_6 e1' (c139 hv (b201_14 e1' (c144 hv (al_lt hv.2.1.2) (b201_17 ?_))))
  rw [lZ_i]
  exact hq h1 a1 t1
theorem c202 (hr : RV h c kd sz W) (hi : i < c) (ht : RT h T) (hT : T.length < 38) (hq : ∀ h', ActS h h' → RT h' (T ++ rG (kd i)) → Q (some (.int (aG (kd i) (sz i) (W i (al (sz i))) x))) h') : mCt mCd 202 [.ref 14, .int (iZ i), .int x] h Q := by
  obtain ⟨hc, hb, cor, bA, bB, rw_, bo, fk, fs, g, e1, e2, e3, e4, hf⟩ := id hr
  have hs := (hf i hi).1
  have hs2 := (hf i hi).2.1
  have hk4 := (hb i hi).1
  unfold aG rG at hq
  by_cases h1 : kd i = 1
  · simp only [if_pos h1] at hq
    refine en202 (b202_0 e1 e2 (iZ_in (by omega) (by omega) (by decide)) (fun q => ?_) (fun _ => b202_10 e1 (c200 ht (by omega) (fun h1 a1 t1 => ?_))))
    · simp (disch := (first | assumption | omega | (unfold i32; omega) | (unfold i64; omega))) only [iZ_add, iZ_sub, iZ_mul, iZ_neg, lZ_add, lZ_sub, lZ_mul, lZ_neg, lZ_i, iZ_l, iZ_nat, Int.toNat_natCast, iZ_bit, iZ_shl, iZ_or, iZ_lt, iZ_le, iZ_eq, iZ_lt0, iZ_le0, iZ_gt0, iZ_ge0, iZ_eq0, cmp_eq0, cmp_lt0, cmp_le0, cmp_ge0, cmp_gt0, tf_0, tf_n0, Decidable.not_not, not_true_eq_false, not_false_eq_true, hs, Int.toNat_natCast] at q
      omega
    · have hr1 := hr.act a1
      obtain ⟨cor, bA, bB, rw_, bo, e1'⟩ := hr1.o
      refine b202_16 e1' (c201 hr1 hi t1 (by simp; omega) (fun h2 a2 t2 => b202_22 ?_))
      rw [List.append_assoc] at t2
      exact hq h2 (a1.tr a2) t2
  · simp only [if_neg h1] at hq
    refine en202 (b202_0 e1 e2 (iZ_in (by omega) (by omega) (by decide)) (fun _ => ?_) (fun q => ?_))
    · by_cases h4 : kd i = 4
      · simp only [if_pos h4] at hq
        refine b202_25 e1 e2 (iZ_in (by omega) (by omega) (by decide)) (fun q => ?_) (fun _ => b202_35 e1 (c200 ht (by omega) (fun h1 a1 t1 => ?_)))
        · simp (disch := (first | assumption | omega | (unfold i32; omega) | (unfold i64; omega))) only [iZ_add, iZ_sub, iZ_mul, iZ_neg, lZ_add, lZ_sub, lZ_mul, lZ_neg, lZ_i, iZ_l, iZ_nat, Int.toNat_natCast, iZ_bit, iZ_shl, iZ_or, iZ_lt, iZ_le, iZ_eq, iZ_lt0, iZ_le0, iZ_gt0, iZ_ge0, iZ_eq0, cmp_eq0, cmp_lt0, cmp_le0, cmp_ge0, cmp_gt0, tf_0, tf_n0, Decidable.not_not, not_true_eq_false, not_false_eq_true, hs, Int.toNat_natCast] at q
          omega
        · have hr1 := hr.act a1
          obtain ⟨hc, hb, cor, bA, bB, rw_, bo, fk, fs, g, e1', e2', e3', e4', hf'⟩ := id hr1
          refine b202_41 e1' e3' (iZ_in (by omega) (by omega) (by decide)) ?_
          rw [iZ_nat (by omega) (by omega), Int.toNat_natCast, (hf' i hi).2.1]
          refine c201 hr1 hi t1 (by simp; omega) (fun h2 a2 t2 => b202_54 ?_)
          rw [List.append_assoc] at t2
          exact hq h2 (a1.tr a2) t2
      · simp only [if_neg h4] at hq
        refine b202_25 e1 e2 (iZ_in (by omega) (by omega) (by decide)) (fun _ => b202_55 e1 (c201 hr hi ht (by omega) (fun h2 a2 t2 => b202_61 (hq h2 a2 t2)))) (fun q => ?_)
        simp (disch := (first | assumption | omega | (unfold i32; omega) | (unfold i64; omega))) only [iZ_add, iZ_sub, iZ_mul, iZ_neg, lZ_add, lZ_sub, lZ_mul, lZ_neg, lZ_i, iZ_l, iZ_nat, Int.toNat_natCast, iZ_bit, iZ_shl, iZ_or, iZ_lt, iZ_le, iZ_eq, iZ_lt0, iZ_le0, iZ_gt0, iZ_ge0, iZ_eq0, cmp_eq0, cmp_lt0, cmp_le0, cmp_ge0, cmp_gt0, tf_0, tf_n0, Decidable.not_not, not_true_eq_false, not_false_eq_true, hs, Int.toNat_natCast] at q
        omega
    · simp (disch := (first | assumption | omega | (unfold i32; omega) | (unfold i64; omega))) only [iZ_add, iZ_sub, iZ_mul, iZ_neg, lZ_add, lZ_sub, lZ_mul, lZ_neg, lZ_i, iZ_l, iZ_nat, Int.toNat_natCast, iZ_bit, iZ_shl, iZ_or, iZ_lt, iZ_le, iZ_eq, iZ_lt0, iZ_le0, iZ_gt0, iZ_ge0, iZ_eq0, cmp_eq0, cmp_lt0, cmp_le0, cmp_ge0, cmp_gt0, tf_0, tf_n0, Decidable.not_not, not_true_eq_false, not_false_eq_true, hs, Int.toNat_natCast] at q
      omega
theorem rG_l (kd : Nat) : (rG kd).length ≤ 2 := by unfold rG; split <;> (try split) <;> simp
theorem c203 (hr : RV h c kd sz W) (hi : i < c) (ht : RT h T) (hT : T.length < 37) (hq : ∀ h', ActS h h' → RT h' (T ++ 11 :: rG (kd i)) → Q (some (.int (tL (kd i) (sz i) (W i (al (sz i))) x))) h') : mCt mCd 203 [.ref 14, .int (iZ i), .int x] h Q := by
  obtain ⟨cor, bA, bB, rw_, bo, e1⟩ := hr.o
  refine en203 (b203_0 e1 (c200 ht (by omega) (fun h1 a1 t1 => ?_)))
  have hr1 := hr.act a1
  obtain ⟨cor, bA, bB, rw_, bo, e1'⟩ := hr1.o
  refine b203_6 e1' (c202 hr1 hi t1 (by simp; omega) (fun h2 a2 t2 => ?_))
  have hr2 := hr1.act a2
  obtain ⟨hc, hb, cor, bA, bB, rw_, bo, fk, fs, g, e1', e2', e3', e4', hf'⟩ := id hr2
  refine b203_12 e1' e3' (iZ_in (by omega) (by omega) (by decide)) ?_
  rw [iZ_nat (by omega) (by omega), Int.toNat_natCast, (hf' i hi).2.1]
  rw [List.append_assoc] at t2
  exact hq h2 (a1.tr a2) t2
theorem c204 (hr : RV h c kd sz W) (hi : i < c) (ht : RT h T) (hT : T.length < 34) (hq : ∀ h', ActS h h' → RT h' (T ++ rL (kd i)) → Q (some (.int (aLk (kd i) (sz i) i (W i (al (sz i))) x))) h') : mCt mCd 204 [.ref 14, .int (iZ i), .int x] h Q := by
  obtain ⟨hc, hb, cor, bA, bB, rw_, bo, fk, fs, g, e1, e2, e3, e4, hf⟩ := id hr
  have hs := (hf i hi).1
  have hk4 := (hb i hi).1
  have hl := rG_l (kd i)
  unfold aLk rL at hq
  by_cases h1 : kd i = 2
  · simp only [if_pos h1] at hq
    refine en204 (b204_0 e1 e2 (iZ_in (by omega) (by omega) (by decide)) (fun q => ?_) (fun _ => b204_10 e1 (c200 ht (by omega) (fun h1 a1 t1 => ?_))))
    · simp (disch := (first | assumption | omega | (unfold i32; omega) | (unfold i64; omega))) only [iZ_add, iZ_sub, iZ_mul, iZ_neg, lZ_add, lZ_sub, lZ_mul, lZ_neg, lZ_i, iZ_l, iZ_nat, Int.toNat_natCast, iZ_bit, iZ_shl, iZ_or, iZ_lt, iZ_le, iZ_eq, iZ_lt0, iZ_le0, iZ_gt0, iZ_ge0, iZ_eq0, cmp_eq0, cmp_lt0, cmp_le0, cmp_ge0, cmp_gt0, tf_0, tf_n0, Decidable.not_not, not_true_eq_false, not_false_eq_true, hs, Int.toNat_natCast] at q
      omega
    · have hr1 := hr.act a1
      obtain ⟨cor, bA, bB, rw_, bo, e1'⟩ := hr1.o
      refine b204_16 e1' (c203 hr1 hi t1 (by simp; omega) (fun h2 a2 t2 => b204_22 ?_))
      rw [List.append_assoc] at t2
      exact hq h2 (a1.tr a2) t2
  · simp only [if_neg h1] at hq
    refine en204 (b204_0 e1 e2 (iZ_in (by omega) (by omega) (by decide)) (fun _ => ?_) (fun q => ?_))
    · by_cases h4 : kd i = 4
      · simp only [if_pos h4] at hq
        refine b204_25 e1 e2 (iZ_in (by omega) (by omega) (by decide)) (fun q => ?_) (fun _ => b204_35 e1 (c200 ht (by omega) (fun h1 a1 t1 => ?_)))
        · simp (disch := (first | assumption | omega | (unfold i32; omega) | (unfold i64; omega))) only [iZ_add, iZ_sub, iZ_mul, iZ_neg, lZ_add, lZ_sub, lZ_mul, lZ_neg, lZ_i, iZ_l, iZ_nat, Int.toNat_natCast, iZ_bit, iZ_shl, iZ_or, iZ_lt, iZ_le, iZ_eq, iZ_lt0, iZ_le0, iZ_gt0, iZ_ge0, iZ_eq0, cmp_eq0, cmp_lt0, cmp_le0, cmp_ge0, cmp_gt0, tf_0, tf_n0, Decidable.not_not, not_true_eq_false, not_false_eq_true, hs, Int.toNat_natCast] at q
          omega
        · have hr1 := hr.act a1
          obtain ⟨cor, bA, bB, rw_, bo, e1'⟩ := hr1.o
          refine b204_41 e1' (c203 hr1 hi t1 (by simp; omega) (fun h2 a2 t2 => ?_))
          have hr2 := hr1.act a2
          obtain ⟨cor, bA, bB, rw_, bo, e1''⟩ := hr2.o
          refine b204_47 e1'' (c201 hr2 hi t2 (by simp; omega) (fun h3 a3 t3 => b204_55 ?_))
          rw [List.append_assoc, List.append_assoc] at t3
          exact hq h3 ((a1.tr a2).tr a3) t3
      · simp only [if_neg h4] at hq
        refine b204_25 e1 e2 (iZ_in (by omega) (by omega) (by decide)) (fun _ => b204_57 e1 (c203 hr hi ht (by omega) (fun h2 a2 t2 => b204_63 (hq h2 a2 t2)))) (fun q => ?_)
        simp (disch := (first | assumption | omega | (unfold i32; omega) | (unfold i64; omega))) only [iZ_add, iZ_sub, iZ_mul, iZ_neg, lZ_add, lZ_sub, lZ_mul, lZ_neg, lZ_i, iZ_l, iZ_nat, Int.toNat_natCast, iZ_bit, iZ_shl, iZ_or, iZ_lt, iZ_le, iZ_eq, iZ_lt0, iZ_le0, iZ_gt0, iZ_ge0, iZ_eq0, cmp_eq0, cmp_lt0, cmp_le0, cmp_ge0, cmp_gt0, tf_0, tf_n0, Decidable.not_not, not_true_eq_false, not_false_eq_true, hs, Int.toNat_natCast] at q
        omega
    · simp (disch := (first | assumption | omega | (unfold i32; omega) | (unfold i64; omega))) only [iZ_add, iZ_sub, iZ_mul, iZ_neg, lZ_add, lZ_sub, lZ_mul, lZ_neg, lZ_i, iZ_l, iZ_nat, Int.toNat_natCast, iZ_bit, iZ_shl, iZ_or, iZ_lt, iZ_le, iZ_eq, iZ_lt0, iZ_le0, iZ_gt0, iZ_ge0, iZ_eq0, cmp_eq0, cmp_lt0, cmp_le0, cmp_ge0, cmp_gt0, tf_0, tf_n0, Decidable.not_not, not_true_eq_false, not_false_eq_true, hs, Int.toNat_natCast] at q
      omega
theorem rL_l (kd : Nat) : (rL kd).length ≤ 5 := by
  have := rG_l kd
  unfold rL
  split
  · simp; omega
  · split
    · simp; omega
    · simp; omega
theorem c205 (hr : RV h c kd sz W) (hi : i < c) (ht : RT h T) (hT : T.length < 30) (hq : ∀ h', ActS h h' → RT h' (T ++ rS (kd i)) → Q (some (.int (tS (kd i) (sz i) i (W i (al (sz i))) x))) h') : mCt mCd 205 [.ref 14, .int (iZ i), .int x] h Q := by
  obtain ⟨cor, bA, bB, rw_, bo, e1⟩ := hr.o
  have hl := rG_l (kd i)
  have hl2 := rL_l (kd i)
  refine en205 (b205_0 e1 (c200 ht (by omega) (fun h1 a1 t1 => ?_)))
  have hr1 := hr.act a1
  obtain ⟨cor, bA, bB, rw_, bo, e1'⟩ := hr1.o
  refine b205_6 e1' (c204 hr1 hi t1 (by simp; omega) (fun h2 a2 t2 => ?_))
  have hr2 := hr1.act a2
  obtain ⟨cor, bA, bB, rw_, bo, e1''⟩ := hr2.o
  refine b205_12 e1'' (c202 hr2 hi t2 (by simp; omega) (fun h3 a3 t3 => b205_22 ?_))
  rw [List.append_assoc, List.append_assoc] at t3
  exact hq h3 ((a1.tr a2).tr a3) t3
theorem c206 (hr : RV h c kd sz W) (hi : i < c) (ht : RT h T) (hT : T.length < 20) (hq : ∀ h', ActS h h' → RT h' (T ++ rSh (kd i)) → Q (some (.int (aSh (kd i) (sz i) i (W i (al (sz i))) x))) h') : mCt mCd 206 [.ref 14, .int (iZ i), .int x] h Q := by
  obtain ⟨hc, hb, cor, bA, bB, rw_, bo, fk, fs, g, e1, e2, e3, e4, hf⟩ := id hr
  have hs := (hf i hi).1
  have hk4 := (hb i hi).1
  have hl := rG_l (kd i)
  unfold aSh rSh at hq
  by_cases h1 : kd i = 1
  · simp only [if_pos h1] at hq
    refine en206 (b206_0 e1 e2 (iZ_in (by omega) (by omega) (by decide)) (fun q => ?_) (fun _ => b206_10 e1 (c200 ht (by omega) (fun h1 a1 t1 => ?_))))
    · simp (disch := (first | assumption | omega | (unfold i32; omega) | (unfold i64; omega))) only [iZ_add, iZ_sub, iZ_mul, iZ_neg, lZ_add, lZ_sub, lZ_mul, lZ_neg, lZ_i, iZ_l, iZ_nat, Int.toNat_natCast, iZ_bit, iZ_shl, iZ_or, iZ_lt, iZ_le, iZ_eq, iZ_lt0, iZ_le0, iZ_gt0, iZ_ge0, iZ_eq0, cmp_eq0, cmp_lt0, cmp_le0, cmp_ge0, cmp_gt0, tf_0, tf_n0, Decidable.not_not, not_true_eq_false, not_false_eq_true, hs, Int.toNat_natCast] at q
      omega
    · have hr1 := hr.act a1
      obtain ⟨cor, bA, bB, rw_, bo, e1'⟩ := hr1.o
      refine b206_16 e1' (c205 hr1 hi t1 (by simp; omega) (fun h2 a2 t2 => b206_22 ?_))
      rw [List.append_assoc] at t2
      exact hq h2 (a1.tr a2) t2
  · simp only [if_neg h1] at hq
    refine en206 (b206_0 e1 e2 (iZ_in (by omega) (by omega) (by decide)) (fun _ => ?_) (fun q => ?_))
    · by_cases h4 : kd i = 3
      · simp only [if_pos h4] at hq
        refine b206_25 e1 e2 (iZ_in (by omega) (by omega) (by decide)) (fun q => ?_) (fun _ => b206_35 e1 (c200 ht (by omega) (fun h1 a1 t1 => ?_)))
        · simp (disch := (first | assumption | omega | (unfold i32; omega) | (unfold i64; omega))) only [iZ_add, iZ_sub, iZ_mul, iZ_neg, lZ_add, lZ_sub, lZ_mul, lZ_neg, lZ_i, iZ_l, iZ_nat, Int.toNat_natCast, iZ_bit, iZ_shl, iZ_or, iZ_lt, iZ_le, iZ_eq, iZ_lt0, iZ_le0, iZ_gt0, iZ_ge0, iZ_eq0, cmp_eq0, cmp_lt0, cmp_le0, cmp_ge0, cmp_gt0, tf_0, tf_n0, Decidable.not_not, not_true_eq_false, not_false_eq_true, hs, Int.toNat_natCast] at q
          omega
        · have hr1 := hr.act a1
          obtain ⟨cor, bA, bB, rw_, bo, e1'⟩ := hr1.o
          refine b206_41 e1' (c202 hr1 hi t1 (by simp; omega) (fun h2 a2 t2 => ?_))
          have hr2 := hr1.act a2
          obtain ⟨cor, bA, bB, rw_, bo, e1''⟩ := hr2.o
          refine b206_47 e1'' (c205 hr2 hi t2 (by simp; omega) (fun h3 a3 t3 => b206_57 ?_))
          rw [List.append_assoc, List.append_assoc] at t3
          exact hq h3 ((a1.tr a2).tr a3) t3
      · simp only [if_neg h4] at hq
        refine b206_25 e1 e2 (iZ_in (by omega) (by omega) (by decide)) (fun _ => b206_59 e1 (c205 hr hi ht (by omega) (fun h2 a2 t2 => b206_65 (hq h2 a2 t2)))) (fun q => ?_)
        simp (disch := (first | assumption | omega | (unfold i32; omega) | (unfold i64; omega))) only [iZ_add, iZ_sub, iZ_mul, iZ_neg, lZ_add, lZ_sub, lZ_mul, lZ_neg, lZ_i, iZ_l, iZ_nat, Int.toNat_natCast, iZ_bit, iZ_shl, iZ_or, iZ_lt, iZ_le, iZ_eq, iZ_lt0, iZ_le0, iZ_gt0, iZ_ge0, iZ_eq0, cmp_eq0, cmp_lt0, cmp_le0, cmp_ge0, cmp_gt0, tf_0, tf_n0, Decidable.not_not, not_true_eq_false, not_false_eq_true, hs, Int.toNat_natCast] at q
        omega
    · simp (disch := (first | assumption | omega | (unfold i32; omega) | (unfold i64; omega))) only [iZ_add, iZ_sub, iZ_mul, iZ_neg, lZ_add, lZ_sub, lZ_mul, lZ_neg, lZ_i, iZ_l, iZ_nat, Int.toNat_natCast, iZ_bit, iZ_shl, iZ_or, iZ_lt, iZ_le, iZ_eq, iZ_lt0, iZ_le0, iZ_gt0, iZ_ge0, iZ_eq0, cmp_eq0, cmp_lt0, cmp_le0, cmp_ge0, cmp_gt0, tf_0, tf_n0, Decidable.not_not, not_true_eq_false, not_false_eq_true, hs, Int.toNat_natCast] at q
      omega
end MA
