/-! ===== the class: the desk, its asks ===== -/

def ciK (k : Nat) : Nat := if k = 0 then 6 else if k = 1 then 8 else if k = 2 then 4 else if k = 3 then 1 else 2
theorem ciK_c (k : Nat) : [1, 2, 4, 6, 8].contains (ciK k) = true := by
  unfold ciK
  repeat' split
  all_goals rfl
/-- ventures of the desk, at A -/
def CD (h : mH) (c : Nat) (kd sz : Nat → Nat) (W : Nat → Nat → Int) (A : Nat → Nat) : Prop := c ≤ 10 ∧ (∃ g : Nat → Option Nat, h[5]? = some (oJ (iZ c)) ∧ h[6]? = some (aR 2 10 g) ∧ ∀ i, i < c → g i = some (A i)) ∧ (∀ i, i < c → kd i ≤ 4 ∧ CX h (A i) (ciK (kd i)) i (sz i) (W i) ∧ (kd i = 1 → ∀ s, s < 2 ^ sz i → W i s = 0 ∨ W i s = 1)) ∧ ∀ i j, i < j → j < c → A i + 9 ≤ A j
/-- what an ask may change: cells of ventures alone, and no worth -/
def AskC (c : Nat) (A : Nat → Nat) (h h' : mH) : Prop := h'.length = h.length ∧ ∀ x, (∀ i, i < c → x < A i ∨ A i + 9 ≤ x) → h'[x]? = h[x]?
section CD
variable {h h' : mH} {Q : Option Value → mH → Prop} {i n c : Nat} {kd sz : Nat → Nat} {W : Nat → Nat → Int} {A : Nat → Nat} {a p s y k q : Int}
theorem CX.eq {a ci num n : Nat} {w : Nat → Int} {K : List Nat} (hv : CX h a ci num n w) (hx : Eqx K h h') (hk : ∀ x, x ∈ K → x < a ∨ a + 9 ≤ x) : CX h' a ci num n w := by
  obtain ⟨cv, hw0, ⟨cc, tw, g, gp, lo, hi, gi, z1, z2, z3, z4, z5, z6⟩, ⟨g2, f2⟩, fd, e1, hor⟩ := hv
  have f : ∀ j, j < 9 → h'[a + j]? = h[a + j]? := fun j hj => hx.2 _ (fun m => by have := hk _ m; omega)
  refine ⟨cv.eq hx (fun m => by have := hk _ m; omega) (fun m => by have := hk _ m; omega), hw0, ⟨cc, tw, g, gp, lo, hi, gi, (f 3 (by omega)).trans z1, (f 4 (by omega)).trans z2, (f 5 (by omega)).trans z3, (f 6 (by omega)).trans z4, (f 7 (by omega)).trans z5, (f 8 (by omega)).trans z6⟩, ⟨g2, (f 2 (by omega)).trans f2⟩, fd, (f 0 (by omega)).trans e1, hor.imp id ?_⟩
  rintro ⟨tw, kl⟩
  exact ⟨tw, kl.eq hx (fun m => by have := hk _ m; omega) (fun m => by have := hk _ m; omega)⟩
theorem CD.o (hd : CD h c kd sz W A) : h[5]? = some (oJ (iZ c)) := hd.2.1.choose_spec.1
theorem CD.cx (hd : CD h c kd sz W A) (hi : i < c) : CX h (A i) (ciK (kd i)) i (sz i) (W i) := (hd.2.2.1 i hi).2.1
theorem CD.cv (hd : CD h c kd sz W A) (hi : i < c) : CV h (A i) (ciK (kd i)) i (sz i) (W i) := (hd.cx hi).1
theorem CD.dis (hd : CD h c kd sz W A) {i j : Nat} (hi : i < c) (hj : j < c) (hne : i ≠ j) : A i + 9 ≤ A j ∨ A j + 9 ≤ A i := by
  rcases Nat.lt_or_gt_of_ne hne with q | q
  · exact Or.inl (hd.2.2.2 i j q hj)
  · exact Or.inr (hd.2.2.2 j i q hi)
theorem K9_in {a x : Nat} : x ∈ K9 a ↔ a ≤ x ∧ x < a + 9 := by
  unfold K9
  simp only [List.mem_cons, List.not_mem_nil, or_false]
  omega
/-- an ask of venture i that leaves it as it was -/
theorem CD.ask (hd : CD h c kd sz W A) (hi : i < c) (hx : Eqx (K9 (A i)) h h') (hv : CX h' (A i) (ciK (kd i)) i (sz i) (W i)) : CD h' c kd sz W A ∧ AskC c A h h' := by
  have ha := (hd.cv hi).1
  refine ⟨⟨hd.1, ?_, fun j hj => ?_, hd.2.2.2⟩, hx.1, fun x hxx => hx.2 x fun m => ?_⟩
  · obtain ⟨g, g1, g2, g3⟩ := hd.2.1
    exact ⟨g, (hx.2 5 (fun m => by rw [K9_in] at m; omega)).trans g1, (hx.2 6 (fun m => by rw [K9_in] at m; omega)).trans g2, g3⟩
  · obtain ⟨k1, k2, k3⟩ := hd.2.2.1 j hj
    refine ⟨k1, ?_, k3⟩
    by_cases e : j = i
    · subst e; exact hv
    · refine k2.eq hx (fun x m => ?_)
      rw [K9_in] at m
      have := hd.dis hi hj (Ne.symm e)
      omega
  · rw [K9_in] at m
    have := hxx i hi
    omega
theorem AskC.rf (h : mH) : AskC c A h h := ⟨rfl, fun _ _ => rfl⟩
/-- find -/
theorem k114y (hd : CD h c kd sz W A) (hi : i < c) (hq : Q (some (.ref (A i))) h) : mCt mCd 114 [.ref 5, .int (iZ i)] h Q := by
  have hc := hd.1
  obtain ⟨g, g1, g2, g3⟩ := hd.2.1
  refine en114 (b114_0 (fun z => ?_) (fun _ => b114_4 g1 (fun z => ?_) (fun _ => b114_12 g1 g2 (fun _ => b114_25r g1 g2 (inZ (by omega) (by decide)) (by rw [tnZ (show i < 10 by omega) (by decide)]; exact g3 i hi) hq) (fun z => ?_))))
  · simp (disch := (first | assumption | omega | (unfold i32; omega) | (unfold i64; omega))) only [iZ_add, iZ_sub, iZ_mul, iZ_neg, lZ_add, lZ_sub, lZ_mul, lZ_neg, lZ_i, iZ_l, iZ_nat, Int.toNat_natCast, iZ_bit, iZ_shl, iZ_or, iZ_lt, iZ_le, iZ_eq, iZ_lt0, iZ_le0, iZ_gt0, iZ_ge0, iZ_eq0, cmp_eq0, cmp_lt0, cmp_le0, cmp_ge0, cmp_gt0, tf_0, tf_n0, Decidable.not_not, not_true_eq_false, not_false_eq_true, Int.toNat_natCast, onat] at z
    omega
  · simp (disch := (first | assumption | omega | (unfold i32; omega) | (unfold i64; omega))) only [iZ_add, iZ_sub, iZ_mul, iZ_neg, lZ_add, lZ_sub, lZ_mul, lZ_neg, lZ_i, iZ_l, iZ_nat, Int.toNat_natCast, iZ_bit, iZ_shl, iZ_or, iZ_lt, iZ_le, iZ_eq, iZ_lt0, iZ_le0, iZ_gt0, iZ_ge0, iZ_eq0, cmp_eq0, cmp_lt0, cmp_le0, cmp_ge0, cmp_gt0, tf_0, tf_n0, Decidable.not_not, not_true_eq_false, not_false_eq_true, Int.toNat_natCast, onat] at z
    omega
  · simp (disch := (first | assumption | omega | (unfold i32; omega) | (unfold i64; omega))) only [iZ_add, iZ_sub, iZ_mul, iZ_neg, lZ_add, lZ_sub, lZ_mul, lZ_neg, lZ_i, iZ_l, iZ_nat, Int.toNat_natCast, iZ_bit, iZ_shl, iZ_or, iZ_lt, iZ_le, iZ_eq, iZ_lt0, iZ_le0, iZ_gt0, iZ_ge0, iZ_eq0, cmp_eq0, cmp_lt0, cmp_le0, cmp_ge0, cmp_gt0, tf_0, tf_n0, Decidable.not_not, not_true_eq_false, not_false_eq_true, Int.toNat_natCast, onat] at z
    omega
theorem k114n (hd : CD h c kd sz W A) (ha : i32 a) (hA : ¬ (0 ≤ a ∧ a < c)) (hq : Q (some .null) h) : mCt mCd 114 [.ref 5, .int (iZ a)] h Q := by
  have hc := hd.1
  obtain ⟨g, g1, g2, g3⟩ := hd.2.1
  refine en114 (b114_0 (fun _ => b114_21 hq) (fun z => b114_4 g1 (fun _ => b114_21 hq) (fun z2 => ?_)))
  simp (disch := (first | assumption | omega | (unfold i32; omega) | (unfold i64; omega))) only [iZ_add, iZ_sub, iZ_mul, iZ_neg, lZ_add, lZ_sub, lZ_mul, lZ_neg, lZ_i, iZ_l, iZ_nat, Int.toNat_natCast, iZ_bit, iZ_shl, iZ_or, iZ_lt, iZ_le, iZ_eq, iZ_lt0, iZ_le0, iZ_gt0, iZ_ge0, iZ_eq0, cmp_eq0, cmp_lt0, cmp_le0, cmp_ge0, cmp_gt0, tf_0, tf_n0, Decidable.not_not, not_true_eq_false, not_false_eq_true, Int.toNat_natCast, onat] at z
  simp (disch := (first | assumption | omega | (unfold i32; omega) | (unfold i64; omega))) only [iZ_add, iZ_sub, iZ_mul, iZ_neg, lZ_add, lZ_sub, lZ_mul, lZ_neg, lZ_i, iZ_l, iZ_nat, Int.toNat_natCast, iZ_bit, iZ_shl, iZ_or, iZ_lt, iZ_le, iZ_eq, iZ_lt0, iZ_le0, iZ_gt0, iZ_ge0, iZ_eq0, cmp_eq0, cmp_lt0, cmp_le0, cmp_ge0, cmp_gt0, tf_0, tf_n0, Decidable.not_not, not_true_eq_false, not_false_eq_true, Int.toNat_natCast, onat] at z2
  omega
/-- kinds -/
def kdM (k : Nat) : Nat := if k = 0 then 38 else if k = 1 then 75 else if k = 2 then 31 else if k = 3 then 15 else 18
theorem kd_sel : ∀ k, k ≤ 4 → mSel [(1, 15, 0, 0), (2, 18, 0, 0), (4, 31, 0, 0), (6, 38, 0, 0), (8, 75, 0, 0)] (ciK k) = some (kdM k, 0, 0) := by decide +kernel
theorem k_kind {x k : Nat} (hk : k ≤ 4) (hq : Q (some (.int (iZ k))) h) : mCt mCd (kdM k) [.ref x] h Q := by
  have : k = 0 ∨ k = 1 ∨ k = 2 ∨ k = 3 ∨ k = 4 := by omega
  rcases this with e | e | e | e | e <;> subst e
  · exact en38 (b38_0 hq)
  · exact en75 (b75_0 hq)
  · exact en31 (b31_0 hq)
  · exact en15 (b15_0 hq)
  · exact en18 (b18_0 hq)
theorem j90 (hd : CD h c kd sz W A) (ha : i32 a) (hs : i32 s) (hq : Q (some (.long (lZ (sWorth c sz W a s)))) h) : mCt mCd 90 [.ref 5, .int (iZ a), .int (iZ s)] h Q := by
  have e5 := hd.o
  unfold sWorth at hq
  by_cases hA : 0 ≤ a ∧ a < c
  · rw [if_pos hA] at hq
    obtain ⟨i, rfl⟩ : ∃ m : Nat, a = m := ⟨a.toNat, by omega⟩
    have hi : i < c := by omega
    have hv := hd.cv hi
    obtain ⟨ha30, hc, ⟨hn1, hn4⟩, hw, fd, f, e1, e2, hf⟩ := id hv
    simp only [Int.toNat_natCast] at hq
    have hal := al_lt hn4
    refine en90 (b90_0 e5 (k114y hd hi (b90_5_1 (fun z => b90_22 ?_) (fun z => b90_14 hc e1 (k42 hv (b90_19 (fun z2 => b90_28 hc e1 ?_) (fun z2 => b90_22 ?_)))))))
    · simp (disch := (first | assumption | omega | (unfold i32; omega) | (unfold i64; omega))) only [iZ_add, iZ_sub, iZ_mul, iZ_neg, lZ_add, lZ_sub, lZ_mul, lZ_neg, lZ_i, iZ_l, iZ_nat, Int.toNat_natCast, iZ_bit, iZ_shl, iZ_or, iZ_lt, iZ_le, iZ_eq, iZ_lt0, iZ_le0, iZ_gt0, iZ_ge0, iZ_eq0, cmp_eq0, cmp_lt0, cmp_le0, cmp_ge0, cmp_gt0, tf_0, tf_n0, Decidable.not_not, not_true_eq_false, not_false_eq_true, Int.toNat_natCast, onat] at z
      rw [if_neg (by omega)] at hq
      exact hq
    · simp (disch := (first | assumption | omega | (unfold i32; omega) | (unfold i64; omega))) only [iZ_add, iZ_sub, iZ_mul, iZ_neg, lZ_add, lZ_sub, lZ_mul, lZ_neg, lZ_i, iZ_l, iZ_nat, Int.toNat_natCast, iZ_bit, iZ_shl, iZ_or, iZ_lt, iZ_le, iZ_eq, iZ_lt0, iZ_le0, iZ_gt0, iZ_ge0, iZ_eq0, cmp_eq0, cmp_lt0, cmp_le0, cmp_ge0, cmp_gt0, tf_0, tf_n0, Decidable.not_not, not_true_eq_false, not_false_eq_true, Int.toNat_natCast, onat] at z
      simp (disch := (first | assumption | omega | (unfold i32; omega) | (unfold i64; omega))) only [iZ_add, iZ_sub, iZ_mul, iZ_neg, lZ_add, lZ_sub, lZ_mul, lZ_neg, lZ_i, iZ_l, iZ_nat, Int.toNat_natCast, iZ_bit, iZ_shl, iZ_or, iZ_lt, iZ_le, iZ_eq, iZ_lt0, iZ_le0, iZ_gt0, iZ_ge0, iZ_eq0, cmp_eq0, cmp_lt0, cmp_le0, cmp_ge0, cmp_gt0, tf_0, tf_n0, Decidable.not_not, not_true_eq_false, not_false_eq_true, Int.toNat_natCast, onat] at z2
      rw [if_pos (by omega)] at hq
      obtain ⟨s, rfl⟩ : ∃ m : Nat, s = m := ⟨s.toNat, by omega⟩
      refine k46 hv (by omega) (b90_33 ?_)
      rw [iZ_l (w_i hw _)]
      exact hq
    · simp (disch := (first | assumption | omega | (unfold i32; omega) | (unfold i64; omega))) only [iZ_add, iZ_sub, iZ_mul, iZ_neg, lZ_add, lZ_sub, lZ_mul, lZ_neg, lZ_i, iZ_l, iZ_nat, Int.toNat_natCast, iZ_bit, iZ_shl, iZ_or, iZ_lt, iZ_le, iZ_eq, iZ_lt0, iZ_le0, iZ_gt0, iZ_ge0, iZ_eq0, cmp_eq0, cmp_lt0, cmp_le0, cmp_ge0, cmp_gt0, tf_0, tf_n0, Decidable.not_not, not_true_eq_false, not_false_eq_true, Int.toNat_natCast, onat] at z
      simp (disch := (first | assumption | omega | (unfold i32; omega) | (unfold i64; omega))) only [iZ_add, iZ_sub, iZ_mul, iZ_neg, lZ_add, lZ_sub, lZ_mul, lZ_neg, lZ_i, iZ_l, iZ_nat, Int.toNat_natCast, iZ_bit, iZ_shl, iZ_or, iZ_lt, iZ_le, iZ_eq, iZ_lt0, iZ_le0, iZ_gt0, iZ_ge0, iZ_eq0, cmp_eq0, cmp_lt0, cmp_le0, cmp_ge0, cmp_gt0, tf_0, tf_n0, Decidable.not_not, not_true_eq_false, not_false_eq_true, Int.toNat_natCast, onat] at z2
      rw [if_neg (by omega)] at hq
      exact hq
  · rw [if_neg hA] at hq
    exact en90 (b90_0 e5 (k114n hd ha hA (b90_5 hq)))
theorem j91 (hd : CD h c kd sz W A) (ha : i32 a) (hp : i32 p) (hs : i32 s) (hq : Q (some (.long (lZ (sAdds c sz W a p s)))) h) : mCt mCd 91 [.ref 5, .int (iZ a), .int (iZ p), .int (iZ s)] h Q := by
  have e5 := hd.o
  unfold sAdds at hq
  by_cases hA : 0 ≤ a ∧ a < c
  · rw [if_pos hA] at hq
    obtain ⟨i, rfl⟩ : ∃ m : Nat, a = m := ⟨a.toNat, by omega⟩
    have hi : i < c := by omega
    have hv := hd.cv hi
    obtain ⟨ha30, hc, ⟨hn1, hn4⟩, hw, fd, f, e1, e2, hf⟩ := id hv
    simp only [Int.toNat_natCast] at hq
    have hal := al_lt hn4
    refine en91 (b91_0 e5 (k114y hd hi (b91_5_1 hc e1 (k43 hv hp (b91_18 (fun z => b91_43 ?_) (fun z => b91_21 (fun z2 => b91_43 ?_) (fun z2 => b91_25 hc e1 (k42 hv (b91_31 (fun z3 => b91_43 ?_) (fun z3 => b91_34 ?_))))))))))
    · rw [tf_0] at z
      rw [if_neg (by omega)] at hq
      exact hq
    · simp (disch := (first | assumption | omega | (unfold i32; omega) | (unfold i64; omega))) only [iZ_add, iZ_sub, iZ_mul, iZ_neg, lZ_add, lZ_sub, lZ_mul, lZ_neg, lZ_i, iZ_l, iZ_nat, Int.toNat_natCast, iZ_bit, iZ_shl, iZ_or, iZ_lt, iZ_le, iZ_eq, iZ_lt0, iZ_le0, iZ_gt0, iZ_ge0, iZ_eq0, cmp_eq0, cmp_lt0, cmp_le0, cmp_ge0, cmp_gt0, tf_0, tf_n0, Decidable.not_not, not_true_eq_false, not_false_eq_true, Int.toNat_natCast, onat] at z2
      rw [if_neg (by omega)] at hq
      exact hq
    · simp (disch := (first | assumption | omega | (unfold i32; omega) | (unfold i64; omega))) only [iZ_add, iZ_sub, iZ_mul, iZ_neg, lZ_add, lZ_sub, lZ_mul, lZ_neg, lZ_i, iZ_l, iZ_nat, Int.toNat_natCast, iZ_bit, iZ_shl, iZ_or, iZ_lt, iZ_le, iZ_eq, iZ_lt0, iZ_le0, iZ_gt0, iZ_ge0, iZ_eq0, cmp_eq0, cmp_lt0, cmp_le0, cmp_ge0, cmp_gt0, tf_0, tf_n0, Decidable.not_not, not_true_eq_false, not_false_eq_true, Int.toNat_natCast, onat] at z2
      simp (disch := (first | assumption | omega | (unfold i32; omega) | (unfold i64; omega))) only [iZ_add, iZ_sub, iZ_mul, iZ_neg, lZ_add, lZ_sub, lZ_mul, lZ_neg, lZ_i, iZ_l, iZ_nat, Int.toNat_natCast, iZ_bit, iZ_shl, iZ_or, iZ_lt, iZ_le, iZ_eq, iZ_lt0, iZ_le0, iZ_gt0, iZ_ge0, iZ_eq0, cmp_eq0, cmp_lt0, cmp_le0, cmp_ge0, cmp_gt0, tf_0, tf_n0, Decidable.not_not, not_true_eq_false, not_false_eq_true, Int.toNat_natCast, onat] at z3
      rw [if_neg (by omega)] at hq
      exact hq
    · rw [tf_n0] at z
      simp (disch := (first | assumption | omega | (unfold i32; omega) | (unfold i64; omega))) only [iZ_add, iZ_sub, iZ_mul, iZ_neg, lZ_add, lZ_sub, lZ_mul, lZ_neg, lZ_i, iZ_l, iZ_nat, Int.toNat_natCast, iZ_bit, iZ_shl, iZ_or, iZ_lt, iZ_le, iZ_eq, iZ_lt0, iZ_le0, iZ_gt0, iZ_ge0, iZ_eq0, cmp_eq0, cmp_lt0, cmp_le0, cmp_ge0, cmp_gt0, tf_0, tf_n0, Decidable.not_not, not_true_eq_false, not_false_eq_true, Int.toNat_natCast, onat] at z2
      simp (disch := (first | assumption | omega | (unfold i32; omega) | (unfold i64; omega))) only [iZ_add, iZ_sub, iZ_mul, iZ_neg, lZ_add, lZ_sub, lZ_mul, lZ_neg, lZ_i, iZ_l, iZ_nat, Int.toNat_natCast, iZ_bit, iZ_shl, iZ_or, iZ_lt, iZ_le, iZ_eq, iZ_lt0, iZ_le0, iZ_gt0, iZ_ge0, iZ_eq0, cmp_eq0, cmp_lt0, cmp_le0, cmp_ge0, cmp_gt0, tf_0, tf_n0, Decidable.not_not, not_true_eq_false, not_false_eq_true, Int.toNat_natCast, onat] at z3
      rw [if_pos (by omega)] at hq
      obtain ⟨s, rfl⟩ : ∃ m : Nat, s = m := ⟨s.toNat, by omega⟩
      obtain ⟨p, rfl⟩ : ∃ m : Nat, p = m := ⟨p.toNat, by omega⟩
      simp only [Int.toNat_natCast] at hq
      have hb := bt_lt s p
      refine k126 (by omega) (by omega) (b91_39 (fun z4 => b91_47 hc e1 (k50 hv (by omega) (by omega) (b91_54 ?_))) (fun z4 => b91_43 ?_))
      · have z4 : ¬ iZ (bt s p : Nat) = iZ 1 := z4
        simp (disch := (first | assumption | omega | (unfold i32; omega) | (unfold i64; omega))) only [iZ_add, iZ_sub, iZ_mul, iZ_neg, lZ_add, lZ_sub, lZ_mul, lZ_neg, lZ_i, iZ_l, iZ_nat, Int.toNat_natCast, iZ_bit, iZ_shl, iZ_or, iZ_lt, iZ_le, iZ_eq, iZ_lt0, iZ_le0, iZ_gt0, iZ_ge0, iZ_eq0, cmp_eq0, cmp_lt0, cmp_le0, cmp_ge0, cmp_gt0, tf_0, tf_n0, Decidable.not_not, not_true_eq_false, not_false_eq_true, Int.toNat_natCast, onat] at z4
        rw [if_pos (by omega)] at hq
        rw [iZ_l (ad_i hw _ _)]
        exact hq
      · have z4 : ¬ ¬ iZ (bt s p : Nat) = iZ 1 := z4
        simp (disch := (first | assumption | omega | (unfold i32; omega) | (unfold i64; omega))) only [iZ_add, iZ_sub, iZ_mul, iZ_neg, lZ_add, lZ_sub, lZ_mul, lZ_neg, lZ_i, iZ_l, iZ_nat, Int.toNat_natCast, iZ_bit, iZ_shl, iZ_or, iZ_lt, iZ_le, iZ_eq, iZ_lt0, iZ_le0, iZ_gt0, iZ_ge0, iZ_eq0, cmp_eq0, cmp_lt0, cmp_le0, cmp_ge0, cmp_gt0, tf_0, tf_n0, Decidable.not_not, not_true_eq_false, not_false_eq_true, Int.toNat_natCast, onat] at z4
        rw [if_neg (by omega)] at hq
        exact hq
  · rw [if_neg hA] at hq
    exact en91 (b91_0 e5 (k114n hd ha hA (b91_5 hq)))
theorem j92 (hd : CD h c kd sz W A) (ha : i32 a) (hy : i32 y) (hp : i32 p) (hk : i32 k) (hq : Q (some (.long (lZ (sPart c sz W a y p k)))) h) : mCt mCd 92 [.ref 5, .int (iZ a), .int (iZ y), .int (iZ p), .int (iZ k)] h Q := by
  have e5 := hd.o
  unfold sPart at hq
  by_cases hA : 0 ≤ a ∧ a < c
  · rw [if_pos hA] at hq
    obtain ⟨i, rfl⟩ : ∃ m : Nat, a = m := ⟨a.toNat, by omega⟩
    have hi : i < c := by omega
    have hv := hd.cv hi
    obtain ⟨ha30, hc, ⟨hn1, hn4⟩, hw, fd, f, e1, e2, hf⟩ := id hv
    simp only [Int.toNat_natCast] at hq
    refine en92 (b92_0 e5 (k114y hd hi (b92_5_1 (k122 hy (b92_16 (fun z => b92_28 ?_) (fun z => b92_19 hc e1 (k43 hv hp (b92_25 (fun z2 => b92_32 hc e1 ?_) (fun z2 => b92_28 ?_)))))))))
    · rw [tf_0] at z
      rw [if_neg (by omega)] at hq
      exact hq
    · rw [tf_n0] at z z2
      obtain ⟨y, rfl⟩ : ∃ m : Nat, y = m := ⟨y.toNat, by omega⟩
      obtain ⟨p, rfl⟩ : ∃ m : Nat, p = m := ⟨p.toNat, by omega⟩
      simp only [Int.toNat_natCast] at hq
      have hb := belowZ_b (way := y) hn1 hn4
      have hg := getsZ_b hw (way := y) (p := p) hn4
      refine k60 hv (by omega) (by omega) (b92_39 hc e1 (k59 hv (by omega) (b92_46 ?_)))
      rw [iZ_l (by unfold bd at hg; unfold i32; omega), iZ_l (by unfold i32; omega)]
      refine k134 (by unfold bd at *; omega) (by unfold bd; omega) (by omega) hk (b92_52 (Ql ?_ hq))
      congr 1
      by_cases q : 0 ≤ k ∧ k ≤ 1
      · rw [if_pos q, if_pos (by omega)]
      · rw [if_neg q, if_neg (by omega)]
    · rw [tf_n0] at z2
      rw [if_neg (by omega)] at hq
      exact hq
  · rw [if_neg hA] at hq
    exact en92 (b92_0 e5 (k114n hd ha hA (b92_5 hq)))
theorem j97 (hd : CD h c kd sz W A) (hl : LN h) (ha : i32 a) (hk : i32 k) (hq : Q (some (.long (lZ (sLeast c sz W a k)))) h) : mCt mCd 97 [.ref 5, .int (iZ a), .int (iZ k)] h Q := by
  have e5 := hd.o
  unfold sLeast at hq
  by_cases hA : 0 ≤ a ∧ a < c
  · rw [if_pos hA] at hq
    obtain ⟨i, rfl⟩ : ∃ m : Nat, a = m := ⟨a.toNat, by omega⟩
    have hi : i < c := by omega
    have hv := hd.cv hi
    obtain ⟨ha30, hc, ⟨hn1, hn4⟩, hw, fd, f, e1, e2, hf⟩ := id hv
    simp only [Int.toNat_natCast] at hq
    refine en97 (b97_0 e5 (k114y hd hi (b97_5_1 hc e1 (fun z => b97_22 hc e1 (k67 hv hl (b97_26 hc e1 ?_))) (fun z => b97_18 ?_))))
    · have z : ¬ iZ (sz i) = iZ 1 := z
      simp (disch := (first | assumption | omega | (unfold i32; omega) | (unfold i64; omega))) only [iZ_add, iZ_sub, iZ_mul, iZ_neg, lZ_add, lZ_sub, lZ_mul, lZ_neg, lZ_i, iZ_l, iZ_nat, Int.toNat_natCast, iZ_bit, iZ_shl, iZ_or, iZ_lt, iZ_le, iZ_eq, iZ_lt0, iZ_le0, iZ_gt0, iZ_ge0, iZ_eq0, cmp_eq0, cmp_lt0, cmp_le0, cmp_ge0, cmp_gt0, tf_0, tf_n0, Decidable.not_not, not_true_eq_false, not_false_eq_true, Int.toNat_natCast, onat] at z
      have hln := lean_n hn4 (show 2 ≤ sz i by omega)
      have hbm : barC (sz i) (W i) ∈ leanC (sz i) := by
        have := bc_mem (sz i) (W i) ((leanC (sz i)).length - 1) (by omega)
        rw [show (leanC (sz i)).length - 1 + 1 = (leanC (sz i)).length by omega] at this
        exact this
      have hb := lean_tot _ hn4 _ hbm
      have hg := lExc_b (n := sz i) (c := barC (sz i) (W i)) hw
      refine k68 hv hbm (b97_34 (k133 hn4 hbm (b97_40 ?_)))
      rw [iZ_l (by unfold bd at hg; unfold i32; omega), iZ_l (by unfold i32; omega)]
      refine k134 (by unfold bd at *; omega) (by unfold bd; omega) (by omega) hk (b97_45 (Ql ?_ hq))
      congr 1
      by_cases q : 0 ≤ k ∧ k ≤ 1
      · rw [if_pos q, if_pos (by omega)]
      · rw [if_neg q, if_neg (by omega)]
    · have z : ¬ ¬ iZ (sz i) = iZ 1 := z
      simp (disch := (first | assumption | omega | (unfold i32; omega) | (unfold i64; omega))) only [iZ_add, iZ_sub, iZ_mul, iZ_neg, lZ_add, lZ_sub, lZ_mul, lZ_neg, lZ_i, iZ_l, iZ_nat, Int.toNat_natCast, iZ_bit, iZ_shl, iZ_or, iZ_lt, iZ_le, iZ_eq, iZ_lt0, iZ_le0, iZ_gt0, iZ_ge0, iZ_eq0, cmp_eq0, cmp_lt0, cmp_le0, cmp_ge0, cmp_gt0, tf_0, tf_n0, Decidable.not_not, not_true_eq_false, not_false_eq_true, Int.toNat_natCast, onat] at z
      rw [if_neg (by omega)] at hq
      exact hq
  · rw [if_neg hA] at hq
    exact en97 (b97_0 e5 (k114n hd ha hA (b97_5 hq)))
theorem wOf_15 (c s : Nat) : wOf c s ≤ 15 := by
  have f : ∀ k, lW c k < 16 := fun k => Nat.mod_lt _ (by decide)
  have f0 := f 0
  have f1 := f 1
  have f2 := f 2
  have f3 := f 3
  unfold wOf
  repeat' split
  all_goals omega
theorem j98 (hd : CD h c kd sz W A) (hl : LN h) (ha : i32 a) (hs : i32 s) (hk : i32 k) (hq : Q (some (.long (lZ (sBar c sz W a s k)))) h) : mCt mCd 98 [.ref 5, .int (iZ a), .int (iZ s), .int (iZ k)] h Q := by
  have e5 := hd.o
  unfold sBar at hq
  by_cases hA : 0 ≤ a ∧ a < c
  · rw [if_pos hA] at hq
    obtain ⟨i, rfl⟩ : ∃ m : Nat, a = m := ⟨a.toNat, by omega⟩
    have hi : i < c := by omega
    have hv := hd.cv hi
    obtain ⟨ha30, hc, ⟨hn1, hn4⟩, hw, fd, f, e1, e2, hf⟩ := id hv
    simp only [Int.toNat_natCast] at hq
    have hal := al_lt hn4
    refine en98 (b98_0 e5 (k114y hd hi (b98_5_1 hc e1 (k45 hv hs (b98_18 (fun z => b98_25 hc e1 (k67 hv hl (b98_30 ?_))) (fun z => b98_21 ?_))))))
    · rw [tf_n0] at z
      have hn2 : 2 ≤ sz i := by
        by_cases z2 : sz i = 1
        · rw [z2] at z
          have : al 1 = 1 := rfl
          omega
        · omega
      have hln := lean_n hn4 hn2
      have hbm : barC (sz i) (W i) ∈ leanC (sz i) := by
        have := bc_mem (sz i) (W i) ((leanC (sz i)).length - 1) (by omega)
        rw [show (leanC (sz i)).length - 1 + 1 = (leanC (sz i)).length by omega] at this
        exact this
      obtain ⟨s, rfl⟩ : ∃ m : Nat, s = m := ⟨s.toNat, by omega⟩
      simp only [Int.toNat_natCast] at hq
      have h15 := wOf_15 (barC (sz i) (W i)) s
      refine k132 hn4 hbm (by omega) (b98_34 ?_)
      rw [iZ_l (by unfold i32; omega)]
      refine k134 (by unfold bd; omega) (by unfold bd; omega) (by omega) hk (b98_42 (Ql ?_ hq))
      congr 1
      by_cases q : 0 ≤ k ∧ k ≤ 1
      · rw [if_pos q, if_pos (by omega)]
      · rw [if_neg q, if_neg (by omega)]
    · rw [tf_n0] at z
      rw [if_neg (by omega)] at hq
      exact hq
  · rw [if_neg hA] at hq
    exact en98 (b98_0 e5 (k114n hd ha hA (b98_5 hq)))
theorem j99 (hd : CD h c kd sz W A) (ha : i32 a) (hq : Q (some (.int (iZ (sWhere c sz W a)))) h) : mCt mCd 99 [.ref 5, .int (iZ a)] h Q := by
  have e5 := hd.o
  unfold sWhere at hq
  by_cases hA : 0 ≤ a ∧ a < c
  · rw [if_pos hA] at hq
    obtain ⟨i, rfl⟩ : ∃ m : Nat, a = m := ⟨a.toNat, by omega⟩
    have hi : i < c := by omega
    have hv := hd.cv hi
    obtain ⟨ha30, hc, ⟨hn1, hn4⟩, hw, fd, f, e1, e2, hf⟩ := id hv
    exact en99 (b99_0 e5 (k114y hd hi (b99_5_1 hc e1 (k55 hv (b99_19 hq)))))
  · rw [if_neg hA] at hq
    exact en99 (b99_0 e5 (k114n hd ha hA (b99_5 hq)))
theorem j100 (hd : CD h c kd sz W A) (ha : i32 a) (hp : i32 p) (hr : i32 q) (hq : Q (some (.int (iZ (sLike c sz W a p q)))) h) : mCt mCd 100 [.ref 5, .int (iZ a), .int (iZ p), .int (iZ q)] h Q := by
  have e5 := hd.o
  unfold sLike at hq
  by_cases hA : 0 ≤ a ∧ a < c
  · rw [if_pos hA] at hq
    obtain ⟨i, rfl⟩ : ∃ m : Nat, a = m := ⟨a.toNat, by omega⟩
    have hi : i < c := by omega
    have hv := hd.cv hi
    obtain ⟨ha30, hc, ⟨hn1, hn4⟩, hw, fd, f, e1, e2, hf⟩ := id hv
    simp only [Int.toNat_natCast] at hq
    refine en100 (b100_0 e5 (k114y hd hi (b100_5_1 hc e1 (k43 hv hp (b100_18 (fun z => b100_35 ?_) (fun z => b100_21 hc e1 (k43 hv hr (b100_27 (fun z2 => b100_35 ?_) (fun z2 => b100_30 (fun z3 => b100_38 hc e1 ?_) (fun z3 => b100_35 ?_))))))))))
    · rw [tf_0] at z
      rw [if_neg (by omega)] at hq
      exact hq
    · rw [tf_0] at z2
      rw [if_neg (by omega)] at hq
      exact hq
    · rw [tf_n0] at z z2
      rw [iZ_eq hp hr] at z3
      rw [if_pos (by omega)] at hq
      obtain ⟨p, rfl⟩ : ∃ m : Nat, p = m := ⟨p.toNat, by omega⟩
      obtain ⟨q, rfl⟩ : ∃ m : Nat, q = m := ⟨q.toNat, by omega⟩
      simp only [Int.toNat_natCast] at hq
      refine k53 hv (by omega) (by omega) ?_
      unfold likZ at hq ⊢
      cases hb : allB (likB (W i) p q) (2 ^ sz i) with
      | true =>
        rw [hb] at hq
        exact b100_45 (fun z => absurd z (by decide)) (fun _ => b100_48 hq)
      | false =>
        rw [hb] at hq
        exact b100_45 (fun _ => b100_52 hq) (fun z => absurd rfl z)
    · rw [iZ_eq hp hr] at z3
      rw [if_neg (by omega)] at hq
      exact hq
  · rw [if_neg hA] at hq
    exact en100 (b100_0 e5 (k114n hd ha hA (b100_5 hq)))
theorem j101 (hd : CD h c kd sz W A) (ha : i32 a) (hp : i32 p) (hy : i32 y) (hq : Q (some (.int (iZ (sPower c kd sz W a p y)))) h) : mCt mCd 101 [.ref 5, .int (iZ a), .int (iZ p), .int (iZ y)] h Q := by
  have e5 := hd.o
  unfold sPower at hq
  by_cases hA : 0 ≤ a ∧ a < c
  · rw [if_pos hA] at hq
    obtain ⟨i, rfl⟩ : ∃ m : Nat, a = m := ⟨a.toNat, by omega⟩
    have hi : i < c := by omega
    have hv := hd.cv hi
    have hkd := hd.2.2.1 i hi
    obtain ⟨ha30, hc, ⟨hn1, hn4⟩, hw, fd, f, e1, e2, hf⟩ := id hv
    simp only [Int.toNat_natCast] at hq
    refine en101 (b101_0 e5 (k114y hd hi (b101_5_1 hc e1 (k43 hv hp (b101_18 (fun z => b101_28 ?_) (fun z => b101_21 (k122 hy (b101_25 (fun z2 => b101_31 hc e1 (kd_sel _ hkd.1) (k_kind hkd.1 (b101_36 (fun z3 => ?_) (fun z3 => b101_40 ?_)))) (fun z2 => b101_28 ?_)))))))))
    · rw [tf_0] at z
      rw [if_neg (by omega)] at hq
      exact hq
    · rw [tf_n0] at z z2
      have z3 : iZ (kd i : Nat) = iZ 1 := z3
      rw [iZ_eq (by unfold i32; omega) (by unfold i32; omega)] at z3
      rw [if_pos (by omega), if_pos (by omega)] at hq
      obtain ⟨p, rfl⟩ : ∃ m : Nat, p = m := ⟨p.toNat, by omega⟩
      obtain ⟨y, rfl⟩ : ∃ m : Nat, y = m := ⟨y.toNat, by omega⟩
      simp only [Int.toNat_natCast] at hq
      have h01 := hkd.2.2 (by omega)
      refine b101_45 (fun z4 => b101_57 (b101_58 hc e1 (k58 (y := 0) hv h01 (by omega) (by decide) (b101_61 ?_)))) (fun z4 => b101_53 (b101_58 hc e1 (k58 (y := 1) hv h01 (by omega) (by decide) (b101_61 ?_))))
      · have z4 : ¬ iZ (y : Nat) = iZ 1 := z4
        rw [iZ_eq (by unfold i32; omega) (by unfold i32; omega)] at z4
        have : y = 0 := by omega
        rw [this] at hq
        exact hq
      · have z4 : ¬ ¬ iZ (y : Nat) = iZ 1 := z4
        rw [iZ_eq (by unfold i32; omega) (by unfold i32; omega)] at z4
        have : y = 1 := by omega
        rw [this] at hq
        exact hq
    · rw [tf_n0] at z z2
      have z3 : ¬ iZ (kd i : Nat) = iZ 1 := z3
      rw [iZ_eq (by unfold i32; omega) (by unfold i32; omega)] at z3
      rw [if_pos (by omega), if_neg (by omega)] at hq
      exact hq
    · rw [tf_n0] at z2
      rw [if_neg (by omega)] at hq
      exact hq
  · rw [if_neg hA] at hq
    exact en101 (b101_0 e5 (k114n hd ha hA (b101_5 hq)))
theorem j113 (hd : CD h c kd sz W A) (ha : i32 a) (hk : i32 k) (hq : Q (some (.int (iZ (sTaken c kd sz a k)))) h) : mCt mCd 113 [.ref 5, .int (iZ a), .int (iZ k)] h Q := by
  have e5 := hd.o
  unfold sTaken at hq
  refine en113 (b113_0 (fun z => b113_9 ?_) (fun z => b113_4 (fun z2 => b113_12 e5 ?_) (fun z2 => b113_9 ?_)))
  · simp (disch := (first | assumption | omega | (unfold i32; omega) | (unfold i64; omega))) only [iZ_add, iZ_sub, iZ_mul, iZ_neg, lZ_add, lZ_sub, lZ_mul, lZ_neg, lZ_i, iZ_l, iZ_nat, Int.toNat_natCast, iZ_bit, iZ_shl, iZ_or, iZ_lt, iZ_le, iZ_eq, iZ_lt0, iZ_le0, iZ_gt0, iZ_ge0, iZ_eq0, cmp_eq0, cmp_lt0, cmp_le0, cmp_ge0, cmp_gt0, tf_0, tf_n0, Decidable.not_not, not_true_eq_false, not_false_eq_true, Int.toNat_natCast, onat] at z
    rw [if_neg (by omega)] at hq
    exact hq
  · simp (disch := (first | assumption | omega | (unfold i32; omega) | (unfold i64; omega))) only [iZ_add, iZ_sub, iZ_mul, iZ_neg, lZ_add, lZ_sub, lZ_mul, lZ_neg, lZ_i, iZ_l, iZ_nat, Int.toNat_natCast, iZ_bit, iZ_shl, iZ_or, iZ_lt, iZ_le, iZ_eq, iZ_lt0, iZ_le0, iZ_gt0, iZ_ge0, iZ_eq0, cmp_eq0, cmp_lt0, cmp_le0, cmp_ge0, cmp_gt0, tf_0, tf_n0, Decidable.not_not, not_true_eq_false, not_false_eq_true, Int.toNat_natCast, onat] at z
    simp (disch := (first | assumption | omega | (unfold i32; omega) | (unfold i64; omega))) only [iZ_add, iZ_sub, iZ_mul, iZ_neg, lZ_add, lZ_sub, lZ_mul, lZ_neg, lZ_i, iZ_l, iZ_nat, Int.toNat_natCast, iZ_bit, iZ_shl, iZ_or, iZ_lt, iZ_le, iZ_eq, iZ_lt0, iZ_le0, iZ_gt0, iZ_ge0, iZ_eq0, cmp_eq0, cmp_lt0, cmp_le0, cmp_ge0, cmp_gt0, tf_0, tf_n0, Decidable.not_not, not_true_eq_false, not_false_eq_true, Int.toNat_natCast, onat] at z2
    rw [if_pos (by omega)] at hq
    by_cases hA : 0 ≤ a ∧ a < c
    · rw [if_pos hA] at hq
      obtain ⟨i, rfl⟩ : ∃ m : Nat, a = m := ⟨a.toNat, by omega⟩
      have hi : i < c := by omega
      have hv := hd.cv hi
      have hkd := hd.2.2.1 i hi
      obtain ⟨ha30, hc, ⟨hn1, hn4⟩, hw, fd, f, e1, e2, hf⟩ := id hv
      simp only [Int.toNat_natCast] at hq
      refine k114y hd hi (b113_17_1 (fun z3 => b113_37 hc e1 ?_) (fun z3 => b113_29 hc e1 (kd_sel _ hkd.1) (k_kind hkd.1 (b113_34 (fun z4 => b113_44 ?_) (fun z4 => b113_37 hc e1 ?_)))))
      · simp (disch := (first | assumption | omega | (unfold i32; omega) | (unfold i64; omega))) only [iZ_add, iZ_sub, iZ_mul, iZ_neg, lZ_add, lZ_sub, lZ_mul, lZ_neg, lZ_i, iZ_l, iZ_nat, Int.toNat_natCast, iZ_bit, iZ_shl, iZ_or, iZ_lt, iZ_le, iZ_eq, iZ_lt0, iZ_le0, iZ_gt0, iZ_ge0, iZ_eq0, cmp_eq0, cmp_lt0, cmp_le0, cmp_ge0, cmp_gt0, tf_0, tf_n0, Decidable.not_not, not_true_eq_false, not_false_eq_true, Int.toNat_natCast, onat] at z3
        rw [if_pos (by omega)] at hq
        exact hq
      · simp (disch := (first | assumption | omega | (unfold i32; omega) | (unfold i64; omega))) only [iZ_add, iZ_sub, iZ_mul, iZ_neg, lZ_add, lZ_sub, lZ_mul, lZ_neg, lZ_i, iZ_l, iZ_nat, Int.toNat_natCast, iZ_bit, iZ_shl, iZ_or, iZ_lt, iZ_le, iZ_eq, iZ_lt0, iZ_le0, iZ_gt0, iZ_ge0, iZ_eq0, cmp_eq0, cmp_lt0, cmp_le0, cmp_ge0, cmp_gt0, tf_0, tf_n0, Decidable.not_not, not_true_eq_false, not_false_eq_true, Int.toNat_natCast, onat] at z3
        rw [iZ_eq hk (by unfold i32; omega)] at z4
        rw [if_neg (by omega)] at hq
        exact hq
      · rw [iZ_eq hk (by unfold i32; omega)] at z4
        rw [if_pos (by omega)] at hq
        exact hq
    · rw [if_neg hA] at hq
      exact k114n hd ha hA (b113_17 hq)
  · simp (disch := (first | assumption | omega | (unfold i32; omega) | (unfold i64; omega))) only [iZ_add, iZ_sub, iZ_mul, iZ_neg, lZ_add, lZ_sub, lZ_mul, lZ_neg, lZ_i, iZ_l, iZ_nat, Int.toNat_natCast, iZ_bit, iZ_shl, iZ_or, iZ_lt, iZ_le, iZ_eq, iZ_lt0, iZ_le0, iZ_gt0, iZ_ge0, iZ_eq0, cmp_eq0, cmp_lt0, cmp_le0, cmp_ge0, cmp_gt0, tf_0, tf_n0, Decidable.not_not, not_true_eq_false, not_false_eq_true, Int.toNat_natCast, onat] at z2
    rw [if_neg (by omega)] at hq
    exact hq
end CD
