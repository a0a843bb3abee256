/-! ===== the class: sheets ===== -/

/-- sheet s at B s: its sort, its items -/
def S1 (h : mH) (b : Nat) (so : Int) (it : Nat) (im : Nat → Int) : Prop := 30 ≤ b ∧ h[b]? = some (oS b (iZ so)) ∧ ∃ f : Nat → Int64, h[b + 1]? = some (aL it f) ∧ ∀ k, k < it → f k = lZ (im k)
def CSh (h : mH) (so : Nat → Int) (it : Nat → Nat) (im : Nat → Nat → Int) (B : Nat → Nat) : Prop := (∀ s, s < 4 → (-1 ≤ so s ∧ so s ≤ 2) ∧ it s ≤ 40 ∧ ∀ k, i32 (im s k)) ∧ (∃ g : Nat → Option Nat, h[13]? = some (aR 3 4 g) ∧ ∀ s, s < 4 → (so s < 0 → g s = none) ∧ (0 ≤ so s → g s = some (B s) ∧ S1 h (B s) (so s) (it s) (im s))) ∧ ∀ s t, s < 4 → t < 4 → s ≠ t → 0 ≤ so s → 0 ≤ so t → B s + 2 ≤ B t ∨ B t + 2 ≤ B s
theorem b8_r (v : Int) : i32 (b8 v) := by
  have h1 := Int32.minValue_le_toInt ((iZ v).toInt8.toInt32)
  have h2 := Int32.toInt_lt ((iZ v).toInt8.toInt32)
  have h3 : Int32.minValue.toInt = -2147483648 := by decide +kernel
  unfold b8 i32
  omega
section CS
variable {h h' : mH} {Q : Option Value → mH → Prop} {i n c b N : Nat} {w : Nat → Int} {kd sz : Nat → Nat} {W : Nat → Nat → Int} {A : Nat → Nat} {so : Nat → Int} {it : Nat → Nat} {im : Nat → Nat → Int} {B : Nat → Nat} {a p s y k q u : Int} {m : Nat → Int}
theorem S1.eq {K : List Nat} (hs : S1 h b u N m) (hx : Eqx K h h') (h1 : b ∉ K) (h2 : b + 1 ∉ K) : S1 h' b u N m := by
  obtain ⟨hb, e1, f, e2, hf⟩ := hs
  exact ⟨hb, (hx.2 _ h1).trans e1, f, (hx.2 _ h2).trans e2, hf⟩
theorem k34 (hs : S1 h b u N m) (hN : N ≤ 40) {x y : Int} (hx : i32 x) (hy : i32 y) (hq : Q (some (.int (tf (0 ≤ x ∧ 0 ≤ y ∧ x ≤ N ∧ y ≤ N - x)))) h) : mCt mCd 34 [.ref b, .int (iZ x), .int (iZ y)] h Q := by
  obtain ⟨hb, e1, f, e2, hf⟩ := hs
  refine en34 (b34_0 (fun z => b34_32 ?_) (fun z => b34_4 (fun z2 => b34_32 ?_) (fun z2 => b34_8 e1 e2 (fun z3 => b34_32 ?_) (fun z3 => b34_17 e1 e2 (fun z4 => b34_32 ?_) (fun z4 => b34_28 ?_)))))
  · simp (disch := (first | assumption | omega | (unfold i32; omega) | (unfold i64; omega))) only [iZ_add, iZ_sub, iZ_mul, iZ_neg, lZ_add, lZ_sub, lZ_mul, lZ_neg, lZ_i, iZ_l, iZ_nat, Int.toNat_natCast, iZ_bit, iZ_shl, iZ_or, iZ_lt, iZ_le, iZ_eq, iZ_lt0, iZ_le0, iZ_gt0, iZ_ge0, iZ_eq0, cmp_eq0, cmp_lt0, cmp_le0, cmp_ge0, cmp_gt0, tf_0, tf_n0, Decidable.not_not, not_true_eq_false, not_false_eq_true, Int.toNat_natCast, onat] at z
    exact Qi (tf0 (by omega)) hq
  · simp (disch := (first | assumption | omega | (unfold i32; omega) | (unfold i64; omega))) only [iZ_add, iZ_sub, iZ_mul, iZ_neg, lZ_add, lZ_sub, lZ_mul, lZ_neg, lZ_i, iZ_l, iZ_nat, Int.toNat_natCast, iZ_bit, iZ_shl, iZ_or, iZ_lt, iZ_le, iZ_eq, iZ_lt0, iZ_le0, iZ_gt0, iZ_ge0, iZ_eq0, cmp_eq0, cmp_lt0, cmp_le0, cmp_ge0, cmp_gt0, tf_0, tf_n0, Decidable.not_not, not_true_eq_false, not_false_eq_true, Int.toNat_natCast, onat] at z2
    exact Qi (tf0 (by omega)) hq
  · rw [onat, iZ_lt (by unfold i32; omega) hx] at z3
    exact Qi (tf0 (by omega)) hq
  · simp (disch := (first | assumption | omega | (unfold i32; omega) | (unfold i64; omega))) only [iZ_add, iZ_sub, iZ_mul, iZ_neg, lZ_add, lZ_sub, lZ_mul, lZ_neg, lZ_i, iZ_l, iZ_nat, Int.toNat_natCast, iZ_bit, iZ_shl, iZ_or, iZ_lt, iZ_le, iZ_eq, iZ_lt0, iZ_le0, iZ_gt0, iZ_ge0, iZ_eq0, cmp_eq0, cmp_lt0, cmp_le0, cmp_ge0, cmp_gt0, tf_0, tf_n0, Decidable.not_not, not_true_eq_false, not_false_eq_true, Int.toNat_natCast, onat] at z
    rw [onat, iZ_lt (by unfold i32; omega) hx] at z3
    rw [onat, iZ_sub, iZ_lt (by unfold i32; omega) hy] at z4
    exact Qi (tf0 (by omega)) hq
  · simp (disch := (first | assumption | omega | (unfold i32; omega) | (unfold i64; omega))) only [iZ_add, iZ_sub, iZ_mul, iZ_neg, lZ_add, lZ_sub, lZ_mul, lZ_neg, lZ_i, iZ_l, iZ_nat, Int.toNat_natCast, iZ_bit, iZ_shl, iZ_or, iZ_lt, iZ_le, iZ_eq, iZ_lt0, iZ_le0, iZ_gt0, iZ_ge0, iZ_eq0, cmp_eq0, cmp_lt0, cmp_le0, cmp_ge0, cmp_gt0, tf_0, tf_n0, Decidable.not_not, not_true_eq_false, not_false_eq_true, Int.toNat_natCast, onat] at z
    simp (disch := (first | assumption | omega | (unfold i32; omega) | (unfold i64; omega))) only [iZ_add, iZ_sub, iZ_mul, iZ_neg, lZ_add, lZ_sub, lZ_mul, lZ_neg, lZ_i, iZ_l, iZ_nat, Int.toNat_natCast, iZ_bit, iZ_shl, iZ_or, iZ_lt, iZ_le, iZ_eq, iZ_lt0, iZ_le0, iZ_gt0, iZ_ge0, iZ_eq0, cmp_eq0, cmp_lt0, cmp_le0, cmp_ge0, cmp_gt0, tf_0, tf_n0, Decidable.not_not, not_true_eq_false, not_false_eq_true, Int.toNat_natCast, onat] at z2
    rw [onat, iZ_lt (by unfold i32; omega) hx] at z3
    rw [onat, iZ_sub, iZ_lt (by unfold i32; omega) hy] at z4
    exact Qi (tf1 (by omega)) hq
theorem k35 (hs : S1 h b u N m) (hN : N ≤ 40) {x : Nat} (hx : x < N) (hq : Q (some (.long (lZ (m x)))) h) : mCt mCd 35 [.ref b, .int (iZ x)] h Q := by
  have hs0 := hs
  obtain ⟨hb, e1, f, e2, hf⟩ := hs
  refine en35 (b35_0 e1 (k34 (y := 1) hs0 hN (by unfold i32; omega) (by unfold i32; omega) (b35_6 (fun z => ?_) (fun _ => b35_9 e1 e2 (inZ hx (by omega)) ?_))))
  · rw [tf_0] at z
    omega
  · rw [tnZ hx (by omega), hf x hx]
    exact hq
theorem k36 (hs : S1 h b u N m) (hu : 0 ≤ u ∧ u ≤ 2) (hN : N ≤ 40) {x : Nat} {v : Int} (hv : i32 v) (hx : x < N) (hq : ∀ h', Eqx [b + 1] h h' → S1 h' b u N (set1 m x (if u = 0 then b8 v else v)) → Q none h') : mCt mCd 36 [.ref b, .int (iZ x), .int (iZ v)] h Q := by
  have hs0 := hs
  obtain ⟨hb, e1, f, e2, hf⟩ := hs
  have fin : ∀ y : Int, y = (if u = 0 then b8 v else v) → Q none (h.set (b + 1) (aL N (vp_updL f x (lZ y)))) := by
    intro y hy
    refine hq _ ((Eqx.rf _ _).st _ (by simp)) ⟨hb, mGn (by omega) e1, _, mGs e2, fun k hk => ?_⟩
    unfold set1
    by_cases e : k = x
    · rw [if_pos e, e, upd_e, hy]
    · rw [if_neg e, upd_n _ _ e]; exact hf k hk
  refine en36 (b36_0 e1 (k34 (y := 1) hs0 hN (by unfold i32; omega) (by unfold i32; omega) (b36_6 (fun z => ?_) (fun _ => b36_9 e1 (fun z => b36_27 e2 (inZ hx (by omega)) (by omega) ?_) (fun z => b36_21 e2 (inZ hx (by omega)) (by omega) ?_)))))
  · rw [tf_0] at z
    omega
  · rw [iZ_eq0 (by unfold i32; omega)] at z
    rw [tnZ hx (by omega), iZ_l hv]
    exact fin v (by rw [if_neg z])
  · rw [iZ_eq0 (by unfold i32; omega), Decidable.not_not] at z
    rw [tnZ hx (by omega)]
    have e : (iZ v).toInt8.toInt32.toInt64 = lZ (b8 v) := by
      have e1 : (iZ v).toInt8.toInt32 = iZ (b8 v) := (Int32.ofInt_toInt _).symm
      rw [e1, iZ_l (b8_r v)]
    rw [e]
    exact fin (b8 v) (by rw [if_pos z])
theorem CSh.s1 (hs : CSh h so it im B) {s : Nat} (h4 : s < 4) (h0 : 0 ≤ so s) : S1 h (B s) (so s) (it s) (im s) := by
  obtain ⟨_, ⟨g, _, hg⟩, _⟩ := hs
  exact ((hg s h4).2 h0).2
theorem CSh.eqx {K : List Nat} (hs : CSh h so it im B) (hx : Eqx K h h') (h13 : 13 ∉ K) (hk : ∀ s, s < 4 → 0 ≤ so s → B s ∉ K ∧ B s + 1 ∉ K) : CSh h' so it im B := by
  obtain ⟨hb, ⟨g, g1, hg⟩, hd⟩ := hs
  refine ⟨hb, ⟨g, (hx.2 13 h13).trans g1, fun s h4 => ⟨(hg s h4).1, fun h0 => ⟨((hg s h4).2 h0).1, ?_⟩⟩⟩, hd⟩
  exact ((hg s h4).2 h0).2.eq hx (hk s h4 h0).1 (hk s h4 h0).2
/-- one sheet's items changed -/
theorem CSh.put (hs : CSh h so it im B) {s : Nat} (h4 : s < 4) (h0 : 0 ≤ so s) {m : Nat → Int} (hm : ∀ k, i32 (m k)) (hx : Eqx [B s + 1] h h') (h1 : S1 h' (B s) (so s) (it s) m) : CSh h' so it (set1 im s m) B := by
  obtain ⟨hb, ⟨g, g1, hg⟩, hd⟩ := hs
  have hB := h1.1
  refine ⟨fun t ht => ⟨(hb t ht).1, (hb t ht).2.1, fun k => ?_⟩, ⟨g, (hx.2 13 (by simp; omega)).trans g1, fun t ht => ⟨(hg t ht).1, fun h0' => ⟨((hg t ht).2 h0').1, ?_⟩⟩⟩, hd⟩
  · unfold set1
    split
    · exact hm k
    · exact (hb t ht).2.2 k
  · by_cases e : t = s
    · subst e
      rw [set1_e]
      exact h1
    · rw [set1_n _ _ e]
      have := hd t s ht h4 e h0' h0
      exact ((hg t ht).2 h0').2.eq hx (by simp; omega) (by simp; omega)
theorem j110 (hd : CD h c kd sz W A) (hs : CSh h so it im B) {v : Int} (ha : i32 a) (hi : i32 y) (hv : i32 v) (hq : ∀ h', (h' = h ∨ ∃ s, s < 4 ∧ 0 ≤ so s ∧ Eqx [B s + 1] h h') → CSh h' so it (sCellM so it im a y v) B → Q (some (.int (iZ (sCell so it a y)))) h') : mCt mCd 110 [.ref 5, .int (iZ a), .int (iZ y), .int (iZ v)] h Q := by
  have e5 := hd.o
  have hs0 := hs
  obtain ⟨hb, ⟨g, g1, hg⟩, _⟩ := hs
  unfold sCellM at hq
  have hq0 : sCell so it a y ≠ 1 → Q (some (.int (iZ (sCell so it a y)))) h := by
    intro hne
    rw [if_neg hne] at hq
    exact hq h (Or.inl rfl) hs0
  unfold sCell at hq hq0
  refine en110 (b110_0 e5 (k123 ha e5 g1 (b110_5 (fun z => ?_) (fun z => b110_8 ?_))))
  · rw [tf_n0] at z
    simp only [if_pos z] at hq hq0
    obtain ⟨s, rfl⟩ : ∃ m : Nat, a = m := ⟨a.toNat, by omega⟩
    simp only [Int.toNat_natCast] at hq hq0
    have h4 : s < 4 := by omega
    have hg4 := hg s h4
    have hb4 := hb s h4
    by_cases h0 : so s < 0
    · rw [if_pos h0] at hq0
      exact b110_11n e5 g1 (inZ h4 (by decide)) (by rw [tnZ h4 (by decide)]; exact hg4.1 h0) (hq0 (by decide))
    · simp only [if_neg h0] at hq hq0
      obtain ⟨k1, k2⟩ := hg4.2 (by omega)
      have k20 := k2
      obtain ⟨hB, d1, _⟩ := k2
      refine b110_11r e5 g1 (inZ h4 (by decide)) (by rw [tnZ h4 (by decide)]; exact k1) d1 (k34 (y := 1) k20 hb4.2.1 hi (by unfold i32; omega) (b110_34 (fun z2 => b110_40 d1 ?_) (fun z2 => b110_37 ?_)))
      · rw [tf_n0] at z2
        have hin : 0 ≤ y ∧ y < it s := by omega
        simp only [if_pos hin, if_true] at hq
        obtain ⟨x, rfl⟩ : ∃ m : Nat, y = m := ⟨y.toNat, by omega⟩
        simp only [Int.toNat_natCast] at hq
        refine k36 k20 ⟨by omega, hb4.1.2⟩ hb4.2.1 hv (by omega) (fun h1 hx1 s1 => b110_47 (hq h1 (Or.inr ⟨s, h4, by omega, hx1⟩) (hs0.put h4 (by omega) (fun k => ?_) hx1 s1)))
        unfold set1
        split
        · split
          · exact b8_r v
          · exact hv
        · exact hb4.2.2 k
      · rw [tf_n0] at z2
        rw [if_neg (by omega)] at hq0
        exact hq0 (by decide)
  · rw [tf_n0] at z
    rw [if_neg z] at hq0
    exact hq0 (by decide)
end CS
