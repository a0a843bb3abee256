/-! ===== the class: asks that use a venture's own cells ===== -/

theorem bv_b {y : Int} {L : List (Nat → Int)} {p : Nat} (hb : ∀ c, c < L.length → ∀ i, bd 400000000 (L.getD c o0 i)) : ∀ k, k < L.length → bd 400000000 (bv y L p k)
  | 0, hk => hb 0 hk p
  | k + 1, hk => by
    have q1 := bv_b (y := y) (p := p) hb k (by omega)
    have q2 := hb (k + 1) hk p
    show bd 400000000 (upE y (bv y L p k) (L.getD (k + 1) o0 p))
    unfold upE
    split
    · split <;> assumption
    · split <;> assumption
section CD
variable {h h' : mH} {Q : Option Value → mH → Prop} {i n c : Nat} {kd sz : Nat → Nat} {W : Nat → Nat → Int} {A : Nat → Nat} {a p s y k q : Int}
theorem CX.p2 {a ci num n : Nat} {w : Nat → Int} (hv : CX h a ci num n w) (hx : Eqx [a + 2] h h') {g : Nat → Int32} (e : h'[a + 2]? = some (aI 4 g)) : CX h' a ci num n w := by
  obtain ⟨cv, hw0, ⟨cc, tw, g1, gp, lo, hi, gi, z1, z2, z3, z4, z5, z6⟩, ⟨g2, f2⟩, fd, e1, hor⟩ := hv
  have f : ∀ j, j ≠ 2 → h'[a + j]? = h[a + j]? := fun j hj => hx.2 _ (by simp; omega)
  refine ⟨cv.eq hx (by simp) (by simp), hw0, ⟨cc, tw, g1, gp, lo, hi, gi, (f 3 (by omega)).trans z1, (f 4 (by omega)).trans z2, (f 5 (by omega)).trans z3, (f 6 (by omega)).trans z4, (f 7 (by omega)).trans z5, (f 8 (by omega)).trans z6⟩, ⟨g, e⟩, fd, (f 0 (by omega)).trans e1, hor.imp id ?_⟩
  rintro ⟨tw, kl⟩
  exact ⟨tw, kl.eq hx (by simp <;> omega) (by simp <;> omega)⟩
theorem j93 (hd : CD h c kd sz W A) (ha : i32 a) (hy : i32 y) (hs : i32 s) (hk : i32 k) (hq : ∀ h', CD h' c kd sz W A → AskC c A h h' → Q (some (.long (lZ (sLacks c sz W a y s k)))) h') : mCt mCd 93 [.ref 5, .int (iZ a), .int (iZ y), .int (iZ s), .int (iZ k)] h Q := by
  have e5 := hd.o
  have hq0 := hq h hd (AskC.rf h)
  unfold sLacks at hq hq0
  by_cases hA : 0 ≤ a ∧ a < c
  · simp only [if_pos hA] at hq hq0
    obtain ⟨i, rfl⟩ : ∃ m : Nat, a = m := ⟨a.toNat, by omega⟩
    have hi : i < c := by omega
    have hcx := hd.cx hi
    have hv := hd.cv hi
    obtain ⟨ha30, hc, ⟨hn1, hn4⟩, hw, fd, f, e1, e2, hf⟩ := id hv
    simp only [Int.toNat_natCast] at hq hq0
    have hal := al_lt hn4
    refine en93 (b93_0 e5 (k114y hd hi (b93_5_1 (k122 hy (b93_16 (fun z => b93_28 ?_) (fun z => b93_19 hc e1 (k45 hv hs (b93_25 (fun z2 => b93_32 hc e1 ?_) (fun z2 => b93_28 ?_)))))))))
    · rw [tf_0] at z
      rw [if_neg (by omega)] at hq0
      exact hq0
    · rw [tf_n0] at z z2
      obtain ⟨y, rfl⟩ : ∃ m : Nat, y = m := ⟨y.toNat, by omega⟩
      obtain ⟨s, rfl⟩ : ∃ m : Nat, s = m := ⟨s.toNat, by omega⟩
      simp only [Int.toNat_natCast] at hq
      have hb := belowZ_b (way := y) hn1 hn4
      have hg := lacksZ_b hw (way := y) (s := s) hn1 hn4
      obtain ⟨g0, f2⟩ := hcx.2.2.2.1
      refine k63 hv f2 (by omega) (by omega) (fun h1 g hx1 g1 => b93_39 hc ((hx1.2 _ (by simp)).trans e1) (k59 (hv.eq hx1 (by simp) (by simp)) (by omega) (b93_46 ?_)))
      obtain ⟨hd1, ask⟩ := hd.ask hi (hx1.mo (fun x m => by rw [K9_in]; have := List.mem_singleton.mp m; omega)) (hcx.p2 hx1 g1)
      rw [iZ_l (by unfold bd at hg; unfold i32; omega), iZ_l (by unfold i32; omega)]
      refine k134 (by unfold bd at *; omega) (by unfold bd; omega) (by omega) hk (b93_52 (Ql ?_ (hq h1 hd1 ask)))
      congr 1
      by_cases q : 0 ≤ k ∧ k ≤ 1
      · rw [if_pos q, if_pos (by omega)]
      · rw [if_neg q, if_neg (by omega)]
    · rw [tf_n0] at z2
      rw [if_neg (by omega)] at hq0
      exact hq0
  · rw [if_neg hA] at hq0
    exact en93 (b93_0 e5 (k114n hd ha hA (b93_5 hq0)))
theorem j94 (hd : CD h c kd sz W A) (ha : i32 a) (hy : i32 y) (hq : ∀ h', CD h' c kd sz W A → AskC c A h h' → Q (some (.int (iZ (sWorst c sz W a y)))) h') : mCt mCd 94 [.ref 5, .int (iZ a), .int (iZ y)] h Q := by
  have e5 := hd.o
  have hq0 := hq h hd (AskC.rf h)
  unfold sWorst at hq hq0
  by_cases hA : 0 ≤ a ∧ a < c
  · simp only [if_pos hA] at hq hq0
    obtain ⟨i, rfl⟩ : ∃ m : Nat, a = m := ⟨a.toNat, by omega⟩
    have hi : i < c := by omega
    have hcx := hd.cx hi
    have hv := hd.cv hi
    obtain ⟨ha30, hc, ⟨hn1, hn4⟩, hw, fd, f, e1, e2, hf⟩ := id hv
    simp only [Int.toNat_natCast] at hq hq0
    refine en94 (b94_0 e5 (k114y hd hi (b94_5_1 (k122 hy (b94_14 (fun z => b94_22 hc e1 ?_) (fun z => b94_17 ?_))))))
    · rw [tf_n0] at z
      simp only [if_pos z] at hq
      obtain ⟨y, rfl⟩ : ∃ m : Nat, y = m := ⟨y.toNat, by omega⟩
      simp only [Int.toNat_natCast] at hq
      obtain ⟨g0, f2⟩ := hcx.2.2.2.1
      refine k66 hv f2 (by omega) (fun h1 g hx1 g1 => b94_27 ?_)
      obtain ⟨hd1, ask⟩ := hd.ask hi (hx1.mo (fun x m => by rw [K9_in]; have := List.mem_singleton.mp m; omega)) (hcx.p2 hx1 g1)
      exact hq h1 hd1 ask
    · rw [tf_n0] at z
      rw [if_neg z] at hq0
      exact hq0
  · rw [if_neg hA] at hq0
    exact en94 (b94_0 e5 (k114n hd ha hA (b94_5 hq0)))
theorem j95 (hd : CD h c kd sz W A) (ha : i32 a) (hs : i32 s) (hp : i32 p) (hk : i32 k) (hq : ∀ h', CD h' c kd sz W A → AskC c A h h' → Q (some (.long (lZ (sCorner c sz W a s p k)))) h') : mCt mCd 95 [.ref 5, .int (iZ a), .int (iZ s), .int (iZ p), .int (iZ k)] h Q := by
  have e5 := hd.o
  have hq0 := hq h hd (AskC.rf h)
  unfold sCorner at hq hq0
  by_cases hA : 0 ≤ a ∧ a < c
  · simp only [if_pos hA] at hq hq0
    obtain ⟨i, rfl⟩ : ∃ m : Nat, a = m := ⟨a.toNat, by omega⟩
    have hi : i < c := by omega
    have hcx := hd.cx hi
    have hv := hd.cv hi
    obtain ⟨ha30, hc, ⟨hn1, hn4⟩, hw, fd, f, e1, e2, hf⟩ := id hv
    simp only [Int.toNat_natCast] at hq hq0
    have h24 := corL_24 hn1 hn4 hcx.2.1
    refine en95 (b95_0 e5 (k114y hd hi (b95_5_1 hc e1 (k43 hv hp (b95_18 (fun z => b95_25 hc e1 (k49 hcx (fun h1 tw hx1 cx1 kl => ?_))) (fun z => b95_21 ?_))))))
    · rw [tf_n0] at z
      obtain ⟨hd1, ask⟩ := hd.ask hi hx1 cx1
      have hq1 := hq h1 hd1 ask
      obtain ⟨_, hb, g, k1', k2', hg⟩ := id kl
      refine b95_30 (fun z2 => b95_45 ?_) (fun z2 => b95_36 k1' (fun z3 => b95_49 k1' ?_) (fun z3 => b95_45 ?_))
      · simp (disch := (first | assumption | omega | (unfold i32; omega) | (unfold i64; omega))) only [iZ_add, iZ_sub, iZ_mul, iZ_neg, lZ_add, lZ_sub, lZ_mul, lZ_neg, lZ_i, iZ_l, iZ_nat, Int.toNat_natCast, iZ_bit, iZ_shl, iZ_or, iZ_lt, iZ_le, iZ_eq, iZ_lt0, iZ_le0, iZ_gt0, iZ_ge0, iZ_eq0, cmp_eq0, cmp_lt0, cmp_le0, cmp_ge0, cmp_gt0, tf_0, tf_n0, Decidable.not_not, not_true_eq_false, not_false_eq_true, Int.toNat_natCast, onat] at z2
        rw [if_neg (by omega)] at hq1
        exact hq1
      · simp (disch := (first | assumption | omega | (unfold i32; omega) | (unfold i64; omega))) only [iZ_add, iZ_sub, iZ_mul, iZ_neg, lZ_add, lZ_sub, lZ_mul, lZ_neg, lZ_i, iZ_l, iZ_nat, Int.toNat_natCast, iZ_bit, iZ_shl, iZ_or, iZ_lt, iZ_le, iZ_eq, iZ_lt0, iZ_le0, iZ_gt0, iZ_ge0, iZ_eq0, cmp_eq0, cmp_lt0, cmp_le0, cmp_ge0, cmp_gt0, tf_0, tf_n0, Decidable.not_not, not_true_eq_false, not_false_eq_true, Int.toNat_natCast, onat] at z2
        simp (disch := (first | assumption | omega | (unfold i32; omega) | (unfold i64; omega))) only [iZ_add, iZ_sub, iZ_mul, iZ_neg, lZ_add, lZ_sub, lZ_mul, lZ_neg, lZ_i, iZ_l, iZ_nat, Int.toNat_natCast, iZ_bit, iZ_shl, iZ_or, iZ_lt, iZ_le, iZ_eq, iZ_lt0, iZ_le0, iZ_gt0, iZ_ge0, iZ_eq0, cmp_eq0, cmp_lt0, cmp_le0, cmp_ge0, cmp_gt0, tf_0, tf_n0, Decidable.not_not, not_true_eq_false, not_false_eq_true, Int.toNat_natCast, onat] at z3
        obtain ⟨s, rfl⟩ : ∃ m : Nat, s = m := ⟨s.toNat, by omega⟩
        obtain ⟨p, rfl⟩ : ∃ m : Nat, p = m := ⟨p.toNat, by omega⟩
        simp only [Int.toNat_natCast] at hq1
        have hbb := hb s (by omega) p
        refine k1 k1' k2' (by omega) (by omega) (b95_56 ?_)
        rw [hg s (by omega) p (by omega), iZ_l (by unfold bd at hbb; unfold i32; omega)]
        refine k134 (by unfold bd at *; omega) (by unfold bd; omega) (by omega) hk (b95_65 (Ql ?_ hq1))
        congr 1
        by_cases q : 0 ≤ k ∧ k ≤ 1
        · rw [if_pos q, if_pos (by omega), if_pos (by omega)]
        · rw [if_neg q, if_neg (by omega)]
      · simp (disch := (first | assumption | omega | (unfold i32; omega) | (unfold i64; omega))) only [iZ_add, iZ_sub, iZ_mul, iZ_neg, lZ_add, lZ_sub, lZ_mul, lZ_neg, lZ_i, iZ_l, iZ_nat, Int.toNat_natCast, iZ_bit, iZ_shl, iZ_or, iZ_lt, iZ_le, iZ_eq, iZ_lt0, iZ_le0, iZ_gt0, iZ_ge0, iZ_eq0, cmp_eq0, cmp_lt0, cmp_le0, cmp_ge0, cmp_gt0, tf_0, tf_n0, Decidable.not_not, not_true_eq_false, not_false_eq_true, Int.toNat_natCast, onat] at z2
        simp (disch := (first | assumption | omega | (unfold i32; omega) | (unfold i64; omega))) only [iZ_add, iZ_sub, iZ_mul, iZ_neg, lZ_add, lZ_sub, lZ_mul, lZ_neg, lZ_i, iZ_l, iZ_nat, Int.toNat_natCast, iZ_bit, iZ_shl, iZ_or, iZ_lt, iZ_le, iZ_eq, iZ_lt0, iZ_le0, iZ_gt0, iZ_ge0, iZ_eq0, cmp_eq0, cmp_lt0, cmp_le0, cmp_ge0, cmp_gt0, tf_0, tf_n0, Decidable.not_not, not_true_eq_false, not_false_eq_true, Int.toNat_natCast, onat] at z3
        by_cases q : 0 ≤ s ∧ (0 ≤ p ∧ p < sz i) ∧ 0 ≤ k ∧ k ≤ 1
        · rw [if_pos q, if_neg (by omega)] at hq1
          exact hq1
        · rw [if_neg q] at hq1
          exact hq1
    · rw [tf_n0] at z
      rw [if_neg (by omega)] at hq0
      exact hq0
  · rw [if_neg hA] at hq0
    exact en95 (b95_0 e5 (k114n hd ha hA (b95_5 hq0)))
theorem j96 (hd : CD h c kd sz W A) (ha : i32 a) (hp : i32 p) (hy : i32 y) (hk : i32 k) (hq : ∀ h', CD h' c kd sz W A → AskC c A h h' → Q (some (.long (lZ (sSpread c sz W a p y k)))) h') : mCt mCd 96 [.ref 5, .int (iZ a), .int (iZ p), .int (iZ y), .int (iZ k)] h Q := by
  have e5 := hd.o
  have hq0 := hq h hd (AskC.rf h)
  unfold sSpread at hq hq0
  by_cases hA : 0 ≤ a ∧ a < c
  · simp only [if_pos hA] at hq hq0
    obtain ⟨i, rfl⟩ : ∃ m : Nat, a = m := ⟨a.toNat, by omega⟩
    have hi : i < c := by omega
    have hcx := hd.cx hi
    have hv := hd.cv hi
    obtain ⟨ha30, hc, ⟨hn1, hn4⟩, hw, fd, f, e1, e2, hf⟩ := id hv
    simp only [Int.toNat_natCast] at hq hq0
    have h24 := corL_24 hn1 hn4 hcx.2.1
    refine en96 (b96_0 e5 (k114y hd hi (b96_5_1 hc e1 (k43 hv hp (b96_18 (fun z => b96_28 ?_) (fun z => b96_21 (k122 hy (b96_25 (fun z2 => b96_32 hc e1 (k49 hcx (fun h1 tw hx1 cx1 kl => ?_))) (fun z2 => b96_28 ?_)))))))))
    · rw [tf_0] at z
      rw [if_neg (by omega)] at hq0
      exact hq0
    · rw [tf_n0] at z z2
      obtain ⟨hd1, ask⟩ := hd.ask hi hx1 cx1
      have hq1 := hq h1 hd1 ask
      have kl0 := kl
      obtain ⟨_, hb, g, k1', k2', hg⟩ := kl
      obtain ⟨p, rfl⟩ : ∃ m : Nat, p = m := ⟨p.toNat, by omega⟩
      simp only [Int.toNat_natCast] at hq1
      refine b96_37 k1' (fun z3 => b96_51 (fun z4 => b96_63 (b96_64 k1' ?_)) (fun z4 => b96_59 (b96_64 k1' ?_))) (fun z3 => b96_47 ?_)
      · simp (disch := (first | assumption | omega | (unfold i32; omega) | (unfold i64; omega))) only [iZ_add, iZ_sub, iZ_mul, iZ_neg, lZ_add, lZ_sub, lZ_mul, lZ_neg, lZ_i, iZ_l, iZ_nat, Int.toNat_natCast, iZ_bit, iZ_shl, iZ_or, iZ_lt, iZ_le, iZ_eq, iZ_lt0, iZ_le0, iZ_gt0, iZ_ge0, iZ_eq0, cmp_eq0, cmp_lt0, cmp_le0, cmp_ge0, cmp_gt0, tf_0, tf_n0, Decidable.not_not, not_true_eq_false, not_false_eq_true, Int.toNat_natCast, onat] at z3
        have z4 : ¬ iZ y = iZ 1 := z4
        rw [iZ_eq hy (by unfold i32; omega)] at z4
        have hy0 : y = ((0 : Nat) : Int) := by omega
        refine k2 (y := 0) kl0 (by omega) h24 (by omega) (by decide) (b96_67 ?_)
        have hbv := bv_b (y := ((0 : Nat) : Int)) (p := p) hb ((corL (sz i) (W i)).length - 1) (by omega)
        rw [iZ_l (by unfold bd at hbv; unfold i32; omega)]
        refine k134 (by unfold bd at *; omega) (by unfold bd; omega) (by omega) hk (b96_76 (Ql ?_ hq1))
        congr 1
        rw [hy0]
        by_cases q : 0 ≤ k ∧ k ≤ 1
        · rw [if_pos q, if_pos (by omega), if_neg (by omega)]
        · rw [if_neg q, if_neg (by omega)]
      · simp (disch := (first | assumption | omega | (unfold i32; omega) | (unfold i64; omega))) only [iZ_add, iZ_sub, iZ_mul, iZ_neg, lZ_add, lZ_sub, lZ_mul, lZ_neg, lZ_i, iZ_l, iZ_nat, Int.toNat_natCast, iZ_bit, iZ_shl, iZ_or, iZ_lt, iZ_le, iZ_eq, iZ_lt0, iZ_le0, iZ_gt0, iZ_ge0, iZ_eq0, cmp_eq0, cmp_lt0, cmp_le0, cmp_ge0, cmp_gt0, tf_0, tf_n0, Decidable.not_not, not_true_eq_false, not_false_eq_true, Int.toNat_natCast, onat] at z3
        have z4 : ¬ ¬ iZ y = iZ 1 := z4
        rw [iZ_eq hy (by unfold i32; omega)] at z4
        have hy0 : y = ((1 : Nat) : Int) := by omega
        refine k2 (y := 1) kl0 (by omega) h24 (by omega) (by decide) (b96_67 ?_)
        have hbv := bv_b (y := ((1 : Nat) : Int)) (p := p) hb ((corL (sz i) (W i)).length - 1) (by omega)
        rw [iZ_l (by unfold bd at hbv; unfold i32; omega)]
        refine k134 (by unfold bd at *; omega) (by unfold bd; omega) (by omega) hk (b96_76 (Ql ?_ hq1))
        congr 1
        rw [hy0]
        by_cases q : 0 ≤ k ∧ k ≤ 1
        · rw [if_pos q, if_pos (by omega), if_neg (by omega)]
        · rw [if_neg q, if_neg (by omega)]
      · simp (disch := (first | assumption | omega | (unfold i32; omega) | (unfold i64; omega))) only [iZ_add, iZ_sub, iZ_mul, iZ_neg, lZ_add, lZ_sub, lZ_mul, lZ_neg, lZ_i, iZ_l, iZ_nat, Int.toNat_natCast, iZ_bit, iZ_shl, iZ_or, iZ_lt, iZ_le, iZ_eq, iZ_lt0, iZ_le0, iZ_gt0, iZ_ge0, iZ_eq0, cmp_eq0, cmp_lt0, cmp_le0, cmp_ge0, cmp_gt0, tf_0, tf_n0, Decidable.not_not, not_true_eq_false, not_false_eq_true, Int.toNat_natCast, onat] at z3
        by_cases q : (0 ≤ (p : Int) ∧ (p : Int) < sz i) ∧ (0 ≤ y ∧ y ≤ 1) ∧ 0 ≤ k ∧ k ≤ 1
        · rw [if_pos q, if_pos (by omega)] at hq1
          exact hq1
        · rw [if_neg q] at hq1
          exact hq1
    · rw [tf_n0] at z2
      rw [if_neg (by omega)] at hq0
      exact hq0
  · rw [if_neg hA] at hq0
    exact en96 (b96_0 e5 (k114n hd ha hA (b96_5 hq0)))
theorem j89 (hd : CD h c kd sz W A) (ha : i32 a) (hk : i32 k) (hq : ∀ h', CD h' c kd sz W A → AskC c A h h' → Q (some (.int (iZ (sTold c kd sz W a k)))) h') : mCt mCd 89 [.ref 5, .int (iZ a), .int (iZ k)] h Q := by
  have e5 := hd.o
  have hq0 := hq h hd (AskC.rf h)
  unfold sTold at hq hq0
  by_cases hA : 0 ≤ a ∧ a < c
  · simp only [if_pos hA] at hq hq0
    obtain ⟨i, rfl⟩ : ∃ m : Nat, a = m := ⟨a.toNat, by omega⟩
    have hi : i < c := by omega
    have hcx := hd.cx hi
    have hv := hd.cv hi
    have hkd := hd.2.2.1 i hi
    obtain ⟨ha30, hc, ⟨hn1, hn4⟩, hw, fd, f, e1, e2, hf⟩ := id hv
    simp only [Int.toNat_natCast] at hq hq0
    have h24 := corL_24 hn1 hn4 hcx.2.1
    have hwz := whereZ_b (w := W i) hn4
    have hki : (iZ k).toInt = k := iZ_toInt hk
    refine en89 (b89_0 e5 (k114y hd hi (b89_5_1 (fun z => b89_114 ?_) (fun z => ?_))))
    · rw [hki] at z
      rw [if_neg (by omega)] at hq0
      exact hq0
    · rw [hki] at z ⊢
      have hB : 0 ≤ k ∧ k ≤ 6 := by omega
      simp only [if_pos hB] at hq hq0
      have : k = 0 ∨ k = 1 ∨ k = 2 ∨ k = 3 ∨ k = 4 ∨ k = 5 ∨ k = 6 := by omega
      rcases this with e | e | e | e | e | e | e <;> subst e
      · exact ⟨56, rfl, b89_56 hc e1 (kd_sel _ hkd.1) (k_kind hkd.1 (b89_60 hq0))⟩
      · exact ⟨61, rfl, b89_61 hc e1 hq0⟩
      · refine ⟨66, rfl, b89_66 hc e1 (k49 hcx (fun h1 tw hx1 cx1 kl => ?_))⟩
        obtain ⟨hd1, ask⟩ := hd.ask hi hx1 cx1
        have hq1 := hq h1 hd1 ask
        obtain ⟨_, _, g, k1', _, _⟩ := kl
        rw [if_neg (by decide), if_neg (by decide), if_pos rfl] at hq1
        refine b89_70 k1' (fun z2 => b89_80 ?_) (fun z2 => b89_76 ?_)
        · simp (disch := (first | assumption | omega | (unfold i32; omega) | (unfold i64; omega))) only [iZ_add, iZ_sub, iZ_mul, iZ_neg, lZ_add, lZ_sub, lZ_mul, lZ_neg, lZ_i, iZ_l, iZ_nat, Int.toNat_natCast, iZ_bit, iZ_shl, iZ_or, iZ_lt, iZ_le, iZ_eq, iZ_lt0, iZ_le0, iZ_gt0, iZ_ge0, iZ_eq0, cmp_eq0, cmp_lt0, cmp_le0, cmp_ge0, cmp_gt0, tf_0, tf_n0, Decidable.not_not, not_true_eq_false, not_false_eq_true, Int.toNat_natCast, onat] at z2
          rw [if_pos (by omega)] at hq1
          exact hq1
        · simp (disch := (first | assumption | omega | (unfold i32; omega) | (unfold i64; omega))) only [iZ_add, iZ_sub, iZ_mul, iZ_neg, lZ_add, lZ_sub, lZ_mul, lZ_neg, lZ_i, iZ_l, iZ_nat, Int.toNat_natCast, iZ_bit, iZ_shl, iZ_or, iZ_lt, iZ_le, iZ_eq, iZ_lt0, iZ_le0, iZ_gt0, iZ_ge0, iZ_eq0, cmp_eq0, cmp_lt0, cmp_le0, cmp_ge0, cmp_gt0, tf_0, tf_n0, Decidable.not_not, not_true_eq_false, not_false_eq_true, Int.toNat_natCast, onat] at z2
          rw [if_neg (by omega)] at hq1
          exact hq1
      · refine ⟨82, rfl, b89_82 hc e1 (k49 hcx (fun h1 tw hx1 cx1 kl => ?_))⟩
        obtain ⟨hd1, ask⟩ := hd.ask hi hx1 cx1
        have hq1 := hq h1 hd1 ask
        obtain ⟨_, _, g, k1', _, _⟩ := kl
        exact b89_86 k1' hq1
      · refine ⟨90, rfl, b89_90 hc e1 (k55 hv (b89_94 (fun z2 => b89_102 ?_) (fun z2 => b89_98 ?_)))⟩
        · rw [iZ_eq (by unfold i32; omega) (by unfold i32; omega)] at z2
          rw [if_neg (by decide), if_neg (by decide), if_neg (by decide), if_neg (by decide), if_pos rfl, if_neg z2] at hq0
          exact hq0
        · rw [iZ_eq (by unfold i32; omega) (by unfold i32; omega), Decidable.not_not] at z2
          rw [if_neg (by decide), if_neg (by decide), if_neg (by decide), if_neg (by decide), if_pos rfl, if_pos z2] at hq0
          exact hq0
      · exact ⟨104, rfl, b89_104 hc e1 (k51 hv (b89_108 hq0))⟩
      · exact ⟨109, rfl, b89_109 hc e1 (k54 hv (b89_113 hq0))⟩
  · rw [if_neg hA] at hq0
    exact en89 (b89_0 e5 (k114n hd ha hA (b89_5 hq0)))
end CD
