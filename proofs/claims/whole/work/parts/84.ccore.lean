/-! ===== the class: the core, its small things ===== -/

theorem w4_b {n : Nat} {w : Nat → Int} (hw : ∀ s, bd 16000 (w s)) (s : Nat) : bd 16000 (w4 n w s) := hw _
theorem endV_b {v : Nat → Int} (hw : ∀ s, bd 16000 (v s)) (s e : Nat) : bd 64000 (endV v s e) := by
  have h1 := hw s
  have h2 := hw 15
  have h3 := hw (15 - s)
  unfold endV
  unfold bd at *
  split <;> omega
theorem tnZ {k m : Nat} (h : k < m) (hm : m < 2147483648) : (iZ (k : Int)).toNatClampNeg = k := by
  rw [iZ_nat (by omega) (by omega)]; omega
theorem inZ {k m : Nat} (h : k < m) (hm : m < 2147483648) : ¬ (iZ (k : Int) < 0 ∨ m ≤ (iZ (k : Int)).toNatClampNeg) := iZ_in (by omega) (by omega) hm
/-- the ends of sets -/
def KE (h : mH) (r : Nat) (v : Nat → Int) : Prop := 30 ≤ r ∧ (∀ s, bd 16000 (v s)) ∧ ∃ (cc : Int32) (lo hi : Nat → Int32), h[r]? = some (oK r cc (iZ (2 * v 15))) ∧ h[r + 3]? = some (aI 8 lo) ∧ h[r + 4]? = some (aI 8 hi) ∧ ∀ s, s < 8 → lo s = iZ (endV v s 0) ∧ hi s = iZ (endV v s 1)
section CK
variable {h h' : mH} {Q : Option Value → mH → Prop} {r a ci num n : Nat} {w v : Nat → Int} {cc tw : Int32}
theorem k1 {g : Nat → Int32} (e1 : h[r]? = some (oK r cc tw)) (e2 : h[r + 1]? = some (aI 96 g)) {c p : Nat} (hc : c < 24) (hp : p < 4) (hq : Q (some (.int (g (4 * c + p)))) h) : mCt mCd 1 [.ref r, .int (iZ c), .int (iZ p)] h Q := by
  have t : iZ c * iZ 4 + iZ p = iZ ((4 * c + p : Nat) : Int) := by rw [iZ_mul, iZ_add]; congr 1; omega
  refine en1 (b1_0 (fun q => ?_) (fun _ => ?_))
  · rw [t] at q
    simp (disch := (first | assumption | omega | (unfold i32; omega) | (unfold i64; omega))) only [iZ_add, iZ_sub, iZ_mul, iZ_neg, lZ_add, lZ_sub, lZ_mul, lZ_neg, lZ_i, iZ_l, iZ_nat, Int.toNat_natCast, iZ_bit, iZ_shl, iZ_or, iZ_lt, iZ_le, iZ_eq, iZ_lt0, iZ_le0, iZ_gt0, iZ_ge0, iZ_eq0, cmp_eq0, cmp_lt0, cmp_le0, cmp_ge0, cmp_gt0, tf_0, tf_n0, Decidable.not_not, not_true_eq_false, not_false_eq_true, Int.toNat_natCast, onat] at q
    omega
  · rw [t]
    refine b1_10 e1 e2 (fun _ => b1_23 e1 e2 (inZ (by omega) (by decide)) ?_) (fun q => ?_)
    · rw [tnZ (show 4 * c + p < 96 by omega) (by decide)]
      exact hq
    · simp (disch := (first | assumption | omega | (unfold i32; omega) | (unfold i64; omega))) only [iZ_add, iZ_sub, iZ_mul, iZ_neg, lZ_add, lZ_sub, lZ_mul, lZ_neg, lZ_i, iZ_l, iZ_nat, Int.toNat_natCast, iZ_bit, iZ_shl, iZ_or, iZ_lt, iZ_le, iZ_eq, iZ_lt0, iZ_le0, iZ_gt0, iZ_ge0, iZ_eq0, cmp_eq0, cmp_lt0, cmp_le0, cmp_ge0, cmp_gt0, tf_0, tf_n0, Decidable.not_not, not_true_eq_false, not_false_eq_true, Int.toNat_natCast, onat] at q
      omega
theorem k7 {p q k : Nat} (hp : p < 8) (hqq : q < 8) (hk : k < 3) (hq : Q (some (.int (iZ (cr p q k)))) h) : mCt mCd 7 [.int (iZ p), .int (iZ q), .int (iZ k)] h Q := by
  have main : ∀ s t : Nat, s = (k + 1) % 3 → t = (k + 2) % 3 → mWp mCd 7 (24, [some (.int (iZ p)), some (.int (iZ q)), none, some (.int (iZ s)), none], [.int (iZ t)], h, 0, 0) Q := by
    intro s t hs ht
    refine b7_24 (k126 (by omega) (by omega) (b7_31 (k126 (by omega) (by omega) (b7_37 (k126 (by omega) (by omega) (b7_44 (k126 (by omega) (by omega) (b7_49 ?_))))))))
    rw [iZ_mul, iZ_mul, iZ_sub]
    unfold cr at hq
    rw [← hs, ← ht] at hq
    exact hq
  have : k = 0 ∨ k = 1 ∨ k = 2 := by omega
  refine en7 ?_
  rcases this with e | e | e <;> subst e
  · exact b7_0 (fun _ => b7_9 (b7_12 (fun y => absurd rfl y) (fun _ => b7_17 (main 1 2 rfl rfl)))) (fun y => absurd (by decide) y)
  · exact b7_0 (fun _ => b7_9 (b7_12 (fun _ => b7_21 (main 2 0 rfl rfl)) (fun y => absurd (by decide) y))) (fun y => absurd (by decide) y)
  · exact b7_0 (fun y => absurd rfl y) (fun _ => b7_5 (b7_12 (fun _ => b7_21 (main 0 1 rfl rfl)) (fun y => absurd (by decide) y)))
theorem k8 (hk : KE h r v) {s e : Nat} (hs : s < 8) (he : e < 2) (hq : Q (some (.int (iZ (endV v s e)))) h) : mCt mCd 8 [.ref r, .int (iZ s), .int (iZ e)] h Q := by
  obtain ⟨hr, hv, cc, lo, hi, e1, e2, e3, hf⟩ := hk
  refine en8 (b8_0 (fun q => ?_) (fun _ => b8_4 (fun _ => b8_12 (fun q => b8_25 e1 e3 (inZ hs (by decide)) ?_) (fun q => b8_16 e1 e2 (inZ hs (by decide)) ?_)) (fun q => ?_)))
  · simp (disch := (first | assumption | omega | (unfold i32; omega) | (unfold i64; omega))) only [iZ_add, iZ_sub, iZ_mul, iZ_neg, lZ_add, lZ_sub, lZ_mul, lZ_neg, lZ_i, iZ_l, iZ_nat, Int.toNat_natCast, iZ_bit, iZ_shl, iZ_or, iZ_lt, iZ_le, iZ_eq, iZ_lt0, iZ_le0, iZ_gt0, iZ_ge0, iZ_eq0, cmp_eq0, cmp_lt0, cmp_le0, cmp_ge0, cmp_gt0, tf_0, tf_n0, Decidable.not_not, not_true_eq_false, not_false_eq_true, Int.toNat_natCast, onat] at q
    omega
  · simp (disch := (first | assumption | omega | (unfold i32; omega) | (unfold i64; omega))) only [iZ_add, iZ_sub, iZ_mul, iZ_neg, lZ_add, lZ_sub, lZ_mul, lZ_neg, lZ_i, iZ_l, iZ_nat, Int.toNat_natCast, iZ_bit, iZ_shl, iZ_or, iZ_lt, iZ_le, iZ_eq, iZ_lt0, iZ_le0, iZ_gt0, iZ_ge0, iZ_eq0, cmp_eq0, cmp_lt0, cmp_le0, cmp_ge0, cmp_gt0, tf_0, tf_n0, Decidable.not_not, not_true_eq_false, not_false_eq_true, Int.toNat_natCast, onat] at q
    rw [tnZ hs (by decide), (hf s hs).2]
    have : e = 1 := by omega
    rw [this] at hq
    exact hq
  · simp (disch := (first | assumption | omega | (unfold i32; omega) | (unfold i64; omega))) only [iZ_add, iZ_sub, iZ_mul, iZ_neg, lZ_add, lZ_sub, lZ_mul, lZ_neg, lZ_i, iZ_l, iZ_nat, Int.toNat_natCast, iZ_bit, iZ_shl, iZ_or, iZ_lt, iZ_le, iZ_eq, iZ_lt0, iZ_le0, iZ_gt0, iZ_ge0, iZ_eq0, cmp_eq0, cmp_lt0, cmp_le0, cmp_ge0, cmp_gt0, tf_0, tf_n0, Decidable.not_not, not_true_eq_false, not_false_eq_true, Int.toNat_natCast, onat] at q
    rw [tnZ hs (by decide), (hf s hs).1]
    have : e = 0 := by omega
    rw [this] at hq
    exact hq
  · simp (disch := (first | assumption | omega | (unfold i32; omega) | (unfold i64; omega))) only [iZ_add, iZ_sub, iZ_mul, iZ_neg, lZ_add, lZ_sub, lZ_mul, lZ_neg, lZ_i, iZ_l, iZ_nat, Int.toNat_natCast, iZ_bit, iZ_shl, iZ_or, iZ_lt, iZ_le, iZ_eq, iZ_lt0, iZ_le0, iZ_gt0, iZ_ge0, iZ_eq0, cmp_eq0, cmp_lt0, cmp_le0, cmp_ge0, cmp_gt0, tf_0, tf_n0, Decidable.not_not, not_true_eq_false, not_false_eq_true, Int.toNat_natCast, onat] at q
    omega
theorem k11 (hk : KE h r v) {s : Nat} {x : Int} (hs : s < 8) (hx : bd 2000000000 x) (hq : Q (some (.int (tf (endV v s 0 ≤ x ∧ x ≤ endV v s 1)))) h) : mCt mCd 11 [.ref r, .int (iZ s), .int (iZ x)] h Q := by
  obtain ⟨hr, hv, cc, lo, hi, e1, e2, e3, hf⟩ := hk
  have b0 := endV_b hv s 0
  have b1 := endV_b hv s 1
  have i0 : i32 (endV v s 0) := by unfold bd at b0; unfold i32; omega
  have i1 : i32 (endV v s 1) := by unfold bd at b1; unfold i32; omega
  have ix : i32 x := by unfold bd at hx; unfold i32; omega
  refine en11 (b11_0 (fun q => ?_) (fun _ => b11_4 (fun q => ?_) (fun _ => b11_10 e1 e2 (inZ hs (by decide)) (fun q => b11_34 ?_) (fun q => b11_20 e1 e3 (inZ hs (by decide)) (fun q2 => b11_34 ?_) (fun q2 => b11_30 ?_)))))
  · simp (disch := (first | assumption | omega | (unfold i32; omega) | (unfold i64; omega))) only [iZ_add, iZ_sub, iZ_mul, iZ_neg, lZ_add, lZ_sub, lZ_mul, lZ_neg, lZ_i, iZ_l, iZ_nat, Int.toNat_natCast, iZ_bit, iZ_shl, iZ_or, iZ_lt, iZ_le, iZ_eq, iZ_lt0, iZ_le0, iZ_gt0, iZ_ge0, iZ_eq0, cmp_eq0, cmp_lt0, cmp_le0, cmp_ge0, cmp_gt0, tf_0, tf_n0, Decidable.not_not, not_true_eq_false, not_false_eq_true, Int.toNat_natCast, onat] at q
    omega
  · simp (disch := (first | assumption | omega | (unfold i32; omega) | (unfold i64; omega))) only [iZ_add, iZ_sub, iZ_mul, iZ_neg, lZ_add, lZ_sub, lZ_mul, lZ_neg, lZ_i, iZ_l, iZ_nat, Int.toNat_natCast, iZ_bit, iZ_shl, iZ_or, iZ_lt, iZ_le, iZ_eq, iZ_lt0, iZ_le0, iZ_gt0, iZ_ge0, iZ_eq0, cmp_eq0, cmp_lt0, cmp_le0, cmp_ge0, cmp_gt0, tf_0, tf_n0, Decidable.not_not, not_true_eq_false, not_false_eq_true, Int.toNat_natCast, onat] at q
    omega
  · rw [tnZ hs (by decide), (hf s hs).1, iZ_lt ix i0] at q
    exact Qi (tf0 (by omega)) hq
  · rw [tnZ hs (by decide), (hf s hs).2, iZ_lt i1 ix] at q2
    exact Qi (tf0 (by omega)) hq
  · rw [tnZ hs (by decide), (hf s hs).1, iZ_lt ix i0] at q
    rw [tnZ hs (by decide), (hf s hs).2, iZ_lt i1 ix] at q2
    exact Qi (tf1 (by omega)) hq
/-- whether a point is in the core -/
def insP (v p : Nat → Int) : Prop := ∀ s, s < 8 → 1 ≤ s → endV v s 0 ≤ r3 s p ∧ r3 s p ≤ endV v s 1
theorem r3_all (p : Nat → Int) : r3 1 p = p 0 ∧ r3 2 p = p 1 ∧ r3 3 p = p 0 + p 1 ∧ r3 4 p = p 2 ∧ r3 5 p = p 0 + p 2 ∧ r3 6 p = p 1 + p 2 ∧ r3 7 p = p 0 + p 1 + p 2 := by
  have f : ∀ s, r3 s p = (bt s 0 : Int) * p 0 + bt s 1 * p 1 + bt s 2 * p 2 := fun _ => rfl
  refine ⟨?_, ?_, ?_, ?_, ?_, ?_, ?_⟩ <;> rw [f]
  · rw [show bt 1 0 = 1 from rfl, show bt 1 1 = 0 from rfl, show bt 1 2 = 0 from rfl]; simp
  · rw [show bt 2 0 = 0 from rfl, show bt 2 1 = 1 from rfl, show bt 2 2 = 0 from rfl]; simp
  · rw [show bt 3 0 = 1 from rfl, show bt 3 1 = 1 from rfl, show bt 3 2 = 0 from rfl]; simp
  · rw [show bt 4 0 = 0 from rfl, show bt 4 1 = 0 from rfl, show bt 4 2 = 1 from rfl]; simp
  · rw [show bt 5 0 = 1 from rfl, show bt 5 1 = 0 from rfl, show bt 5 2 = 1 from rfl]; simp
  · rw [show bt 6 0 = 0 from rfl, show bt 6 1 = 1 from rfl, show bt 6 2 = 1 from rfl]; simp
  · rw [show bt 7 0 = 1 from rfl, show bt 7 1 = 1 from rfl, show bt 7 2 = 1 from rfl]; simp
theorem insP_d (v p : Nat → Int) : insP v p ↔ (endV v 1 0 ≤ p 0 ∧ p 0 ≤ endV v 1 1) ∧ (endV v 2 0 ≤ p 1 ∧ p 1 ≤ endV v 2 1) ∧ (endV v 3 0 ≤ p 0 + p 1 ∧ p 0 + p 1 ≤ endV v 3 1) ∧ (endV v 4 0 ≤ p 2 ∧ p 2 ≤ endV v 4 1) ∧ (endV v 5 0 ≤ p 0 + p 2 ∧ p 0 + p 2 ≤ endV v 5 1) ∧ (endV v 6 0 ≤ p 1 + p 2 ∧ p 1 + p 2 ≤ endV v 6 1) ∧ (endV v 7 0 ≤ p 0 + p 1 + p 2 ∧ p 0 + p 1 + p 2 ≤ endV v 7 1) := by
  obtain ⟨f1, f2, f3, f4, f5, f6, f7⟩ := r3_all p
  unfold insP
  constructor
  · intro h
    have g1 := h 1 (by decide) (by decide)
    have g2 := h 2 (by decide) (by decide)
    have g3 := h 3 (by decide) (by decide)
    have g4 := h 4 (by decide) (by decide)
    have g5 := h 5 (by decide) (by decide)
    have g6 := h 6 (by decide) (by decide)
    have g7 := h 7 (by decide) (by decide)
    rw [f1] at g1; rw [f2] at g2; rw [f3] at g3; rw [f4] at g4; rw [f5] at g5; rw [f6] at g6; rw [f7] at g7
    exact ⟨g1, g2, g3, g4, g5, g6, g7⟩
  · rintro ⟨g1, g2, g3, g4, g5, g6, g7⟩ s hs hs1
    have : s = 1 ∨ s = 2 ∨ s = 3 ∨ s = 4 ∨ s = 5 ∨ s = 6 ∨ s = 7 := by omega
    rcases this with e | e | e | e | e | e | e <;> subst e
    · rw [f1]; exact g1
    · rw [f2]; exact g2
    · rw [f3]; exact g3
    · rw [f4]; exact g4
    · rw [f5]; exact g5
    · rw [f6]; exact g6
    · rw [f7]; exact g7
theorem k10 (hk : KE h r v) {g : Nat → Int32} {p : Nat → Int} (e2 : h[r + 2]? = some (aI 4 g)) (hp : ∀ k, bd 400000000 (p k)) (hg : ∀ k, k < 4 → g k = iZ (p k)) (hy : insP v p → Q (some (.int (iZ 1))) h) (hn : ¬ insP v p → Q (some (.int (iZ 0))) h) : mCt mCd 10 [.ref r] h Q := by
  have hk0 := hk
  obtain ⟨hr, hv, cc, lo, hi, e1, _, _, hf⟩ := hk
  have p0 := hp 0
  have p1 := hp 1
  have p2 := hp 2
  unfold bd at p0 p1 p2
  rw [insP_d] at hy hn
  refine en10 (b10_0 e1 e2 ?_)
  rw [show (iZ 0).toNatClampNeg = 0 from rfl, show (iZ 1).toNatClampNeg = 1 from rfl, show (iZ 2).toNatClampNeg = 2 from rfl, hg 0 (by decide), hg 1 (by decide), hg 2 (by decide)]
  have no : ¬ ((endV v 1 0 ≤ p 0 ∧ p 0 ≤ endV v 1 1) ∧ (endV v 2 0 ≤ p 1 ∧ p 1 ≤ endV v 2 1) ∧ (endV v 3 0 ≤ p 0 + p 1 ∧ p 0 + p 1 ≤ endV v 3 1) ∧ (endV v 4 0 ≤ p 2 ∧ p 2 ≤ endV v 4 1) ∧ (endV v 5 0 ≤ p 0 + p 2 ∧ p 0 + p 2 ≤ endV v 5 1) ∧ (endV v 6 0 ≤ p 1 + p 2 ∧ p 1 + p 2 ≤ endV v 6 1) ∧ (endV v 7 0 ≤ p 0 + p 1 + p 2 ∧ p 0 + p 1 + p 2 ≤ endV v 7 1)) → mWp mCd 10 (100, [none, none, none, none], [], h, 0, 0) Q := fun z => b10_100 (hn z)
  refine k11 hk0 (s := 1) (by decide) (by unfold bd; omega) (b10_27 (fun q => no ?_) (fun q1 => b10_30 e1 (k11 hk0 (s := 2) (by decide) (by unfold bd; omega) (b10_36 (fun q => no ?_) (fun q2 => b10_39 e1 ?_)))))
  · rw [tf_0] at q
    exact fun z => q z.1
  · rw [tf_0] at q
    exact fun z => q z.2.1
  rw [iZ_add]
  refine k11 hk0 (s := 3) (by decide) (by unfold bd; omega) (b10_47 (fun q => no ?_) (fun q3 => b10_50 e1 (k11 hk0 (s := 4) (by decide) (by unfold bd; omega) (b10_56 (fun q => no ?_) (fun q4 => b10_59 e1 ?_)))))
  · rw [tf_0] at q
    exact fun z => q z.2.2.1
  · rw [tf_0] at q
    exact fun z => q z.2.2.2.1
  rw [iZ_add]
  refine k11 hk0 (s := 5) (by decide) (by unfold bd; omega) (b10_67 (fun q => no ?_) (fun q5 => b10_70 e1 ?_))
  · rw [tf_0] at q
    exact fun z => q z.2.2.2.2.1
  rw [iZ_add]
  refine k11 hk0 (s := 6) (by decide) (by unfold bd; omega) (b10_79 (fun q => no ?_) (fun q6 => b10_82 e1 ?_))
  · rw [tf_0] at q
    exact fun z => q z.2.2.2.2.2.1
  rw [iZ_add, iZ_add]
  refine k11 hk0 (s := 7) (by decide) (by unfold bd; omega) (b10_93 (fun q => no ?_) (fun q7 => b10_96 (hy ?_)))
  · rw [tf_0] at q
    exact fun z => q z.2.2.2.2.2.2
  · rw [tf_n0] at q1 q2 q3 q4 q5 q6 q7
    exact ⟨q1, q2, q3, q4, q5, q6, q7⟩
theorem k5 (hk : KE h r v) (hy : (∀ s, s < 8 → 1 ≤ s → endV v s 0 ≤ endV v s 1) → Q (some (.int (iZ 1))) h) (hn : ¬ (∀ s, s < 8 → 1 ≤ s → endV v s 0 ≤ endV v s 1) → Q (some (.int (iZ 0))) h) : mCt mCd 5 [.ref r] h Q := by
  obtain ⟨hr, hv, cc, lo, hi, e1, e2, e3, hf⟩ := hk
  have lp : ∀ s, s ≤ 8 → 1 ≤ s → (∀ t, t < s → 1 ≤ t → endV v t 0 ≤ endV v t 1) → mWp mCd 5 (2, [some (.ref r), some (.int (iZ s))], [], h, 0, 0) Q := by
    refine lp_up 8 ?_ ?_
    · intro _ ht
      exact b5_2 (fun _ => b5_31 (hy ht)) (fun q => absurd (Int32.le_refl _) q)
    · intro s hs ih hs1 ht
      have b0 := endV_b hv s 0
      have b1 := endV_b hv s 1
      have i0 : i32 (endV v s 0) := by unfold bd at b0; unfold i32; omega
      have i1 : i32 (endV v s 1) := by unfold bd at b1; unfold i32; omega
      refine b5_2 (fun q => ?_) (fun _ => b5_8 e1 e2 (inZ hs (by decide)) e3 (fun q => b5_25 ?_) (fun q => b5_23 (hn ?_)))
      · simp (disch := (first | assumption | omega | (unfold i32; omega) | (unfold i64; omega))) only [iZ_add, iZ_sub, iZ_mul, iZ_neg, lZ_add, lZ_sub, lZ_mul, lZ_neg, lZ_i, iZ_l, iZ_nat, Int.toNat_natCast, iZ_bit, iZ_shl, iZ_or, iZ_lt, iZ_le, iZ_eq, iZ_lt0, iZ_le0, iZ_gt0, iZ_ge0, iZ_eq0, cmp_eq0, cmp_lt0, cmp_le0, cmp_ge0, cmp_gt0, tf_0, tf_n0, Decidable.not_not, not_true_eq_false, not_false_eq_true, Int.toNat_natCast, onat] at q
        omega
      · rw [tnZ hs (by decide), (hf s hs).1, (hf s hs).2, iZ_le i0 i1] at q
        rw [iZ_add]
        refine ih (by omega) (fun t h1 h2 => ?_)
        by_cases e : t = s
        · subst e; exact q
        · exact ht t (by omega) h2
      · rw [tnZ hs (by decide), (hf s hs).1, (hf s hs).2, iZ_le i0 i1] at q
        exact fun z => q (z s hs hs1)
  exact en5 (b5_0 (lp 1 (by decide) (Nat.le_refl 1) (fun t h1 h2 => by omega)))
theorem andn4 : ∀ n, n ≤ 4 → ∀ s, s < 8 → andn (al n) s = (15 - s) &&& al n ∧ andn (al n) s < 16 := by decide +kernel
theorem k4 (hv : CV h a ci num n w) {cc tw : Int32} {lo hi : Nat → Int32} (hr : r = a + 3) (e1 : h[r]? = some (oK r cc tw)) (e2 : h[r + 3]? = some (aI 8 lo)) (e3 : h[r + 4]? = some (aI 8 hi)) (hq : ∀ h', Eqx [r, r + 3, r + 4] h h' → KE h' r (w4 n w) → h'[r]? = some (oK r cc (iZ (2 * w4 n w 15))) → Q none h') : mCt mCd 4 [.ref r, .ref a] h Q := by
  have hv0 := hv
  have hal := al_lt hv.2.2.1.2
  obtain ⟨ha, hc, ⟨hn1, hn4⟩, hw, fd, f, d1, d2, hf⟩ := hv
  have e15 : w4 n w 15 = w (al n) := by unfold w4; rw [and_15 n hn4]
  have lp : ∀ s, s ≤ 8 → ∀ h1 lo hi, Eqx [r, r + 3, r + 4] h h1 → h1[r]? = some (oK r cc (iZ (2 * w4 n w 15))) → h1[r + 3]? = some (aI 8 lo) → h1[r + 4]? = some (aI 8 hi) → (∀ t, t < s → lo t = iZ (endV (w4 n w) t 0) ∧ hi t = iZ (endV (w4 n w) t 1)) → mWp mCd 4 (17, [some (.ref r), some (.ref a), some (.int (iZ (al n))), some (.int (iZ s))], [], h1, 0, 0) Q := by
    refine lp_up 8 ?_ ?_
    · intro h1 lo hi hx g1 g2 g3 hg
      exact b4_17 (fun _ => b4_66 (hq h1 hx ⟨by omega, fun t => hw _, cc, lo, hi, g1, g2, g3, hg⟩ g1)) (fun q => absurd (Int32.le_refl _) q)
    · intro s hs ih h1 lo hi hx g1 g2 g3 hg
      have hv1 : CV h1 a ci num n w := hv0.eq hx (by simp; omega) (by simp; omega)
      obtain ⟨_, _, _, _, fd1, f1, d1', d2', _⟩ := id hv1
      have han := andn4 n hn4 s hs
      refine b4_17 (fun q => ?_) (fun _ => b4_23 g1 hc d1' ?_)
      · simp (disch := (first | assumption | omega | (unfold i32; omega) | (unfold i64; omega))) only [iZ_add, iZ_sub, iZ_mul, iZ_neg, lZ_add, lZ_sub, lZ_mul, lZ_neg, lZ_i, iZ_l, iZ_nat, Int.toNat_natCast, iZ_bit, iZ_shl, iZ_or, iZ_lt, iZ_le, iZ_eq, iZ_lt0, iZ_le0, iZ_gt0, iZ_ge0, iZ_eq0, cmp_eq0, cmp_lt0, cmp_le0, cmp_ge0, cmp_gt0, tf_0, tf_n0, Decidable.not_not, not_true_eq_false, not_false_eq_true, Int.toNat_natCast, onat] at q
        omega
      · rw [iZ_iand s (by omega) _ hal]
        have hal4 := and_le n hn4 s (by omega)
        refine k46 hv1 (by omega) (b4_36 g2 (inZ hs (by decide)) (by omega) g1 (by omega) hc d1' (by omega) ?_)
        rw [tnZ hs (by decide), iZ_andn _ hal _ (by omega), iZ_mul]
        have hx2 : Eqx [r, r + 3, r + 4] h (h1.set (r + 3) (aI 8 (upd lo s (iZ (2 * w (s &&& al n)))))) := hx.st _ (by simp)
        have hv2 : CV (h1.set (r + 3) (aI 8 (upd lo s (iZ (2 * w (s &&& al n)))))) a ci num n w := hv0.eq hx2 (by simp; omega) (by simp; omega)
        refine k46 hv2 han.2 (b4_57 (mGn (by omega) g3) (inZ hs (by decide)) (by omega) ?_)
        rw [tnZ hs (by decide), iZ_mul, iZ_sub, iZ_add]
        refine ih _ _ _ (hx2.st _ (by simp)) (mGn (by omega) (mGn (by omega) g1)) (mGn (by omega) (mGs g2)) (mGs (mGn (by omega) g3)) (fun t ht => ?_)
        by_cases e : t = s
        · subst e
          rw [updI_e, updI_e, han.1]
          refine ⟨rfl, ?_⟩
          congr 1
          show 2 * w4 n w 15 - 2 * w4 n w (15 - t) = 2 * (w4 n w 15 - w4 n w (15 - t))
          omega
        · rw [updI_n _ _ e, updI_n _ _ e]
          exact hg t (by omega)
  refine en4 (b4_0 hc d1 (k42 hv0 (b4_4 hc d1 (k47 hv0 (b4_11 e1 ?_)))))
  rw [iZ_mul, ← e15]
  exact lp 0 (by decide) _ lo hi ((Eqx.rf _ _).st _ (by simp)) (mGs e1) (mGn (by omega) e2) (mGn (by omega) e3) (fun t ht => absurd ht (Nat.not_lt_zero _))
end CK
