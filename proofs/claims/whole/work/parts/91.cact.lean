/-! ===== the class: acts, the trace ===== -/

def CTr (h : mH) (T : List Int) : Prop := T.length ≤ 40 ∧ ∃ f : Nat → Int32, h[11]? = some (oT (iZ T.length)) ∧ h[12]? = some (aI 40 f) ∧ ∀ k, k < T.length → f k = iZ (T.getD k 0)
section CA
variable {h h' : mH} {Q : Option Value → mH → Prop} {i n c a num : Nat} {w : Nat → Int} {kd sz : Nat → Nat} {W : Nat → Nat → Int} {A : Nat → Nat} {T : List Int} {x : Int32}
theorem CTr.o (ht : CTr h T) : h[11]? = some (oT (iZ T.length)) := ht.2.choose_spec.1
theorem k71 (ht : CTr h T) (hT : T.length < 40) {b : Int} (hq : ∀ h', Eqx [11, 12] h h' → CTr h' (T ++ [b]) → Q none h') : mCt mCd 71 [.ref 11, .int (iZ b)] h Q := by
  obtain ⟨hl, f, e1, e2, hf⟩ := ht
  refine en71 (b71_0 e1 (fun z => ?_) (fun _ => b71_7 e1 e2 (fun z => ?_) (fun _ => b71_19 e1 e2 (inZ hT (by decide)) (b71_29 (mGn (by decide) e1) ?_))))
  · simp (disch := (first | assumption | omega | (unfold i32; omega) | (unfold i64; omega))) only [iZ_add, iZ_sub, iZ_mul, iZ_neg, lZ_add, lZ_sub, lZ_mul, lZ_neg, lZ_i, iZ_l, iZ_nat, Int.toNat_natCast, iZ_bit, iZ_shl, iZ_or, iZ_lt, iZ_le, iZ_eq, iZ_lt0, iZ_le0, iZ_gt0, iZ_ge0, iZ_eq0, cmp_eq0, cmp_lt0, cmp_le0, cmp_ge0, cmp_gt0, tf_0, tf_n0, Decidable.not_not, not_true_eq_false, not_false_eq_true, Int.toNat_natCast, onat] at z
    omega
  · simp (disch := (first | assumption | omega | (unfold i32; omega) | (unfold i64; omega))) only [iZ_add, iZ_sub, iZ_mul, iZ_neg, lZ_add, lZ_sub, lZ_mul, lZ_neg, lZ_i, iZ_l, iZ_nat, Int.toNat_natCast, iZ_bit, iZ_shl, iZ_or, iZ_lt, iZ_le, iZ_eq, iZ_lt0, iZ_le0, iZ_gt0, iZ_ge0, iZ_eq0, cmp_eq0, cmp_lt0, cmp_le0, cmp_ge0, cmp_gt0, tf_0, tf_n0, Decidable.not_not, not_true_eq_false, not_false_eq_true, Int.toNat_natCast, onat] at z
    omega
  · rw [tnZ hT (by decide), iZ_add]
    refine hq _ (((Eqx.rf _ _).st _ (by simp)).st _ (by simp)) ⟨by rw [List.length_append, List.length_singleton]; omega, _, ?_, mGn (by decide) (mGs e2), fun k hk => ?_⟩
    · rw [mGs (mGn (by decide) e1), List.length_append]
      rfl
    · rw [List.length_append, List.length_singleton] at hk
      rw [getD_app T b hk]
      by_cases e : k = T.length
      · rw [if_pos e, e, updI_e]
      · rw [if_neg e, updI_n _ _ e]; exact hf k (by omega)
theorem CV.ac {ci : Nat} (hv : CV h a ci num n w) (hx : Eqx [11, 12] h h') : CV h' a ci num n w := by
  have := hv.1
  exact hv.eq hx (by simp; omega) (by simp; omega)
theorem k39 {ci : Nat} (hv : CV h a ci num n w) (ht : CTr h T) (hT : T.length < 40) (hq : ∀ h', Eqx [11, 12] h h' → CTr h' (T ++ [10]) → Q (some (.int (tG (w (al n)) x))) h') : mCt mCd 39 [.ref a, .int x, .ref 11] h Q := by
  refine en39 (b39_0 ht.o (k71 ht hT (fun h1 hx1 t1 => ?_)))
  have hv1 := hv.ac hx1
  have hal := al_lt hv.2.2.1.2
  obtain ⟨ha30, hc, hn, hw, fd, f, e1, e2, hf⟩ := id hv1
  exact b39_6 hc e1 (k42 hv1 (b39_12 hc e1 (k46 hv1 hal (b39_15 (hq h1 hx1 t1)))))
def gM (k : Nat) : Nat := if k = 1 then 76 else if k = 4 then 19 else 39
def lM (k : Nat) : Nat := if k = 2 then 32 else if k = 4 then 20 else 40
def sM (k : Nat) : Nat := if k = 1 then 77 else if k = 3 then 16 else 41
theorem g_sel : ∀ k, k ≤ 4 → mSel [(1, 39, 0, 0), (2, 19, 0, 0), (4, 39, 0, 0), (6, 39, 0, 0), (8, 76, 0, 0)] (ciK k) = some (gM k, 0, 0) := by decide +kernel
theorem l_sel : ∀ k, k ≤ 4 → mSel [(1, 40, 0, 0), (2, 20, 0, 0), (4, 32, 0, 0), (6, 40, 0, 0), (8, 40, 0, 0)] (ciK k) = some (lM k, 0, 0) := by decide +kernel
theorem s_sel : ∀ k, k ≤ 4 → mSel [(1, 16, 0, 0), (2, 41, 0, 0), (4, 41, 0, 0), (6, 41, 0, 0), (8, 77, 0, 0)] (ciK k) = some (sM k, 0, 0) := by decide +kernel
theorem k_g {k : Nat} (hk : k ≤ 4) (hv : CV h a (ciK k) num n w) (ht : CTr h T) (hT : T.length + 2 ≤ 40) (hq : ∀ h', Eqx [11, 12] h h' → CTr h' (T ++ rG k) → Q (some (.int (aG k n (w (al n)) x))) h') : mCt mCd (gM k) [.ref a, .int x, .ref 11] h Q := by
  have : k = 0 ∨ k = 1 ∨ k = 2 ∨ k = 3 ∨ k = 4 := by omega
  rcases this with e | e | e | e | e <;> subst e
  · exact k39 hv ht (by omega) hq
  · refine en76 (b76_0 ht.o (k71 ht (by omega) (fun h1 hx1 t1 => ?_)))
    have hv1 := hv.ac hx1
    obtain ⟨ha30, hc, hn, hw, fd, f, e1, e2, hf⟩ := id hv1
    refine b76_6 e1 (k39 hv1 t1 (by rw [List.length_append, List.length_singleton]; omega) (fun h2 hx2 t2 => b76_12 (hq h2 (hx1.tr hx2) ?_)))
    rw [List.append_assoc] at t2
    exact t2
  · exact k39 hv ht (by omega) hq
  · exact k39 hv ht (by omega) hq
  · refine en19 (b19_0 ht.o (k71 ht (by omega) (fun h1 hx1 t1 => ?_)))
    have hv1 := hv.ac hx1
    obtain ⟨ha30, hc, hn, hw, fd, f, e1, e2, hf⟩ := id hv1
    refine b19_6 e1 (k39 hv1 t1 (by rw [List.length_append, List.length_singleton]; omega) (fun h2 hx2 t2 => b19_17 (hq h2 (hx1.tr hx2) ?_)))
    rw [List.append_assoc] at t2
    exact t2
theorem k40 {k : Nat} (hk : k ≤ 4) (hv : CV h a (ciK k) num n w) (ht : CTr h T) (hT : T.length + 3 ≤ 40) (hq : ∀ h', Eqx [11, 12] h h' → CTr h' (T ++ 11 :: rG k) → Q (some (.int (tL k n (w (al n)) x))) h') : mCt mCd 40 [.ref a, .int x, .ref 11] h Q := by
  refine en40 (b40_0 ht.o (k71 ht (by omega) (fun h1 hx1 t1 => ?_)))
  have hv1 := hv.ac hx1
  obtain ⟨ha30, hc, hn, hw, fd, f, e1, e2, hf⟩ := id hv1
  refine b40_6 hc e1 (g_sel k hk) (k_g hk hv1 t1 (by rw [List.length_append, List.length_singleton]; omega) (fun h2 hx2 t2 => b40_12 hc ((hx2.2 a (by simp; omega)).trans e1) (hq h2 (hx1.tr hx2) ?_)))
  rw [List.append_assoc] at t2
  exact t2
theorem k_l {k : Nat} (hk : k ≤ 4) (hv : CV h a (ciK k) num n w) (ht : CTr h T) (hT : T.length + 6 ≤ 40) (hq : ∀ h', Eqx [11, 12] h h' → CTr h' (T ++ rL k) → Q (some (.int (aLk k n num (w (al n)) x))) h') : mCt mCd (lM k) [.ref a, .int x, .ref 11] h Q := by
  have : k = 0 ∨ k = 1 ∨ k = 2 ∨ k = 3 ∨ k = 4 := by omega
  rcases this with e | e | e | e | e <;> subst e
  · exact k40 (k := 0) hk hv ht (by omega) hq
  · exact k40 (k := 1) hk hv ht (by omega) hq
  · refine en32 (b32_0 ht.o (k71 ht (by omega) (fun h1 hx1 t1 => ?_)))
    have hv1 := hv.ac hx1
    obtain ⟨ha30, hc, hn, hw, fd, f, e1, e2, hf⟩ := id hv1
    refine b32_6 e1 (k40 (k := 2) hk hv1 t1 (by rw [List.length_append, List.length_singleton]; omega) (fun h2 hx2 t2 => b32_12 ((hx2.2 a (by simp; omega)).trans e1) (hq h2 (hx1.tr hx2) ?_)))
    rw [List.append_assoc] at t2
    exact t2
  · exact k40 (k := 3) hk hv ht (by omega) hq
  · refine en20 (b20_0 ht.o (k71 ht (by omega) (fun h1 hx1 t1 => ?_)))
    have hv1 := hv.ac hx1
    obtain ⟨ha30, hc, hn, hw, fd, f, e1, e2, hf⟩ := id hv1
    refine b20_6 e1 (k40 (k := 4) hk hv1 t1 (by rw [List.length_append, List.length_singleton]; omega) (fun h2 hx2 t2 => b20_12 ((hx2.2 a (by simp; omega)).trans e1) (k39 (hv1.ac hx2) t2 ?_ (fun h3 hx3 t3 => b20_20 (hq h3 ((hx1.tr hx2).tr hx3) ?_)))))
    · have : (rG 4).length = 2 := rfl
      simp only [List.length_append, List.length_cons, List.length_nil]
      omega
    · have e : T ++ rL 4 = T ++ [51] ++ 11 :: rG 4 ++ [10] := by
        rw [List.append_assoc, List.append_assoc]
        rfl
      rw [e]
      exact t3
theorem k41 {k : Nat} (hk : k ≤ 4) (hv : CV h a (ciK k) num n w) (ht : CTr h T) (hT : T.length + 10 ≤ 40) (hq : ∀ h', Eqx [11, 12] h h' → CTr h' (T ++ rS k) → Q (some (.int (tS k n num (w (al n)) x))) h') : mCt mCd 41 [.ref a, .int x, .ref 11] h Q := by
  refine en41 (b41_0 ht.o (k71 ht (by omega) (fun h1 hx1 t1 => ?_)))
  have hv1 := hv.ac hx1
  have hl := rL_l k
  obtain ⟨ha30, hc, hn, hw, fd, f, e1, e2, hf⟩ := id hv1
  refine b41_6 hc e1 (l_sel k hk) (k_l hk hv1 t1 (by rw [List.length_append, List.length_singleton]; omega) (fun h2 hx2 t2 => b41_12 hc ((hx2.2 a (by simp; omega)).trans e1) (g_sel k hk) (k_g hk (hv1.ac hx2) t2 ?_ (fun h3 hx3 t3 => b41_25 (hq h3 ((hx1.tr hx2).tr hx3) ?_)))))
  · rw [List.length_append, List.length_append, List.length_singleton]
    omega
  · have e : T ++ rS k = T ++ [12] ++ rL k ++ rG k := by
      rw [List.append_assoc, List.append_assoc]
      rfl
    rw [e]
    exact t3
theorem k_s {k : Nat} (hk : k ≤ 4) (hv : CV h a (ciK k) num n w) (ht : CTr h T) (hT : T.length + 14 ≤ 40) (hq : ∀ h', Eqx [11, 12] h h' → CTr h' (T ++ rSh k) → Q (some (.int (aSh k n num (w (al n)) x))) h') : mCt mCd (sM k) [.ref a, .int x, .ref 11] h Q := by
  have : k = 0 ∨ k = 1 ∨ k = 2 ∨ k = 3 ∨ k = 4 := by omega
  rcases this with e | e | e | e | e <;> subst e
  · exact k41 (k := 0) hk hv ht (by omega) hq
  · refine en77 (b77_0 ht.o (k71 ht (by omega) (fun h1 hx1 t1 => ?_)))
    have hv1 := hv.ac hx1
    obtain ⟨ha30, hc, hn, hw, fd, f, e1, e2, hf⟩ := id hv1
    refine b77_6 e1 (k41 (k := 1) hk hv1 t1 (by rw [List.length_append, List.length_singleton]; omega) (fun h2 hx2 t2 => b77_12 (hq h2 (hx1.tr hx2) ?_)))
    rw [List.append_assoc] at t2
    exact t2
  · exact k41 (k := 2) hk hv ht (by omega) hq
  · refine en16 (b16_0 ht.o (k71 ht (by omega) (fun h1 hx1 t1 => ?_)))
    have hv1 := hv.ac hx1
    obtain ⟨ha30, hc, hn, hw, fd, f, e1, e2, hf⟩ := id hv1
    refine b16_6 e1 (k39 hv1 t1 (by rw [List.length_append, List.length_singleton]; omega) (fun h2 hx2 t2 => b16_12 ((hx2.2 a (by simp; omega)).trans e1) (k41 (k := 3) hk (hv1.ac hx2) t2 ?_ (fun h3 hx3 t3 => b16_22 (hq h3 ((hx1.tr hx2).tr hx3) ?_)))))
    · rw [List.length_append, List.length_append, List.length_singleton, List.length_singleton]
      omega
    · have e : T ++ rSh 3 = T ++ [40] ++ [10] ++ rS 3 := by
        rw [List.append_assoc, List.append_assoc]
        rfl
      rw [e]
      exact t3
  · exact k41 (k := 4) hk hv ht (by omega) hq
theorem CD.eqx {K : List Nat} (hd : CD h c kd sz W A) (hx : Eqx K h h') (hk : ∀ x, x ∈ K → x < 30 ∧ x ≠ 5 ∧ x ≠ 6) : CD h' c kd sz W A := by
  refine ⟨hd.1, ?_, fun j hj => ?_, hd.2.2.2⟩
  · obtain ⟨g, g1, g2, g3⟩ := hd.2.1
    exact ⟨g, (hx.2 5 (fun m => by have := hk _ m; omega)).trans g1, (hx.2 6 (fun m => by have := hk _ m; omega)).trans g2, g3⟩
  · obtain ⟨k1, k2, k3⟩ := hd.2.2.1 j hj
    have := (hd.cv hj).1
    exact ⟨k1, k2.eq hx (fun x m => by have := hk x m; omega), k3⟩
theorem j106 (hd : CD h c kd sz W A) (ht : CTr h T) {y k : Int} (hy : i32 y) (hk : i32 k) (hq : ∀ h', Eqx [11, 12] h h' → CTr h' (sActT c kd y k) → Q (some (.int (sActV c kd sz W y k x))) h') : mCt mCd 106 [.ref 5, .int (iZ y), .int (iZ k), .int x] h Q := by
  have e5 := hd.o
  obtain ⟨hl, f, t1, t2, hf⟩ := id ht
  have hx0 : Eqx [11, 12] h (h.set 11 (oT (iZ 0))) := (Eqx.rf _ _).st _ (by simp)
  have ht0 : CTr (h.set 11 (oT (iZ 0))) [] := ⟨by decide, f, mGs t1, mGn (by decide) t2, fun k hk => absurd hk (Nat.not_lt_zero _)⟩
  have hd0 := hd.eqx hx0 (by simp)
  have e50 := hd0.o
  unfold sActT sActV at hq
  refine en106 (b106_0 e5 t1 (en70 (b70_0 t1 (b106_7 e50 ?_))))
  by_cases hA : 0 ≤ y ∧ y < c
  · obtain ⟨i, rfl⟩ : ∃ m : Nat, y = m := ⟨y.toNat, by omega⟩
    have hi : i < c := by omega
    have hv := hd0.cv hi
    have hkd := (hd.2.2.1 i hi).1
    obtain ⟨ha30, hc, ⟨hn1, hn4⟩, hw, fd, f', e1, e2, hf'⟩ := id hv
    have hki : (iZ k).toInt = k := iZ_toInt hk
    refine k114y hd0 hi (b106_12_1 (fun z => b106_81 ?_) (fun z => ?_))
    · rw [hki] at z
      have hB : ¬ ((0 ≤ (i : Int) ∧ (i : Int) < c) ∧ 0 ≤ k ∧ k ≤ 2) := by omega
      simp only [if_neg hB] at hq
      exact hq _ hx0 ht0
    · rw [hki] at z ⊢
      have hB : (0 ≤ (i : Int) ∧ (i : Int) < c) ∧ 0 ≤ k ∧ k ≤ 2 := by omega
      simp only [if_pos hB] at hq
      simp only [Int.toNat_natCast] at hq
      have : k = 0 ∨ k = 1 ∨ k = 2 := by omega
      rcases this with e | e | e <;> subst e
      · exact ⟨48, rfl, b106_48 e50 hc e1 (g_sel _ hkd) (k_g hkd hv ht0 (by decide) (fun h2 hx2 t2 => b106_58 (hq h2 (hx0.tr hx2) t2)))⟩
      · exact ⟨59, rfl, b106_59 e50 hc e1 (l_sel _ hkd) (k_l hkd hv ht0 (by decide) (fun h2 hx2 t2 => b106_69 (hq h2 (hx0.tr hx2) t2)))⟩
      · exact ⟨70, rfl, b106_70 e50 hc e1 (s_sel _ hkd) (k_s hkd hv ht0 (by decide) (fun h2 hx2 t2 => b106_80 (hq h2 (hx0.tr hx2) t2)))⟩
  · have hB : ¬ ((0 ≤ y ∧ y < c) ∧ 0 ≤ k ∧ k ≤ 2) := by omega
    simp only [if_neg hB] at hq
    exact k114n hd0 hy hA (b106_12 (hq _ hx0 ht0))
theorem j107 (hd : CD h c kd sz W A) (ht : CTr h T) {k : Int} (hk : i32 k) (hq : Q (some (.int (iZ (sTrace T k)))) h) : mCt mCd 107 [.ref 5, .int (iZ k)] h Q := by
  have e5 := hd.o
  obtain ⟨hl, f, t1, t2, hf⟩ := id ht
  unfold sTrace at hq
  refine en107 (b107_0 e5 t1 (en72 (b72_0 (fun z => b72_21 (b107_8 ?_)) (fun z => b72_4 t1 (fun z2 => b72_21 (b107_8 ?_)) (fun z2 => b72_12 t1 t2 (fun z3 => b72_25 t1 t2 ?_ (b107_8 ?_)) (fun z3 => ?_))))))
  · simp (disch := (first | assumption | omega | (unfold i32; omega) | (unfold i64; omega))) only [iZ_add, iZ_sub, iZ_mul, iZ_neg, lZ_add, lZ_sub, lZ_mul, lZ_neg, lZ_i, iZ_l, iZ_nat, Int.toNat_natCast, iZ_bit, iZ_shl, iZ_or, iZ_lt, iZ_le, iZ_eq, iZ_lt0, iZ_le0, iZ_gt0, iZ_ge0, iZ_eq0, cmp_eq0, cmp_lt0, cmp_le0, cmp_ge0, cmp_gt0, tf_0, tf_n0, Decidable.not_not, not_true_eq_false, not_false_eq_true, Int.toNat_natCast, onat] at z
    rw [if_neg (by omega)] at hq
    exact hq
  · simp (disch := (first | assumption | omega | (unfold i32; omega) | (unfold i64; omega))) only [iZ_add, iZ_sub, iZ_mul, iZ_neg, lZ_add, lZ_sub, lZ_mul, lZ_neg, lZ_i, iZ_l, iZ_nat, Int.toNat_natCast, iZ_bit, iZ_shl, iZ_or, iZ_lt, iZ_le, iZ_eq, iZ_lt0, iZ_le0, iZ_gt0, iZ_ge0, iZ_eq0, cmp_eq0, cmp_lt0, cmp_le0, cmp_ge0, cmp_gt0, tf_0, tf_n0, Decidable.not_not, not_true_eq_false, not_false_eq_true, Int.toNat_natCast, onat] at z2
    rw [if_neg (by omega)] at hq
    exact hq
  · simp (disch := (first | assumption | omega | (unfold i32; omega) | (unfold i64; omega))) only [iZ_add, iZ_sub, iZ_mul, iZ_neg, lZ_add, lZ_sub, lZ_mul, lZ_neg, lZ_i, iZ_l, iZ_nat, Int.toNat_natCast, iZ_bit, iZ_shl, iZ_or, iZ_lt, iZ_le, iZ_eq, iZ_lt0, iZ_le0, iZ_gt0, iZ_ge0, iZ_eq0, cmp_eq0, cmp_lt0, cmp_le0, cmp_ge0, cmp_gt0, tf_0, tf_n0, Decidable.not_not, not_true_eq_false, not_false_eq_true, Int.toNat_natCast, onat] at z
    simp (disch := (first | assumption | omega | (unfold i32; omega) | (unfold i64; omega))) only [iZ_add, iZ_sub, iZ_mul, iZ_neg, lZ_add, lZ_sub, lZ_mul, lZ_neg, lZ_i, iZ_l, iZ_nat, Int.toNat_natCast, iZ_bit, iZ_shl, iZ_or, iZ_lt, iZ_le, iZ_eq, iZ_lt0, iZ_le0, iZ_gt0, iZ_ge0, iZ_eq0, cmp_eq0, cmp_lt0, cmp_le0, cmp_ge0, cmp_gt0, tf_0, tf_n0, Decidable.not_not, not_true_eq_false, not_false_eq_true, Int.toNat_natCast, onat] at z2
    exact iZ_in (by omega) (by omega) (by decide)
  · simp (disch := (first | assumption | omega | (unfold i32; omega) | (unfold i64; omega))) only [iZ_add, iZ_sub, iZ_mul, iZ_neg, lZ_add, lZ_sub, lZ_mul, lZ_neg, lZ_i, iZ_l, iZ_nat, Int.toNat_natCast, iZ_bit, iZ_shl, iZ_or, iZ_lt, iZ_le, iZ_eq, iZ_lt0, iZ_le0, iZ_gt0, iZ_ge0, iZ_eq0, cmp_eq0, cmp_lt0, cmp_le0, cmp_ge0, cmp_gt0, tf_0, tf_n0, Decidable.not_not, not_true_eq_false, not_false_eq_true, Int.toNat_natCast, onat] at z
    simp (disch := (first | assumption | omega | (unfold i32; omega) | (unfold i64; omega))) only [iZ_add, iZ_sub, iZ_mul, iZ_neg, lZ_add, lZ_sub, lZ_mul, lZ_neg, lZ_i, iZ_l, iZ_nat, Int.toNat_natCast, iZ_bit, iZ_shl, iZ_or, iZ_lt, iZ_le, iZ_eq, iZ_lt0, iZ_le0, iZ_gt0, iZ_ge0, iZ_eq0, cmp_eq0, cmp_lt0, cmp_le0, cmp_ge0, cmp_gt0, tf_0, tf_n0, Decidable.not_not, not_true_eq_false, not_false_eq_true, Int.toNat_natCast, onat] at z2
    rw [if_pos (by omega)] at hq
    rw [iZ_nat (by omega) (by omega), hf _ (by omega)]
    exact hq
  · simp (disch := (first | assumption | omega | (unfold i32; omega) | (unfold i64; omega))) only [iZ_add, iZ_sub, iZ_mul, iZ_neg, lZ_add, lZ_sub, lZ_mul, lZ_neg, lZ_i, iZ_l, iZ_nat, Int.toNat_natCast, iZ_bit, iZ_shl, iZ_or, iZ_lt, iZ_le, iZ_eq, iZ_lt0, iZ_le0, iZ_gt0, iZ_ge0, iZ_eq0, cmp_eq0, cmp_lt0, cmp_le0, cmp_ge0, cmp_gt0, tf_0, tf_n0, Decidable.not_not, not_true_eq_false, not_false_eq_true, Int.toNat_natCast, onat] at z
    simp (disch := (first | assumption | omega | (unfold i32; omega) | (unfold i64; omega))) only [iZ_add, iZ_sub, iZ_mul, iZ_neg, lZ_add, lZ_sub, lZ_mul, lZ_neg, lZ_i, iZ_l, iZ_nat, Int.toNat_natCast, iZ_bit, iZ_shl, iZ_or, iZ_lt, iZ_le, iZ_eq, iZ_lt0, iZ_le0, iZ_gt0, iZ_ge0, iZ_eq0, cmp_eq0, cmp_lt0, cmp_le0, cmp_ge0, cmp_gt0, tf_0, tf_n0, Decidable.not_not, not_true_eq_false, not_false_eq_true, Int.toNat_natCast, onat] at z2
    simp (disch := (first | assumption | omega | (unfold i32; omega) | (unfold i64; omega))) only [iZ_add, iZ_sub, iZ_mul, iZ_neg, lZ_add, lZ_sub, lZ_mul, lZ_neg, lZ_i, iZ_l, iZ_nat, Int.toNat_natCast, iZ_bit, iZ_shl, iZ_or, iZ_lt, iZ_le, iZ_eq, iZ_lt0, iZ_le0, iZ_gt0, iZ_ge0, iZ_eq0, cmp_eq0, cmp_lt0, cmp_le0, cmp_ge0, cmp_gt0, tf_0, tf_n0, Decidable.not_not, not_true_eq_false, not_false_eq_true, Int.toNat_natCast, onat] at z3
    omega
theorem j108 {r : Nat} {f : Nat → Int64} (hd : CD h c kd sz W A) (ht : CTr h T) (hp : CP h 7 r f) {k : Int} (hk : i32 k) (hq : Q (some (.int (iZ (sCount c r T k)))) h) : mCt mCd 108 [.ref 5, .int (iZ k)] h Q := by
  have e5 := hd.o
  have hki : (iZ k).toInt = k := iZ_toInt hk
  obtain ⟨_, _, g, p1, _⟩ := hp
  unfold sCount at hq
  refine en108 (b108_0 (fun z => b108_49 ?_) (fun z => ?_))
  · rw [hki] at z
    rw [if_neg (by omega), if_neg (by omega), if_neg (by omega)] at hq
    exact hq
  · rw [hki] at z ⊢
    have : k = 0 ∨ k = 1 ∨ k = 2 := by omega
    rcases this with e | e | e <;> subst e
    · exact ⟨28, rfl, b108_28 e5 hq⟩
    · exact ⟨33, rfl, b108_33 e5 p1 hq⟩
    · exact ⟨41, rfl, b108_41 e5 ht.o hq⟩
end CA
