/-! ===== the reference: spread ===== -/

def upE (way b x : Int) : Int := if way = 0 then (if x < b then x else b) else (if b < x then x else b)
def bv (way : Int) (L : List (Nat → Int)) (p : Nat) : Nat → Int
  | 0 => L.getD 0 o0 p
  | k + 1 => upE way (bv way L p k) (L.getD (k + 1) o0 p)
def sSpread (c : Nat) (sz : Nat → Nat) (W : Nat → Nat → Int) (a p y k : Int) : Int := if 0 ≤ a ∧ a < c then (if (0 ≤ p ∧ p < sz a.toNat) ∧ (0 ≤ y ∧ y ≤ 1) ∧ 0 ≤ k ∧ k ≤ 1 then (if (corL (sz a.toNat) (W a.toNat)).length = 0 then NOz else lowZ (bv y (corL (sz a.toNat) (W a.toNat)) p.toNat ((corL (sz a.toNat) (W a.toNat)).length - 1)) 2 k.toNat) else NOz) else NOz
theorem sgn_2 (a b : Int) : (0 ≤ lowZ a 2 0 * lowZ b 2 1 - lowZ b 2 0 * lowZ a 2 1 ↔ b ≤ a) ∧ (lowZ a 2 0 * lowZ b 2 1 - lowZ b 2 0 * lowZ a 2 1 ≤ 0 ↔ a ≤ b) := by
  obtain ⟨g, hg, a0, a1⟩ := low2 a
  obtain ⟨g', hg', b0, b1⟩ := low2 b
  generalize lowZ a 2 0 = x0 at *
  generalize lowZ a 2 1 = x1 at *
  generalize lowZ b 2 0 = y0 at *
  generalize lowZ b 2 1 = y1 at *
  have e : (x0 * y1 - y0 * x1) * (g * g') = 2 * (a - b) := by grind
  generalize x0 * y1 - y0 * x1 = d at *
  have : g * g' = 1 ∨ g * g' = 2 ∨ g * g' = 4 := by
    rcases hg with q | q <;> rcases hg' with q' | q' <;> subst q <;> subst q' <;> decide
  rcases this with q | q | q <;> rw [q] at e <;> omega
section MQ
variable {h h' : mH} {Q : Option Value → mH → Prop} {i n c : Nat} {w : Nat → Int} {kd sz : Nat → Nat} {W : Nat → Nat → Int} {a p s y k q : Int}
theorem l184 {L : List (Nat → Int)} {v : Int32} {bA bB : Int64} {rw_ bo : Int32} {p : Nat} {y k : Int} (hrc : RC h n L v bA bB rw_ bo) (hL : L.length ≤ 24) (hn : n ≤ 4) (hp : p < n) (hy : 0 ≤ y ∧ y ≤ 1) (hk : 0 ≤ k ∧ k ≤ 1) (hq : Q (some (.long (lZ (lowZ (bv y L p (L.length - 1)) 2 k.toNat)))) h) : ∀ d j b : Nat, j + d = L.length → b < j → L.getD b o0 p = bv y L p (j - 1) → mWp mCd 184 (64, [some (.ref 14), none, some (.int (iZ p)), some (.int (iZ y)), some (.int (iZ k)), some (.int (iZ b)), some (.int (iZ j)), none, none], [], h, 0, 0) Q := by
  obtain ⟨hbL, fa, fu, e1, e3, e4, hf⟩ := hrc
  have hs : True := trivial
  intro d
  induction d with
  | zero =>
    intro j b hj hb hv
    have hf2 := hf b (by omega) p hp
    have hin : ¬ (iZ 4 * iZ b + iZ p < 0 ∨ 1600 ≤ (iZ 4 * iZ b + iZ p).toNatClampNeg) := by
      rw [iZ_mul, iZ_add]
      exact iZ_in (by omega) (by omega) (by decide)
    rw [show L.length - 1 = j - 1 by omega, ← hv] at hq
    refine b184_64 e1 (fun _ => b184_153 (fun q => b184_172 e1 e4 hin ?_) (fun q => b184_158 e1 e3 hin ?_)) (fun q => ?_)
    · simp (disch := (first | assumption | omega | (unfold i32; omega) | (unfold i64; omega))) only [iZ_add, iZ_sub, iZ_mul, iZ_neg, lZ_add, lZ_sub, lZ_mul, lZ_neg, lZ_i, iZ_l, iZ_nat, Int.toNat_natCast, iZ_bit, iZ_shl, iZ_or, iZ_lt, iZ_le, iZ_eq, iZ_lt0, iZ_le0, iZ_gt0, iZ_ge0, iZ_eq0, cmp_eq0, cmp_lt0, cmp_le0, cmp_ge0, cmp_gt0, tf_0, tf_n0, Decidable.not_not, not_true_eq_false, not_false_eq_true, hs, Int.toNat_natCast, tn4] at q
      simp (disch := (first | assumption | omega | (unfold i32; omega) | (unfold i64; omega))) only [iZ_add, iZ_sub, iZ_mul, iZ_neg, lZ_add, lZ_sub, lZ_mul, lZ_neg, lZ_i, iZ_l, iZ_nat, Int.toNat_natCast, iZ_bit, iZ_shl, iZ_or, iZ_lt, iZ_le, iZ_eq, iZ_lt0, iZ_le0, iZ_gt0, iZ_ge0, iZ_eq0, cmp_eq0, cmp_lt0, cmp_le0, cmp_ge0, cmp_gt0, tf_0, tf_n0, Decidable.not_not, not_true_eq_false, not_false_eq_true, hs, Int.toNat_natCast, tn4]
      rw [hf2.2]
      have : k = 1 := by omega
      subst this
      exact hq
    · simp (disch := (first | assumption | omega | (unfold i32; omega) | (unfold i64; omega))) only [iZ_add, iZ_sub, iZ_mul, iZ_neg, lZ_add, lZ_sub, lZ_mul, lZ_neg, lZ_i, iZ_l, iZ_nat, Int.toNat_natCast, iZ_bit, iZ_shl, iZ_or, iZ_lt, iZ_le, iZ_eq, iZ_lt0, iZ_le0, iZ_gt0, iZ_ge0, iZ_eq0, cmp_eq0, cmp_lt0, cmp_le0, cmp_ge0, cmp_gt0, tf_0, tf_n0, Decidable.not_not, not_true_eq_false, not_false_eq_true, hs, Int.toNat_natCast, tn4] at q
      simp (disch := (first | assumption | omega | (unfold i32; omega) | (unfold i64; omega))) only [iZ_add, iZ_sub, iZ_mul, iZ_neg, lZ_add, lZ_sub, lZ_mul, lZ_neg, lZ_i, iZ_l, iZ_nat, Int.toNat_natCast, iZ_bit, iZ_shl, iZ_or, iZ_lt, iZ_le, iZ_eq, iZ_lt0, iZ_le0, iZ_gt0, iZ_ge0, iZ_eq0, cmp_eq0, cmp_lt0, cmp_le0, cmp_ge0, cmp_gt0, tf_0, tf_n0, Decidable.not_not, not_true_eq_false, not_false_eq_true, hs, Int.toNat_natCast, tn4]
      rw [hf2.1]
      subst q
      exact hq
    · simp (disch := (first | assumption | omega | (unfold i32; omega) | (unfold i64; omega))) only [iZ_add, iZ_sub, iZ_mul, iZ_neg, lZ_add, lZ_sub, lZ_mul, lZ_neg, lZ_i, iZ_l, iZ_nat, Int.toNat_natCast, iZ_bit, iZ_shl, iZ_or, iZ_lt, iZ_le, iZ_eq, iZ_lt0, iZ_le0, iZ_gt0, iZ_ge0, iZ_eq0, cmp_eq0, cmp_lt0, cmp_le0, cmp_ge0, cmp_gt0, tf_0, tf_n0, Decidable.not_not, not_true_eq_false, not_false_eq_true, hs, Int.toNat_natCast, tn4] at q
      omega
  | succ d ih =>
    intro j b hj hb hv
    have hfb := hf b (by omega) p hp
    have hfj := hf j (by omega) p hp
    have hin : ¬ (iZ 4 * iZ b + iZ p < 0 ∨ 1600 ≤ (iZ 4 * iZ b + iZ p).toNatClampNeg) := by
      rw [iZ_mul, iZ_add]
      exact iZ_in (by omega) (by omega) (by decide)
    have hin2 : ¬ (iZ 4 * iZ j + iZ p < 0 ∨ 1600 ≤ (iZ 4 * iZ j + iZ p).toNatClampNeg) := by
      rw [iZ_mul, iZ_add]
      exact iZ_in (by omega) (by omega) (by decide)
    have sg := sgn_2 (L.getD j o0 p) (L.getD b o0 p)
    have bb := low_b (hbL b (by omega) p hp)
    have bj := low_b (hbL j (by omega) p hp)
    have m1 := bd_mul bj.1 bb.2
    have m2 := bd_mul bb.1 bj.2
    have li : i64 (lowZ (L.getD j o0 p) 2 0 * lowZ (L.getD b o0 p) 2 1 - lowZ (L.getD b o0 p) 2 0 * lowZ (L.getD j o0 p) 2 1) := by unfold bd at m1 m2; unfold i64; omega
    have l0 : i64 0 := ⟨by omega, by omega⟩
    have hu : bv y L p (j + 1 - 1) = upE y (bv y L p (j - 1)) (L.getD j o0 p) := by
      obtain ⟨m, rfl⟩ : ∃ m, j = m + 1 := ⟨j - 1, by omega⟩
      rfl
    rw [← hv] at hu
    unfold upE at hu
    refine b184_64 e1 (fun q => ?_) (fun _ => b184_73 e1 e3 hin2 e4 hin (fun q => ?_) (fun q => ?_))
    · simp (disch := (first | assumption | omega | (unfold i32; omega) | (unfold i64; omega))) only [iZ_add, iZ_sub, iZ_mul, iZ_neg, lZ_add, lZ_sub, lZ_mul, lZ_neg, lZ_i, iZ_l, iZ_nat, Int.toNat_natCast, iZ_bit, iZ_shl, iZ_or, iZ_lt, iZ_le, iZ_eq, iZ_lt0, iZ_le0, iZ_gt0, iZ_ge0, iZ_eq0, cmp_eq0, cmp_lt0, cmp_le0, cmp_ge0, cmp_gt0, tf_0, tf_n0, Decidable.not_not, not_true_eq_false, not_false_eq_true, hs, Int.toNat_natCast, tn4] at q
      omega
    · simp (disch := (first | assumption | omega | (unfold i32; omega) | (unfold i64; omega))) only [iZ_add, iZ_sub, iZ_mul, iZ_neg, lZ_add, lZ_sub, lZ_mul, lZ_neg, lZ_i, iZ_l, iZ_nat, Int.toNat_natCast, iZ_bit, iZ_shl, iZ_or, iZ_lt, iZ_le, iZ_eq, iZ_lt0, iZ_le0, iZ_gt0, iZ_ge0, iZ_eq0, cmp_eq0, cmp_lt0, cmp_le0, cmp_ge0, cmp_gt0, tf_0, tf_n0, Decidable.not_not, not_true_eq_false, not_false_eq_true, hs, Int.toNat_natCast, tn4] at q
      simp (disch := (first | assumption | omega | (unfold i32; omega) | (unfold i64; omega))) only [iZ_add, iZ_sub, iZ_mul, iZ_neg, lZ_add, lZ_sub, lZ_mul, lZ_neg, lZ_i, iZ_l, iZ_nat, Int.toNat_natCast, iZ_bit, iZ_shl, iZ_or, iZ_lt, iZ_le, iZ_eq, iZ_lt0, iZ_le0, iZ_gt0, iZ_ge0, iZ_eq0, cmp_eq0, cmp_lt0, cmp_le0, cmp_ge0, cmp_gt0, tf_0, tf_n0, Decidable.not_not, not_true_eq_false, not_false_eq_true, hs, Int.toNat_natCast, tn4, hfb.1, hfb.2, hfj.1, hfj.2]
      rw [if_neg q] at hu
      refine b184_136 (fun q2 => b184_147 ?_) (fun q2 => b184_143 (b184_147 ?_))
      · simp (disch := (first | assumption | omega | (unfold i32; omega) | (unfold i64; omega))) only [iZ_add, iZ_sub, iZ_mul, iZ_neg, lZ_add, lZ_sub, lZ_mul, lZ_neg, lZ_i, iZ_l, iZ_nat, Int.toNat_natCast, iZ_bit, iZ_shl, iZ_or, iZ_lt, iZ_le, iZ_eq, iZ_lt0, iZ_le0, iZ_gt0, iZ_ge0, iZ_eq0, cmp_eq0, cmp_lt0, cmp_le0, cmp_ge0, cmp_gt0, tf_0, tf_n0, Decidable.not_not, not_true_eq_false, not_false_eq_true, hs, Int.toNat_natCast, tn4] at q2
        simp (disch := (first | assumption | omega | (unfold i32; omega) | (unfold i64; omega))) only [iZ_add, iZ_sub, iZ_mul, iZ_neg, lZ_add, lZ_sub, lZ_mul, lZ_neg, lZ_i, iZ_l, iZ_nat, Int.toNat_natCast, iZ_bit, iZ_shl, iZ_or, iZ_lt, iZ_le, iZ_eq, iZ_lt0, iZ_le0, iZ_gt0, iZ_ge0, iZ_eq0, cmp_eq0, cmp_lt0, cmp_le0, cmp_ge0, cmp_gt0, tf_0, tf_n0, Decidable.not_not, not_true_eq_false, not_false_eq_true, hs, Int.toNat_natCast, tn4]
        have := sg.2.mp q2
        rw [if_neg (by omega)] at hu
        exact ih (j + 1) b (by omega) (by omega) hu.symm
      · simp (disch := (first | assumption | omega | (unfold i32; omega) | (unfold i64; omega))) only [iZ_add, iZ_sub, iZ_mul, iZ_neg, lZ_add, lZ_sub, lZ_mul, lZ_neg, lZ_i, iZ_l, iZ_nat, Int.toNat_natCast, iZ_bit, iZ_shl, iZ_or, iZ_lt, iZ_le, iZ_eq, iZ_lt0, iZ_le0, iZ_gt0, iZ_ge0, iZ_eq0, cmp_eq0, cmp_lt0, cmp_le0, cmp_ge0, cmp_gt0, tf_0, tf_n0, Decidable.not_not, not_true_eq_false, not_false_eq_true, hs, Int.toNat_natCast, tn4] at q2
        simp (disch := (first | assumption | omega | (unfold i32; omega) | (unfold i64; omega))) only [iZ_add, iZ_sub, iZ_mul, iZ_neg, lZ_add, lZ_sub, lZ_mul, lZ_neg, lZ_i, iZ_l, iZ_nat, Int.toNat_natCast, iZ_bit, iZ_shl, iZ_or, iZ_lt, iZ_le, iZ_eq, iZ_lt0, iZ_le0, iZ_gt0, iZ_ge0, iZ_eq0, cmp_eq0, cmp_lt0, cmp_le0, cmp_ge0, cmp_gt0, tf_0, tf_n0, Decidable.not_not, not_true_eq_false, not_false_eq_true, hs, Int.toNat_natCast, tn4]
        have h3 : ¬ L.getD j o0 p ≤ L.getD b o0 p := fun z => q2 (sg.2.mpr z)
        rw [if_pos (by omega)] at hu
        exact ih (j + 1) j (by omega) (by omega) hu.symm
    · simp (disch := (first | assumption | omega | (unfold i32; omega) | (unfold i64; omega))) only [iZ_add, iZ_sub, iZ_mul, iZ_neg, lZ_add, lZ_sub, lZ_mul, lZ_neg, lZ_i, iZ_l, iZ_nat, Int.toNat_natCast, iZ_bit, iZ_shl, iZ_or, iZ_lt, iZ_le, iZ_eq, iZ_lt0, iZ_le0, iZ_gt0, iZ_ge0, iZ_eq0, cmp_eq0, cmp_lt0, cmp_le0, cmp_ge0, cmp_gt0, tf_0, tf_n0, Decidable.not_not, not_true_eq_false, not_false_eq_true, hs, Int.toNat_natCast, tn4] at q
      simp (disch := (first | assumption | omega | (unfold i32; omega) | (unfold i64; omega))) only [iZ_add, iZ_sub, iZ_mul, iZ_neg, lZ_add, lZ_sub, lZ_mul, lZ_neg, lZ_i, iZ_l, iZ_nat, Int.toNat_natCast, iZ_bit, iZ_shl, iZ_or, iZ_lt, iZ_le, iZ_eq, iZ_lt0, iZ_le0, iZ_gt0, iZ_ge0, iZ_eq0, cmp_eq0, cmp_lt0, cmp_le0, cmp_ge0, cmp_gt0, tf_0, tf_n0, Decidable.not_not, not_true_eq_false, not_false_eq_true, hs, Int.toNat_natCast, tn4, hfb.1, hfb.2, hfj.1, hfj.2]
      rw [if_pos q] at hu
      refine b184_126 (fun q2 => b184_147 ?_) (fun q2 => b184_133 (b184_143 (b184_147 ?_)))
      · simp (disch := (first | assumption | omega | (unfold i32; omega) | (unfold i64; omega))) only [iZ_add, iZ_sub, iZ_mul, iZ_neg, lZ_add, lZ_sub, lZ_mul, lZ_neg, lZ_i, iZ_l, iZ_nat, Int.toNat_natCast, iZ_bit, iZ_shl, iZ_or, iZ_lt, iZ_le, iZ_eq, iZ_lt0, iZ_le0, iZ_gt0, iZ_ge0, iZ_eq0, cmp_eq0, cmp_lt0, cmp_le0, cmp_ge0, cmp_gt0, tf_0, tf_n0, Decidable.not_not, not_true_eq_false, not_false_eq_true, hs, Int.toNat_natCast, tn4] at q2
        simp (disch := (first | assumption | omega | (unfold i32; omega) | (unfold i64; omega))) only [iZ_add, iZ_sub, iZ_mul, iZ_neg, lZ_add, lZ_sub, lZ_mul, lZ_neg, lZ_i, iZ_l, iZ_nat, Int.toNat_natCast, iZ_bit, iZ_shl, iZ_or, iZ_lt, iZ_le, iZ_eq, iZ_lt0, iZ_le0, iZ_gt0, iZ_ge0, iZ_eq0, cmp_eq0, cmp_lt0, cmp_le0, cmp_ge0, cmp_gt0, tf_0, tf_n0, Decidable.not_not, not_true_eq_false, not_false_eq_true, hs, Int.toNat_natCast, tn4]
        have := sg.1.mp q2
        rw [if_neg (by omega)] at hu
        exact ih (j + 1) b (by omega) (by omega) hu.symm
      · simp (disch := (first | assumption | omega | (unfold i32; omega) | (unfold i64; omega))) only [iZ_add, iZ_sub, iZ_mul, iZ_neg, lZ_add, lZ_sub, lZ_mul, lZ_neg, lZ_i, iZ_l, iZ_nat, Int.toNat_natCast, iZ_bit, iZ_shl, iZ_or, iZ_lt, iZ_le, iZ_eq, iZ_lt0, iZ_le0, iZ_gt0, iZ_ge0, iZ_eq0, cmp_eq0, cmp_lt0, cmp_le0, cmp_ge0, cmp_gt0, tf_0, tf_n0, Decidable.not_not, not_true_eq_false, not_false_eq_true, hs, Int.toNat_natCast, tn4] at q2
        simp (disch := (first | assumption | omega | (unfold i32; omega) | (unfold i64; omega))) only [iZ_add, iZ_sub, iZ_mul, iZ_neg, lZ_add, lZ_sub, lZ_mul, lZ_neg, lZ_i, iZ_l, iZ_nat, Int.toNat_natCast, iZ_bit, iZ_shl, iZ_or, iZ_lt, iZ_le, iZ_eq, iZ_lt0, iZ_le0, iZ_gt0, iZ_ge0, iZ_eq0, cmp_eq0, cmp_lt0, cmp_le0, cmp_ge0, cmp_gt0, tf_0, tf_n0, Decidable.not_not, not_true_eq_false, not_false_eq_true, hs, Int.toNat_natCast, tn4]
        have h3 : ¬ L.getD b o0 p ≤ L.getD j o0 p := fun z => q2 (sg.1.mpr z)
        rw [if_pos (by omega)] at hu
        exact ih (j + 1) j (by omega) (by omega) hu.symm
theorem r184 (hr : RV h c kd sz W) (hx : RX h) (hw0 : ∀ i, i < c → W i 0 = 0) (ha : i32 a) (hp : i32 p) (hy : i32 y) (hk : i32 k) (hq : ∀ h', AskS h h' → Q (some (.long (lZ (sSpread c sz W a p y k)))) h') : mCt mCd 184 [.ref 14, .int (iZ a), .int (iZ p), .int (iZ y), .int (iZ k)] h Q := by
  obtain ⟨cor, bA, bB, rw_, bo, e1⟩ := hr.o
  have hs : True := trivial
  have hq0 := hq h (AskS.rf hx)
  unfold sSpread at hq hq0
  by_cases hA : 0 ≤ a ∧ a < c
  · rw [if_pos hA] at hq hq0
    obtain ⟨i, rfl⟩ : ∃ m : Nat, a = m := ⟨a.toNat, by omega⟩
    have hi : i < c := by omega
    have hv := hr.mv hi
    have hw := hw0 i hi
    obtain ⟨hi11, ⟨hn1, hn4⟩, hwb, -⟩ := id hv
    simp only [Int.toNat_natCast] at hq hq0
    have h24 := corL_24 hn1 hn4 hw
    by_cases hB : (0 ≤ p ∧ p < sz i) ∧ (0 ≤ y ∧ y ≤ 1) ∧ 0 ≤ k ∧ k ≤ 1
    · simp only [if_pos hB] at hq
      obtain ⟨p, rfl⟩ : ∃ m : Nat, p = m := ⟨p.toNat, by omega⟩
      simp only [Int.toNat_natCast] at hq
      refine en184 (b184_0 e1 (r138 hr ha (b184_5 (fun q => ?_) (fun _ => b184_8 e1 (c143 hv hp (b184_14 (fun q => ?_) (fun _ => b184_17 e1 (c137 hy (by unfold i32; omega) (by unfold i32; omega) (b184_24 (fun q => ?_) (fun _ => b184_27 e1 (c137 hk (by unfold i32; omega) (by unfold i32; omega) (b184_35 (fun _ => b184_42 e1 (c182a hw hv e1 hx (fun h2 hrc hask => ?_))) (fun q => ?_)))))))))))))
      · simp (disch := (first | assumption | omega | (unfold i32; omega) | (unfold i64; omega))) only [iZ_add, iZ_sub, iZ_mul, iZ_neg, lZ_add, lZ_sub, lZ_mul, lZ_neg, lZ_i, iZ_l, iZ_nat, Int.toNat_natCast, iZ_bit, iZ_shl, iZ_or, iZ_lt, iZ_le, iZ_eq, iZ_lt0, iZ_le0, iZ_gt0, iZ_ge0, iZ_eq0, cmp_eq0, cmp_lt0, cmp_le0, cmp_ge0, cmp_gt0, tf_0, tf_n0, Decidable.not_not, not_true_eq_false, not_false_eq_true, hs, Int.toNat_natCast, tn4] at q
        omega
      · simp (disch := (first | assumption | omega | (unfold i32; omega) | (unfold i64; omega))) only [iZ_add, iZ_sub, iZ_mul, iZ_neg, lZ_add, lZ_sub, lZ_mul, lZ_neg, lZ_i, iZ_l, iZ_nat, Int.toNat_natCast, iZ_bit, iZ_shl, iZ_or, iZ_lt, iZ_le, iZ_eq, iZ_lt0, iZ_le0, iZ_gt0, iZ_ge0, iZ_eq0, cmp_eq0, cmp_lt0, cmp_le0, cmp_ge0, cmp_gt0, tf_0, tf_n0, Decidable.not_not, not_true_eq_false, not_false_eq_true, hs, Int.toNat_natCast, tn4] at q
        omega
      · simp (disch := (first | assumption | omega | (unfold i32; omega) | (unfold i64; omega))) only [iZ_add, iZ_sub, iZ_mul, iZ_neg, lZ_add, lZ_sub, lZ_mul, lZ_neg, lZ_i, iZ_l, iZ_nat, Int.toNat_natCast, iZ_bit, iZ_shl, iZ_or, iZ_lt, iZ_le, iZ_eq, iZ_lt0, iZ_le0, iZ_gt0, iZ_ge0, iZ_eq0, cmp_eq0, cmp_lt0, cmp_le0, cmp_ge0, cmp_gt0, tf_0, tf_n0, Decidable.not_not, not_true_eq_false, not_false_eq_true, hs, Int.toNat_natCast, tn4] at q
        omega
      · have hq2 := hq h2 hask
        obtain ⟨_, fa, fu, d1, d2, d3, hf⟩ := id hrc
        refine b184_47 d1 (fun q => ?_) (fun q => b184_54 ?_)
        · simp (disch := (first | assumption | omega | (unfold i32; omega) | (unfold i64; omega))) only [iZ_add, iZ_sub, iZ_mul, iZ_neg, lZ_add, lZ_sub, lZ_mul, lZ_neg, lZ_i, iZ_l, iZ_nat, Int.toNat_natCast, iZ_bit, iZ_shl, iZ_or, iZ_lt, iZ_le, iZ_eq, iZ_lt0, iZ_le0, iZ_gt0, iZ_ge0, iZ_eq0, cmp_eq0, cmp_lt0, cmp_le0, cmp_ge0, cmp_gt0, tf_0, tf_n0, Decidable.not_not, not_true_eq_false, not_false_eq_true, hs, Int.toNat_natCast, tn4] at q
          rw [if_neg (by omega)] at hq2
          exact b184_58 (l184 hrc h24 hn4 (by omega) hB.2.1 hB.2.2 hq2 ((corL (sz i) (W i)).length - 1) 1 0 (by omega) (by omega) rfl)
        · simp (disch := (first | assumption | omega | (unfold i32; omega) | (unfold i64; omega))) only [iZ_add, iZ_sub, iZ_mul, iZ_neg, lZ_add, lZ_sub, lZ_mul, lZ_neg, lZ_i, iZ_l, iZ_nat, Int.toNat_natCast, iZ_bit, iZ_shl, iZ_or, iZ_lt, iZ_le, iZ_eq, iZ_lt0, iZ_le0, iZ_gt0, iZ_ge0, iZ_eq0, cmp_eq0, cmp_lt0, cmp_le0, cmp_ge0, cmp_gt0, tf_0, tf_n0, Decidable.not_not, not_true_eq_false, not_false_eq_true, hs, Int.toNat_natCast, tn4] at q
          rw [if_pos (by omega)] at hq2
          exact hq2
      · simp (disch := (first | assumption | omega | (unfold i32; omega) | (unfold i64; omega))) only [iZ_add, iZ_sub, iZ_mul, iZ_neg, lZ_add, lZ_sub, lZ_mul, lZ_neg, lZ_i, iZ_l, iZ_nat, Int.toNat_natCast, iZ_bit, iZ_shl, iZ_or, iZ_lt, iZ_le, iZ_eq, iZ_lt0, iZ_le0, iZ_gt0, iZ_ge0, iZ_eq0, cmp_eq0, cmp_lt0, cmp_le0, cmp_ge0, cmp_gt0, tf_0, tf_n0, Decidable.not_not, not_true_eq_false, not_false_eq_true, hs, Int.toNat_natCast, tn4] at q
        omega
    · rw [if_neg hB] at hq0
      repeat' (first
    | refine en184 ?_
    | exact hq0
    | refine r138 hr ha ?_
    | refine c137 (by assumption) (by unfold i32; omega) (by unfold i32; omega) ?_
    | refine c143 hv (by assumption) ?_
    | exact iZ_in (by omega) (by omega) (by decide)
    | simp (disch := (first | assumption | omega | (unfold i32; omega) | (unfold i64; omega))) only [iZ_add, iZ_sub, iZ_mul, iZ_neg, lZ_add, lZ_sub, lZ_mul, lZ_neg, lZ_i, iZ_l, iZ_nat, Int.toNat_natCast, iZ_bit, iZ_shl, iZ_or, iZ_lt, iZ_le, iZ_eq, iZ_lt0, iZ_le0, iZ_gt0, iZ_ge0, iZ_eq0, cmp_eq0, cmp_lt0, cmp_le0, cmp_ge0, cmp_gt0, tf_0, tf_n0, Decidable.not_not, not_true_eq_false, not_false_eq_true, hs, Int.toNat_natCast, tn4]
    | refine b184_0 (by first | assumption | (repeat' (first | assumption | refine mGs ?_ | refine mGn (by omega) ?_))) ?_
    | (refine b184_5 (fun q => ?_) (fun q => ?_) <;> (try simp (disch := (first | assumption | omega | (unfold i32; omega) | (unfold i64; omega))) only [iZ_add, iZ_sub, iZ_mul, iZ_neg, lZ_add, lZ_sub, lZ_mul, lZ_neg, lZ_i, iZ_l, iZ_nat, Int.toNat_natCast, iZ_bit, iZ_shl, iZ_or, iZ_lt, iZ_le, iZ_eq, iZ_lt0, iZ_le0, iZ_gt0, iZ_ge0, iZ_eq0, cmp_eq0, cmp_lt0, cmp_le0, cmp_ge0, cmp_gt0, tf_0, tf_n0, Decidable.not_not, not_true_eq_false, not_false_eq_true, hs, Int.toNat_natCast, tn4] at q) <;> (try (exfalso; omega)))
    | refine b184_38 ?_
    | refine b184_8 (by first | assumption | (repeat' (first | assumption | refine mGs ?_ | refine mGn (by omega) ?_))) ?_
    | (refine b184_14 (fun q => ?_) (fun q => ?_) <;> (try simp (disch := (first | assumption | omega | (unfold i32; omega) | (unfold i64; omega))) only [iZ_add, iZ_sub, iZ_mul, iZ_neg, lZ_add, lZ_sub, lZ_mul, lZ_neg, lZ_i, iZ_l, iZ_nat, Int.toNat_natCast, iZ_bit, iZ_shl, iZ_or, iZ_lt, iZ_le, iZ_eq, iZ_lt0, iZ_le0, iZ_gt0, iZ_ge0, iZ_eq0, cmp_eq0, cmp_lt0, cmp_le0, cmp_ge0, cmp_gt0, tf_0, tf_n0, Decidable.not_not, not_true_eq_false, not_false_eq_true, hs, Int.toNat_natCast, tn4] at q) <;> (try (exfalso; omega)))
    | refine b184_17 (by first | assumption | (repeat' (first | assumption | refine mGs ?_ | refine mGn (by omega) ?_))) ?_
    | (refine b184_24 (fun q => ?_) (fun q => ?_) <;> (try simp (disch := (first | assumption | omega | (unfold i32; omega) | (unfold i64; omega))) only [iZ_add, iZ_sub, iZ_mul, iZ_neg, lZ_add, lZ_sub, lZ_mul, lZ_neg, lZ_i, iZ_l, iZ_nat, Int.toNat_natCast, iZ_bit, iZ_shl, iZ_or, iZ_lt, iZ_le, iZ_eq, iZ_lt0, iZ_le0, iZ_gt0, iZ_ge0, iZ_eq0, cmp_eq0, cmp_lt0, cmp_le0, cmp_ge0, cmp_gt0, tf_0, tf_n0, Decidable.not_not, not_true_eq_false, not_false_eq_true, hs, Int.toNat_natCast, tn4] at q) <;> (try (exfalso; omega)))
    | refine b184_27 (by first | assumption | (repeat' (first | assumption | refine mGs ?_ | refine mGn (by omega) ?_))) ?_
    | (refine b184_35 (fun q => ?_) (fun q => ?_) <;> (try simp (disch := (first | assumption | omega | (unfold i32; omega) | (unfold i64; omega))) only [iZ_add, iZ_sub, iZ_mul, iZ_neg, lZ_add, lZ_sub, lZ_mul, lZ_neg, lZ_i, iZ_l, iZ_nat, Int.toNat_natCast, iZ_bit, iZ_shl, iZ_or, iZ_lt, iZ_le, iZ_eq, iZ_lt0, iZ_le0, iZ_gt0, iZ_ge0, iZ_eq0, cmp_eq0, cmp_lt0, cmp_le0, cmp_ge0, cmp_gt0, tf_0, tf_n0, Decidable.not_not, not_true_eq_false, not_false_eq_true, hs, Int.toNat_natCast, tn4] at q) <;> (try (exfalso; omega))))
  · rw [if_neg hA] at hq0
    repeat' (first
    | refine en184 ?_
    | exact hq0
    | refine r138 hr ha ?_
    | exact iZ_in (by omega) (by omega) (by decide)
    | simp (disch := (first | assumption | omega | (unfold i32; omega) | (unfold i64; omega))) only [iZ_add, iZ_sub, iZ_mul, iZ_neg, lZ_add, lZ_sub, lZ_mul, lZ_neg, lZ_i, iZ_l, iZ_nat, Int.toNat_natCast, iZ_bit, iZ_shl, iZ_or, iZ_lt, iZ_le, iZ_eq, iZ_lt0, iZ_le0, iZ_gt0, iZ_ge0, iZ_eq0, cmp_eq0, cmp_lt0, cmp_le0, cmp_ge0, cmp_gt0, tf_0, tf_n0, Decidable.not_not, not_true_eq_false, not_false_eq_true, hs, Int.toNat_natCast, tn4]
    | refine b184_0 (by first | assumption | (repeat' (first | assumption | refine mGs ?_ | refine mGn (by omega) ?_))) ?_
    | (refine b184_5 (fun q => ?_) (fun q => ?_) <;> (try simp (disch := (first | assumption | omega | (unfold i32; omega) | (unfold i64; omega))) only [iZ_add, iZ_sub, iZ_mul, iZ_neg, lZ_add, lZ_sub, lZ_mul, lZ_neg, lZ_i, iZ_l, iZ_nat, Int.toNat_natCast, iZ_bit, iZ_shl, iZ_or, iZ_lt, iZ_le, iZ_eq, iZ_lt0, iZ_le0, iZ_gt0, iZ_ge0, iZ_eq0, cmp_eq0, cmp_lt0, cmp_le0, cmp_ge0, cmp_gt0, tf_0, tf_n0, Decidable.not_not, not_true_eq_false, not_false_eq_true, hs, Int.toNat_natCast, tn4] at q) <;> (try (exfalso; omega)))
    | refine b184_38 ?_
    | refine b184_8 (by first | assumption | (repeat' (first | assumption | refine mGs ?_ | refine mGn (by omega) ?_))) ?_
    | (refine b184_14 (fun q => ?_) (fun q => ?_) <;> (try simp (disch := (first | assumption | omega | (unfold i32; omega) | (unfold i64; omega))) only [iZ_add, iZ_sub, iZ_mul, iZ_neg, lZ_add, lZ_sub, lZ_mul, lZ_neg, lZ_i, iZ_l, iZ_nat, Int.toNat_natCast, iZ_bit, iZ_shl, iZ_or, iZ_lt, iZ_le, iZ_eq, iZ_lt0, iZ_le0, iZ_gt0, iZ_ge0, iZ_eq0, cmp_eq0, cmp_lt0, cmp_le0, cmp_ge0, cmp_gt0, tf_0, tf_n0, Decidable.not_not, not_true_eq_false, not_false_eq_true, hs, Int.toNat_natCast, tn4] at q) <;> (try (exfalso; omega)))
    | refine b184_17 (by first | assumption | (repeat' (first | assumption | refine mGs ?_ | refine mGn (by omega) ?_))) ?_
    | (refine b184_24 (fun q => ?_) (fun q => ?_) <;> (try simp (disch := (first | assumption | omega | (unfold i32; omega) | (unfold i64; omega))) only [iZ_add, iZ_sub, iZ_mul, iZ_neg, lZ_add, lZ_sub, lZ_mul, lZ_neg, lZ_i, iZ_l, iZ_nat, Int.toNat_natCast, iZ_bit, iZ_shl, iZ_or, iZ_lt, iZ_le, iZ_eq, iZ_lt0, iZ_le0, iZ_gt0, iZ_ge0, iZ_eq0, cmp_eq0, cmp_lt0, cmp_le0, cmp_ge0, cmp_gt0, tf_0, tf_n0, Decidable.not_not, not_true_eq_false, not_false_eq_true, hs, Int.toNat_natCast, tn4] at q) <;> (try (exfalso; omega)))
    | refine b184_27 (by first | assumption | (repeat' (first | assumption | refine mGs ?_ | refine mGn (by omega) ?_))) ?_
    | (refine b184_35 (fun q => ?_) (fun q => ?_) <;> (try simp (disch := (first | assumption | omega | (unfold i32; omega) | (unfold i64; omega))) only [iZ_add, iZ_sub, iZ_mul, iZ_neg, lZ_add, lZ_sub, lZ_mul, lZ_neg, lZ_i, iZ_l, iZ_nat, Int.toNat_natCast, iZ_bit, iZ_shl, iZ_or, iZ_lt, iZ_le, iZ_eq, iZ_lt0, iZ_le0, iZ_gt0, iZ_ge0, iZ_eq0, cmp_eq0, cmp_lt0, cmp_le0, cmp_ge0, cmp_gt0, tf_0, tf_n0, Decidable.not_not, not_true_eq_false, not_false_eq_true, hs, Int.toNat_natCast, tn4] at q) <;> (try (exfalso; omega))))
end MQ
