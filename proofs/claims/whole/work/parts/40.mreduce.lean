/-! ===== the reference: reduce, rowOf ===== -/

def gR (f : Nat → Int) : Nat → Nat
  | 0 => 0
  | k + 1 => Int.gcd (f k) (gR f k)
theorem gR_b {f : Nat → Int} {B : Nat} : ∀ {k : Nat}, (∀ c, c < k → bd B (f c)) → gR f k ≤ B
  | 0, _ => Nat.zero_le B
  | k + 1, h => by
    have ih := gR_b (k := k) fun c hc => h c (by omega)
    have h1 := h k (by omega)
    unfold gR
    by_cases q : f k = 0
    · rw [q, Int.gcd_zero_left, Int.natAbs_natCast]; exact ih
    · have := Int.gcd_le_natAbs_left (b := (gR f k : Int)) (a := f k) q
      unfold bd at h1
      omega
theorem gR_d {f : Nat → Int} : ∀ {k c : Nat}, c < k → ((gR f k : Nat) : Int) ∣ f c
  | 0, _, h => absurd h (Nat.not_lt_zero _)
  | k + 1, c, h => by
    unfold gR
    by_cases q : c = k
    · subst q; exact Int.gcd_dvd_left _ _
    · exact Int.dvd_trans (Int.gcd_dvd_right _ _) (gR_d (k := k) (by omega))
theorem gR_g {f : Nat → Int} {d : Int} : ∀ {k : Nat}, (∀ c, c < k → d ∣ f c) → d ∣ ((gR f k : Nat) : Int)
  | 0, _ => Int.dvd_zero d
  | k + 1, h => by
    unfold gR
    exact Int.dvd_coe_gcd (h k (by omega)) (gR_g fun c hc => h c (by omega))
def redF (f : Nat → Int) : Nat → Int := fun c => if c < 5 then (f c).tdiv (gR f 5) else f c
section ME
variable {h : mH} {Q : Option Value → mH → Prop} {z : Nat → Nat → Int} {v cor : Int32} {bA bB : Int64} {rw_ bo : Int32} {x18 : mE}
theorem l174b {r : Nat} {d : Nat} (hr : r < 4) (hd : 1 < d) (hdb : d ≤ 4611686018427387903) (hb : ∀ c, c < 5 → bd 4611686018427387903 (z r c)) (e1 : h[14]? = some (oM v cor bA bB rw_ bo)) (e2 : h[18]? = some x18) (hq : Q none (mm h (set1 z r (mix 5 (fun c => (z r c).tdiv d) (z r))))) : ∀ k : Nat, k ≤ 5 → mWp mCd 174 (37, [some (.ref 14), some (.int (iZ r)), some (.long (lZ d)), none, some (.int (iZ k))], [], mm h (set1 z r (mix k (fun c => (z r c).tdiv d) (z r))), 0, 0) Q := by
  have hs : True := trivial
  have ld : i64 (d : Int) := ⟨by omega, by omega⟩
  have l1 : i64 1 := ⟨by omega, by omega⟩
  refine lp_up 5 ?_ ?_
  · exact b174_37 (fun _ => b174_70 hq) (fun q => absurd (Int32.le_refl _) q)
  · intro k hk ih
    have hbk := hb k hk
    have lk : i64 (z r k) := ⟨by unfold bd at hbk; omega, by unfold bd at hbk; omega⟩
    refine b174_37 (fun q => ?_) (fun _ => b174_43 (fun q => ?_) (fun _ => b174_49 (mm_n (by omega) e1 _) (mm_18 e2 _) ?_ ?_ ?_))
    · simp (disch := (first | assumption | omega | (unfold i32; omega) | (unfold i64; omega))) only [iZ_add, iZ_sub, iZ_mul, iZ_neg, lZ_add, lZ_sub, lZ_mul, lZ_neg, lZ_i, iZ_l, iZ_nat, Int.toNat_natCast, iZ_bit, iZ_shl, iZ_or, iZ_lt, iZ_le, iZ_eq, iZ_lt0, iZ_le0, iZ_gt0, iZ_ge0, iZ_eq0, cmp_eq0, cmp_lt0, cmp_le0, cmp_ge0, cmp_gt0, tf_0, tf_n0, Decidable.not_not, not_true_eq_false, not_false_eq_true, hs, Int.toNat_natCast, tn5, tn54, zM_at, zM_up] at q
      omega
    · simp (disch := (first | assumption | omega | (unfold i32; omega) | (unfold i64; omega))) only [iZ_add, iZ_sub, iZ_mul, iZ_neg, lZ_add, lZ_sub, lZ_mul, lZ_neg, lZ_i, iZ_l, iZ_nat, Int.toNat_natCast, iZ_bit, iZ_shl, iZ_or, iZ_lt, iZ_le, iZ_eq, iZ_lt0, iZ_le0, iZ_gt0, iZ_ge0, iZ_eq0, cmp_eq0, cmp_lt0, cmp_le0, cmp_ge0, cmp_gt0, tf_0, tf_n0, Decidable.not_not, not_true_eq_false, not_false_eq_true, hs, Int.toNat_natCast, tn5, tn54, zM_at, zM_up] at q
      omega
    · rw [iZ_mul, iZ_add]
      exact iZ_in (by omega) (by omega) (by decide)
    · rw [lZ_eq0 ld]; omega
    · simp (disch := (first | assumption | omega | (unfold i32; omega) | (unfold i64; omega))) only [iZ_add, iZ_sub, iZ_mul, iZ_neg, lZ_add, lZ_sub, lZ_mul, lZ_neg, lZ_i, iZ_l, iZ_nat, Int.toNat_natCast, iZ_bit, iZ_shl, iZ_or, iZ_lt, iZ_le, iZ_eq, iZ_lt0, iZ_le0, iZ_gt0, iZ_ge0, iZ_eq0, cmp_eq0, cmp_lt0, cmp_le0, cmp_ge0, cmp_gt0, tf_0, tf_n0, Decidable.not_not, not_true_eq_false, not_false_eq_true, hs, Int.toNat_natCast, tn5, tn54, zM_at, zM_up]
      rw [set1_e, mix_at, lZ_div lk ld (by unfold bd at hbk; omega)]
      simp (disch := (first | assumption | omega | (unfold i32; omega) | (unfold i64; omega))) only [iZ_add, iZ_sub, iZ_mul, iZ_neg, lZ_add, lZ_sub, lZ_mul, lZ_neg, lZ_i, iZ_l, iZ_nat, Int.toNat_natCast, iZ_bit, iZ_shl, iZ_or, iZ_lt, iZ_le, iZ_eq, iZ_lt0, iZ_le0, iZ_gt0, iZ_ge0, iZ_eq0, cmp_eq0, cmp_lt0, cmp_le0, cmp_ge0, cmp_gt0, tf_0, tf_n0, Decidable.not_not, not_true_eq_false, not_false_eq_true, hs, Int.toNat_natCast, tn5, tn54, zM_at, zM_up]
      rw [set1_s, set1_e, mix_s k (fun c => (z r c).tdiv d) (z r), mm_s]
      exact ih
theorem l174a {r : Nat} (hr : r < 4) (hb : ∀ c, c < 5 → bd 4611686018427387903 (z r c)) (e1 : h[14]? = some (oM v cor bA bB rw_ bo)) (e2 : h[18]? = some x18) (hq : mWp mCd 174 (34, [some (.ref 14), some (.int (iZ r)), some (.long (lZ (gR (z r) 5))), none, none], [], mm h z, 0, 0) Q) : ∀ k : Nat, k ≤ 5 → mWp mCd 174 (5, [some (.ref 14), some (.int (iZ r)), some (.long (lZ (gR (z r) k))), none, some (.int (iZ k))], [], mm h z, 0, 0) Q := by
  have hs : True := trivial
  refine lp_up 5 ?_ ?_
  · exact b174_5 (fun _ => hq) (fun q => absurd (Int32.le_refl _) q)
  · intro k hk ih
    have hg : gR (z r) k ≤ 4611686018427387903 := gR_b fun c hc => hb c (by omega)
    refine b174_5 (fun q => ?_) (fun _ => b174_11 (mm_n (by omega) e1 _) (mm_18 e2 _) ?_ ?_)
    · simp (disch := (first | assumption | omega | (unfold i32; omega) | (unfold i64; omega))) only [iZ_add, iZ_sub, iZ_mul, iZ_neg, lZ_add, lZ_sub, lZ_mul, lZ_neg, lZ_i, iZ_l, iZ_nat, Int.toNat_natCast, iZ_bit, iZ_shl, iZ_or, iZ_lt, iZ_le, iZ_eq, iZ_lt0, iZ_le0, iZ_gt0, iZ_ge0, iZ_eq0, cmp_eq0, cmp_lt0, cmp_le0, cmp_ge0, cmp_gt0, tf_0, tf_n0, Decidable.not_not, not_true_eq_false, not_false_eq_true, hs, Int.toNat_natCast, tn5, tn54, zM_at, zM_up] at q
      omega
    · rw [iZ_mul, iZ_add]
      exact iZ_in (by omega) (by omega) (by decide)
    · simp (disch := (first | assumption | omega | (unfold i32; omega) | (unfold i64; omega))) only [iZ_add, iZ_sub, iZ_mul, iZ_neg, lZ_add, lZ_sub, lZ_mul, lZ_neg, lZ_i, iZ_l, iZ_nat, Int.toNat_natCast, iZ_bit, iZ_shl, iZ_or, iZ_lt, iZ_le, iZ_eq, iZ_lt0, iZ_le0, iZ_gt0, iZ_ge0, iZ_eq0, cmp_eq0, cmp_lt0, cmp_le0, cmp_ge0, cmp_gt0, tf_0, tf_n0, Decidable.not_not, not_true_eq_false, not_false_eq_true, hs, Int.toNat_natCast, tn5, tn54, zM_at, zM_up]
      refine c160 (hb k hk) ⟨by omega, by omega⟩ (b174_27 ?_)
      simp (disch := (first | assumption | omega | (unfold i32; omega) | (unfold i64; omega))) only [iZ_add, iZ_sub, iZ_mul, iZ_neg, lZ_add, lZ_sub, lZ_mul, lZ_neg, lZ_i, iZ_l, iZ_nat, Int.toNat_natCast, iZ_bit, iZ_shl, iZ_or, iZ_lt, iZ_le, iZ_eq, iZ_lt0, iZ_le0, iZ_gt0, iZ_ge0, iZ_eq0, cmp_eq0, cmp_lt0, cmp_le0, cmp_ge0, cmp_gt0, tf_0, tf_n0, Decidable.not_not, not_true_eq_false, not_false_eq_true, hs, Int.toNat_natCast, tn5, tn54, zM_at, zM_up]
      exact ih
theorem c174 {r : Nat} (hr : r < 4) (hb : ∀ c, c < 5 → bd 4611686018427387903 (z r c)) (e1 : h[14]? = some (oM v cor bA bB rw_ bo)) (e2 : h[18]? = some x18) (hq : Q none (mm h (set1 z r (redF (z r))))) : mCt mCd 174 [.ref 14, .int (iZ r)] (mm h z) Q := by
  have hs : True := trivial
  have l1 : i64 1 := ⟨by omega, by omega⟩
  have hg : gR (z r) 5 ≤ 4611686018427387903 := gR_b fun c hc => hb c (by omega)
  have ld : i64 (gR (z r) 5 : Int) := ⟨by omega, by omega⟩
  refine en174 (b174_0 (l174a hr hb e1 e2 (b174_34 ?_) 0 (by omega)))
  by_cases q : 1 < gR (z r) 5
  · have := l174b (z := z) hr q hg hb e1 e2 hq 0 (by omega)
    rw [mix_0, set1_id] at this
    exact this
  · have e : set1 z r (redF (z r)) = z := by
      have : redF (z r) = z r := by
        funext c
        unfold redF
        split
        · next hc =>
          have hd := gR_d (f := z r) hc
          generalize gR (z r) 5 = d at *
          rcases (show d = 0 ∨ d = 1 by omega) with rfl | rfl
          · have := Int.zero_dvd.mp hd
            rw [this]; rfl
          · exact Int.tdiv_one _
        · rfl
      rw [this, set1_id]
    rw [e] at hq
    refine b174_37 (fun q => ?_) (fun _ => b174_43 (fun _ => b174_70 hq) (fun q2 => ?_))
    · exact absurd q (by decide)
    · simp (disch := (first | assumption | omega | (unfold i32; omega) | (unfold i64; omega))) only [iZ_add, iZ_sub, iZ_mul, iZ_neg, lZ_add, lZ_sub, lZ_mul, lZ_neg, lZ_i, iZ_l, iZ_nat, Int.toNat_natCast, iZ_bit, iZ_shl, iZ_or, iZ_lt, iZ_le, iZ_eq, iZ_lt0, iZ_le0, iZ_gt0, iZ_ge0, iZ_eq0, cmp_eq0, cmp_lt0, cmp_le0, cmp_ge0, cmp_gt0, tf_0, tf_n0, Decidable.not_not, not_true_eq_false, not_false_eq_true, hs, Int.toNat_natCast, tn5, tn54, zM_at, zM_up] at q2
      omega
end ME
section MR
variable {h : mH} {Q : Option Value → mH → Prop} {z : Nat → Nat → Int} {i n : Nat} {w : Nat → Int} {x18 : mE}
theorem MV.mm (hv : MV h i n w) : MV (mm h z) i n w := by
  obtain ⟨hi, hn, hw, v, cor, bA, bB, rw_, bo, sz, g, e1, e2, e3, hs, hg⟩ := hv
  exact ⟨hi, hn, hw, v, cor, bA, bB, rw_, bo, sz, g, mm_n (by omega) e1 _, mm_n (by omega) e2 _, mm_n (by omega) e3 _, hs, hg⟩
/-- row r: the partners of s, and their worth -/
def rowF (n s : Nat) (w : Nat → Int) (f : Nat → Int) : Nat → Int := set1 (mix n (fun c => (bt s c : Int)) f) 4 (w s)
theorem l178 {r s : Nat} (hv : MV h i n w) (hr : r < 4) (hs16 : s < 16) (e2 : h[18]? = some x18) (hq : Q none (mm h (set1 z r (rowF n s w (z r))))) : ∀ k : Nat, k ≤ n → mWp mCd 178 (3, [some (.ref 14), some (.int (iZ r)), some (.int (iZ i)), some (.int (iZ s)), some (.int (iZ k))], [], mm h (set1 z r (mix k (fun c => (bt s c : Int)) (z r))), 0, 0) Q := by
  obtain ⟨hi, ⟨hn1, hn4⟩, hw, v, cor, bA, bB, rw_, bo, sz, g, e1, e16, e3, hs, hg⟩ := id hv
  refine lp_up n ?_ ?_
  · refine b178_3 (mm_n (by omega) e1 _) (mm_n (by omega) e16 _) (iZ_in (by omega) (by omega) (by decide)) (fun _ => b178_38 (mm_n (by omega) e1 _) (c144 hv.mm hs16 (b178_53 (mm_18 e2 _) ?_ ?_))) (fun q => ?_)
    · rw [iZ_mul, iZ_add]
      exact iZ_in (by omega) (by omega) (by decide)
    · simp (disch := (first | assumption | omega | (unfold i32; omega) | (unfold i64; omega))) only [iZ_add, iZ_sub, iZ_mul, iZ_neg, lZ_add, lZ_sub, lZ_mul, lZ_neg, lZ_i, iZ_l, iZ_nat, Int.toNat_natCast, iZ_bit, iZ_shl, iZ_or, iZ_lt, iZ_le, iZ_eq, iZ_lt0, iZ_le0, iZ_gt0, iZ_ge0, iZ_eq0, cmp_eq0, cmp_lt0, cmp_le0, cmp_ge0, cmp_gt0, tf_0, tf_n0, Decidable.not_not, not_true_eq_false, not_false_eq_true, hs, Int.toNat_natCast, tn5, tn54, zM_at, zM_up]
      rw [set1_s, set1_e, mm_s]
      exact hq
    · simp (disch := (first | assumption | omega | (unfold i32; omega) | (unfold i64; omega))) only [iZ_add, iZ_sub, iZ_mul, iZ_neg, lZ_add, lZ_sub, lZ_mul, lZ_neg, lZ_i, iZ_l, iZ_nat, Int.toNat_natCast, iZ_bit, iZ_shl, iZ_or, iZ_lt, iZ_le, iZ_eq, iZ_lt0, iZ_le0, iZ_gt0, iZ_ge0, iZ_eq0, cmp_eq0, cmp_lt0, cmp_le0, cmp_ge0, cmp_gt0, tf_0, tf_n0, Decidable.not_not, not_true_eq_false, not_false_eq_true, hs, Int.toNat_natCast, tn5, tn54, zM_at, zM_up] at q
      omega
  · intro k hk ih
    have e0 : s / 2 ^ k % 2 = bt s k := rfl
    have hk4 : k < 4 := by omega
    have hk5 : k < 5 := by omega
    have hb := bt_lt s k
    refine b178_3 (mm_n (by omega) e1 _) (mm_n (by omega) e16 _) (iZ_in (by omega) (by omega) (by decide)) (fun q => ?_) (fun _ => b178_14 (mm_n (by omega) e1 _) (mm_18 e2 _) ?_ ?_)
    · simp (disch := (first | assumption | omega | (unfold i32; omega) | (unfold i64; omega))) only [iZ_add, iZ_sub, iZ_mul, iZ_neg, lZ_add, lZ_sub, lZ_mul, lZ_neg, lZ_i, iZ_l, iZ_nat, Int.toNat_natCast, iZ_bit, iZ_shl, iZ_or, iZ_lt, iZ_le, iZ_eq, iZ_lt0, iZ_le0, iZ_gt0, iZ_ge0, iZ_eq0, cmp_eq0, cmp_lt0, cmp_le0, cmp_ge0, cmp_gt0, tf_0, tf_n0, Decidable.not_not, not_true_eq_false, not_false_eq_true, hs, Int.toNat_natCast, tn5, tn54, zM_at, zM_up] at q
      omega
    · rw [iZ_mul, iZ_add]
      exact iZ_in (by omega) (by omega) (by decide)
    · simp (disch := (first | assumption | omega | (unfold i32; omega) | (unfold i64; omega))) only [iZ_add, iZ_sub, iZ_mul, iZ_neg, lZ_add, lZ_sub, lZ_mul, lZ_neg, lZ_i, iZ_l, iZ_nat, Int.toNat_natCast, iZ_bit, iZ_shl, iZ_or, iZ_lt, iZ_le, iZ_eq, iZ_lt0, iZ_le0, iZ_gt0, iZ_ge0, iZ_eq0, cmp_eq0, cmp_lt0, cmp_le0, cmp_ge0, cmp_gt0, tf_0, tf_n0, Decidable.not_not, not_true_eq_false, not_false_eq_true, hs, Int.toNat_natCast, tn5, tn54, zM_at, zM_up, e0]
      rw [set1_s, set1_e, mix_s k (fun c => (bt s c : Int)) (z r), mm_s]
      exact ih
theorem c178 {r s : Nat} (hv : MV h i n w) (hr : r < 4) (hs16 : s < 16) (e2 : h[18]? = some x18) (hq : Q none (mm h (set1 z r (rowF n s w (z r))))) : mCt mCd 178 [.ref 14, .int (iZ r), .int (iZ i), .int (iZ s)] (mm h z) Q := by
  refine en178 (b178_0 ?_)
  have := l178 (z := z) hv hr hs16 e2 hq 0 (Nat.zero_le _)
  rw [mix_0, set1_id] at this
  exact this
end MR
