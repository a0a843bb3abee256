/-! ===== the class: votes, runways, gloves ===== -/

theorem sumTo_tl {f : Nat → Int} {n : Nat} : ∀ {m : Nat}, n ≤ m → (∀ i, n ≤ i → i < m → f i = 0) → sumTo f m = sumTo f n := by
  intro m h
  induction h with
  | refl => intro _; rfl
  | step h ih =>
    intro hp
    show sumTo f _ + f _ = _
    rw [hp _ h (Nat.lt_succ_self _), Int.add_zero, ih (fun k h1 h2 => hp k h1 (by omega))]
theorem rMx_tl {N s n : Nat} : ∀ {m : Nat}, n ≤ m → (∀ i, n ≤ i → i < m → bt s i = 0) → rMx N s m = rMx N s n := by
  intro m h
  induction h with
  | refl => intro _; rfl
  | step h ih =>
    intro hp
    have e := hp _ h (Nat.lt_succ_self _)
    show (if bt s _ = 1 ∧ _ then _ else rMx N s _) = _
    rw [if_neg (by omega), ih (fun k h1 h2 => hp k h1 (by omega))]
theorem dg_st (N b k : Nat) : N / b ^ k / b = N / b ^ (k + 1) := by rw [Nat.div_div_eq_div_mul, Nat.pow_succ]
section CM
variable {h h' g : mH} {Q : Option Value → mH → Prop} {i n c a ci num : Nat} {w f : Nat → Int} {kd sz : Nat → Nat} {W : Nat → Nat → Int} {A : Nat → Nat}
theorem k74 {s N : Nat} (hs : s < 16) (hN : N < 2147483648) (hq : Q (some (.int (iZ (sumTo (fun i => (bt s i : Int) * (dg N 21 i : Nat)) 4)))) h) : mCt mCd 74 [.int (iZ s), .int (iZ N)] h Q := by
  have lp : ∀ k, k ≤ 4 → mWp mCd 74 (7, [some (.int (iZ s)), none, some (.int (iZ (sumTo (fun i => (bt s i : Int) * (dg N 21 i : Nat)) k))), some (.int (iZ ((N / 21 ^ k : Nat) : Int))), some (.int (iZ k))], [], h, 0, 0) Q := by
    refine lp_up 4 ?_ ?_
    · exact b74_7 (fun _ => b74_38 hq) (fun z => absurd (Int32.le_refl _) z)
    · intro k hk ih
      have hle : N / 21 ^ k ≤ N := Nat.div_le_self _ _
      have h0 : (0 : Int) ≤ ((N / 21 ^ k : Nat) : Int) := Int.natCast_nonneg _
      have hle2 : ((N / 21 ^ k : Nat) : Int) ≤ N := Int.ofNat_le.mpr hle
      have iD : i32 ((N / 21 ^ k : Nat) : Int) := by unfold i32; omega
      have iB : i32 (21 : Int) := by unfold i32; omega
      have nD : ((N / 21 ^ k : Nat) : Int) ≠ -2147483648 := by omega
      refine b74_7 (fun z => ?_) (fun _ => b74_13 (k126 (by omega) (by omega) (b74_20 ?_)))
      · simp (disch := (first | assumption | omega | (unfold i32; omega) | (unfold i64; omega))) only [iZ_add, iZ_sub, iZ_mul, iZ_neg, lZ_add, lZ_sub, lZ_mul, lZ_neg, lZ_i, iZ_l, iZ_nat, Int.toNat_natCast, iZ_bit, iZ_shl, iZ_or, iZ_lt, iZ_le, iZ_eq, iZ_lt0, iZ_le0, iZ_gt0, iZ_ge0, iZ_eq0, cmp_eq0, cmp_lt0, cmp_le0, cmp_ge0, cmp_gt0, tf_0, tf_n0, Decidable.not_not, not_true_eq_false, not_false_eq_true, Int.toNat_natCast, onat] at z
        omega
      · rw [iZ_rem iD iB nD, iZ_div iD iB nD, iZ_mul, iZ_add, iZ_add]
        have e1 : ((N / 21 ^ k : Nat) : Int).tmod 21 = ((dg N 21 k : Nat) : Int) := by
          rw [Int.tmod_eq_emod_of_nonneg h0]; rfl
        have e2 : ((N / 21 ^ k : Nat) : Int).tdiv 21 = ((N / 21 ^ (k + 1) : Nat) : Int) := by
          rw [Int.tdiv_eq_ediv_of_nonneg h0, ← dg_st]; rfl
        rw [e1, e2]
        exact ih
  have := lp 0 (by decide)
  rw [Nat.pow_zero, Nat.div_one] at this
  exact en74 (b74_0 this)
theorem k30 {s N : Nat} (hs : s < 16) (hN : N < 2147483648) (hq : Q (some (.int (iZ (rMx N s 4)))) h) : mCt mCd 30 [.int (iZ s), .int (iZ N)] h Q := by
  have lp : ∀ k, k ≤ 4 → mWp mCd 30 (7, [some (.int (iZ s)), none, some (.int (iZ (rMx N s k))), some (.int (iZ ((N / 51 ^ k : Nat) : Int))), some (.int (iZ k))], [], h, 0, 0) Q := by
    refine lp_up 4 ?_ ?_
    · exact b30_7 (fun _ => b30_40 hq) (fun z => absurd (Int32.le_refl _) z)
    · intro k hk ih
      have hle : N / 51 ^ k ≤ N := Nat.div_le_self _ _
      have h0 : (0 : Int) ≤ ((N / 51 ^ k : Nat) : Int) := Int.natCast_nonneg _
      have hle2 : ((N / 51 ^ k : Nat) : Int) ≤ N := Int.ofNat_le.mpr hle
      have iD : i32 ((N / 51 ^ k : Nat) : Int) := by unfold i32; omega
      have iB : i32 (51 : Int) := by unfold i32; omega
      have nD : ((N / 51 ^ k : Nat) : Int) ≠ -2147483648 := by omega
      have hd := dg_lt N 51 k (by decide)
      have hb := bt_01 s k
      have hr := rMx_b N s k
      refine b30_7 (fun z => ?_) (fun _ => b30_13 (k126 (by omega) (by omega) (b30_20 ?_)))
      · simp (disch := (first | assumption | omega | (unfold i32; omega) | (unfold i64; omega))) only [iZ_add, iZ_sub, iZ_mul, iZ_neg, lZ_add, lZ_sub, lZ_mul, lZ_neg, lZ_i, iZ_l, iZ_nat, Int.toNat_natCast, iZ_bit, iZ_shl, iZ_or, iZ_lt, iZ_le, iZ_eq, iZ_lt0, iZ_le0, iZ_gt0, iZ_ge0, iZ_eq0, cmp_eq0, cmp_lt0, cmp_le0, cmp_ge0, cmp_gt0, tf_0, tf_n0, Decidable.not_not, not_true_eq_false, not_false_eq_true, Int.toNat_natCast, onat] at z
        omega
      · have e1 : ((N / 51 ^ k : Nat) : Int).tmod 51 = ((dg N 51 k : Nat) : Int) := by
          rw [Int.tmod_eq_emod_of_nonneg h0]; rfl
        have e2 : ((N / 51 ^ k : Nat) : Int).tdiv 51 = ((N / 51 ^ (k + 1) : Nat) : Int) := by
          rw [Int.tdiv_eq_ediv_of_nonneg h0, ← dg_st]; rfl
        rw [iZ_rem iD iB nD, iZ_mul, e1]
        have hm : max (rMx N s k) ((bt s k : Nat) * (dg N 51 k : Nat) : Int) = rMx N s (k + 1) := by
          show _ = if bt s k = 1 ∧ (dg N 51 k : Int) > rMx N s k then ((dg N 51 k : Nat) : Int) else rMx N s k
          rcases hb with q | q
          · rw [q, if_neg (by omega)]
            simp
            omega
          · rw [q]
            simp only [Int.natCast_one, Int.one_mul, true_and]
            split <;> omega
        have hprod : i32 ((bt s k : Nat) * (dg N 51 k : Nat) : Int) := by
          rcases hb with q | q
          · rw [q]; simp; unfold i32; omega
          · rw [q]; simp; unfold i32; omega
        refine k219 (by unfold i32; omega) hprod (b30_28 ?_)
        rw [hm, iZ_div iD iB nD, e2, iZ_add]
        exact ih
  have := lp 0 (by decide)
  rw [Nat.pow_zero, Nat.div_one] at this
  exact en30 (b30_0 this)
theorem Bld.ww {w' : Nat → Int} (hb : Bld h g a ci num n w) (e : w = w') : Bld h g a ci num n w' := e ▸ hb
theorem k73 {N : Nat} {u : Int} (hl : 30 ≤ h.length) (hn : 1 ≤ n ∧ n ≤ 4) (hN : N < 2147483648) (hu : i32 u) (hq : ∀ g, Bld h g h.length 8 num n (fillW (vW n N u) (2 ^ n)) → Q none g) : mCt mCd 73 [.ref h.length, .int (iZ num), .int (iZ n), .int (iZ N), .int (iZ u)] (h ++ [.inr (8, [.int 0, .int 0, .null, .null, .null, .int 0])]) Q := by
  have hal := al_lt hn.2
  have h2 : al n + 1 = 2 ^ n := by have := two_pow_pos n; unfold al; omega
  refine en73 (b73_0 (kNew hl rfl hn (fun g0 hb0 => b73_6 ?_)))
  have lp : ∀ s, s ≤ 2 ^ n → 1 ≤ s → ∀ g, Bld h g h.length 8 num n (fillW (vW n N u) s) → mWp mCd 73 (9, [some (.ref h.length), none, none, some (.int (iZ N)), some (.int (iZ u)), some (.int (iZ s))], [], g, 8, 152) Q := by
    refine lp_up _ ?_ ?_
    · intro _ g hb
      obtain ⟨_, _, _, _, fd, e1, _⟩ := id hb.2.2
      refine b73_9 e1 rfl (k42 hb.2.2.1 (b73_15 (fun _ => b73_46 (hq g hb)) (fun z => ?_)))
      simp (disch := (first | assumption | omega | (unfold i32; omega) | (unfold i64; omega))) only [iZ_add, iZ_sub, iZ_mul, iZ_neg, lZ_add, lZ_sub, lZ_mul, lZ_neg, lZ_i, iZ_l, iZ_nat, Int.toNat_natCast, iZ_bit, iZ_shl, iZ_or, iZ_lt, iZ_le, iZ_eq, iZ_lt0, iZ_le0, iZ_gt0, iZ_ge0, iZ_eq0, cmp_eq0, cmp_lt0, cmp_le0, cmp_ge0, cmp_gt0, tf_0, tf_n0, Decidable.not_not, not_true_eq_false, not_false_eq_true, Int.toNat_natCast, onat] at z
      omega
    · intro s hs ih hs1 g hb
      obtain ⟨_, _, _, _, fd, e1, _⟩ := id hb.2.2
      have ev : sumTo (fun i => (bt s i : Int) * (dg N 21 i : Nat)) 4 = vSum N s n := sumTo_tl hn.2 (fun i h1 h2' => by rw [bt_hi n hn.2 s (by omega) i h2' h1]; exact Int.zero_mul _)
      have hvb : i32 (vSum N s n) := by
        rw [← ev]
        have ht : ∀ i, i < 4 → -21 ≤ (bt s i : Int) * (dg N 21 i : Nat) ∧ (bt s i : Int) * (dg N 21 i : Nat) ≤ 21 := by
          intro i hi
          have h1 := bt_01 s i
          have h2 := dg_lt N 21 i (by decide)
          rcases h1 with q | q
          · rw [q]; simp
          · rw [q]; simp; omega
        have := sumTo_b (f := fun i => (bt s i : Int) * (dg N 21 i : Nat)) (B := 21) (n := 4) ht
        unfold i32; omega
      have put : ∀ x : Int, x = vW n N u s → mWp mCd 73 (37, [some (.ref h.length), none, none, some (.int (iZ N)), some (.int (iZ u)), some (.int (iZ s))], [.int (iZ x), .int (iZ s), .ref h.length], g, 8, 152) Q := by
        intro x hx
        have hx1 : x = 0 ∨ x = 1 := by rw [hx]; unfold vW; split <;> omega
        refine b73_37 e1 rfl (hb.put hs1 (by omega) (by unfold bd; omega) (fun g' hb' => b73_40 ?_))
        rw [iZ_add]
        exact ih (by omega) g' (hb'.ww (by rw [hx, fillW_s hs1]))
      refine b73_9 e1 rfl (k42 hb.2.2.1 (b73_15 (fun z => ?_) (fun _ => b73_18 (k74 (by omega) hN ?_))))
      · simp (disch := (first | assumption | omega | (unfold i32; omega) | (unfold i64; omega))) only [iZ_add, iZ_sub, iZ_mul, iZ_neg, lZ_add, lZ_sub, lZ_mul, lZ_neg, lZ_i, iZ_l, iZ_nat, Int.toNat_natCast, iZ_bit, iZ_shl, iZ_or, iZ_lt, iZ_le, iZ_eq, iZ_lt0, iZ_le0, iZ_gt0, iZ_ge0, iZ_eq0, cmp_eq0, cmp_lt0, cmp_le0, cmp_ge0, cmp_gt0, tf_0, tf_n0, Decidable.not_not, not_true_eq_false, not_false_eq_true, Int.toNat_natCast, onat] at z
        omega
      · rw [ev]
        refine b73_27 (fun z => b73_36 (put 0 ?_)) (fun z => b73_32 (put 1 ?_))
        · rw [iZ_lt hvb hu] at z
          unfold vW
          rw [if_neg (by omega)]
        · rw [iZ_lt hvb hu] at z
          unfold vW
          rw [if_pos (by omega)]
  exact lp 1 (by have := two_pow_pos n; omega) (Nat.le_refl 1) g0 (hb0.ww (fillW_1 _).symm)
theorem k29 {N : Nat} (hl : 30 ≤ h.length) (hn : 1 ≤ n ∧ n ≤ 4) (hN : N < 2147483648) (hq : ∀ g, Bld h g h.length 4 num n (fillW (rW n N) (2 ^ n)) → Q none g) : mCt mCd 29 [.ref h.length, .int (iZ num), .int (iZ n), .int (iZ N)] (h ++ [.inr (4, [.int 0, .int 0, .null, .null, .null, .int 0])]) Q := by
  have hal := al_lt hn.2
  have h2 : al n + 1 = 2 ^ n := by have := two_pow_pos n; unfold al; omega
  refine en29 (b29_0 (kNew hl rfl hn (fun g0 hb0 => b29_6 ?_)))
  have lp : ∀ s, s ≤ 2 ^ n → 1 ≤ s → ∀ g, Bld h g h.length 4 num n (fillW (rW n N) s) → mWp mCd 29 (9, [some (.ref h.length), none, none, some (.int (iZ N)), some (.int (iZ s))], [], g, 8, 152) Q := by
    refine lp_up _ ?_ ?_
    · intro _ g hb
      obtain ⟨_, _, _, _, fd, e1, _⟩ := id hb.2.2
      refine b29_9 e1 rfl (k42 hb.2.2.1 (b29_15 (fun _ => b29_37 (hq g hb)) (fun z => ?_)))
      simp (disch := (first | assumption | omega | (unfold i32; omega) | (unfold i64; omega))) only [iZ_add, iZ_sub, iZ_mul, iZ_neg, lZ_add, lZ_sub, lZ_mul, lZ_neg, lZ_i, iZ_l, iZ_nat, Int.toNat_natCast, iZ_bit, iZ_shl, iZ_or, iZ_lt, iZ_le, iZ_eq, iZ_lt0, iZ_le0, iZ_gt0, iZ_ge0, iZ_eq0, cmp_eq0, cmp_lt0, cmp_le0, cmp_ge0, cmp_gt0, tf_0, tf_n0, Decidable.not_not, not_true_eq_false, not_false_eq_true, Int.toNat_natCast, onat] at z
      omega
    · intro s hs ih hs1 g hb
      obtain ⟨_, _, _, _, fd, e1, _⟩ := id hb.2.2
      have er : rMx N s 4 = rMx N s n := rMx_tl hn.2 (fun i h1 h2' => bt_hi n hn.2 s (by omega) i h2' h1)
      have hr := rMx_b N s n
      refine b29_9 e1 rfl (k42 hb.2.2.1 (b29_15 (fun z => ?_) (fun _ => b29_18 (k30 (by omega) hN (b29_27 e1 rfl ?_)))))
      · simp (disch := (first | assumption | omega | (unfold i32; omega) | (unfold i64; omega))) only [iZ_add, iZ_sub, iZ_mul, iZ_neg, lZ_add, lZ_sub, lZ_mul, lZ_neg, lZ_i, iZ_l, iZ_nat, Int.toNat_natCast, iZ_bit, iZ_shl, iZ_or, iZ_lt, iZ_le, iZ_eq, iZ_lt0, iZ_le0, iZ_gt0, iZ_ge0, iZ_eq0, cmp_eq0, cmp_lt0, cmp_le0, cmp_ge0, cmp_gt0, tf_0, tf_n0, Decidable.not_not, not_true_eq_false, not_false_eq_true, Int.toNat_natCast, onat] at z
        omega
      · rw [er, iZ_neg]
        refine hb.put hs1 (by omega) (by unfold bd; omega) (fun g' hb' => b29_31 ?_)
        rw [iZ_add]
        exact ih (by omega) g' (hb'.ww (by rw [← fillW_s hs1]; rfl))
  exact lp 1 (by have := two_pow_pos n; omega) (Nat.le_refl 1) g0 (hb0.ww (fillW_1 _).symm)
theorem k14 {L : Nat} (hl : 30 ≤ h.length) (hn : 1 ≤ n ∧ n ≤ 4) (hL : L < 16) (hq : ∀ g, Bld h g h.length 1 num n (fillW (gW L) (2 ^ n)) → Q none g) : mCt mCd 14 [.ref h.length, .int (iZ num), .int (iZ n), .int (iZ L)] (h ++ [.inr (1, [.int 0, .int 0, .null, .null, .null, .int 0])]) Q := by
  have hal := al_lt hn.2
  have h2 : al n + 1 = 2 ^ n := by have := two_pow_pos n; unfold al; omega
  refine en14 (b14_0 (kNew hl rfl hn (fun g0 hb0 => b14_6 ?_)))
  have lp : ∀ s, s ≤ 2 ^ n → 1 ≤ s → ∀ g, Bld h g h.length 1 num n (fillW (gW L) s) → mWp mCd 14 (9, [some (.ref h.length), none, none, some (.int (iZ L)), some (.int (iZ s))], [], g, 8, 152) Q := by
    refine lp_up _ ?_ ?_
    · intro _ g hb
      obtain ⟨_, _, _, _, fd, e1, _⟩ := id hb.2.2
      refine b14_9 e1 rfl (k42 hb.2.2.1 (b14_15 (fun _ => b14_49 (hq g hb)) (fun z => ?_)))
      simp (disch := (first | assumption | omega | (unfold i32; omega) | (unfold i64; omega))) only [iZ_add, iZ_sub, iZ_mul, iZ_neg, lZ_add, lZ_sub, lZ_mul, lZ_neg, lZ_i, iZ_l, iZ_nat, Int.toNat_natCast, iZ_bit, iZ_shl, iZ_or, iZ_lt, iZ_le, iZ_eq, iZ_lt0, iZ_le0, iZ_gt0, iZ_ge0, iZ_eq0, cmp_eq0, cmp_lt0, cmp_le0, cmp_ge0, cmp_gt0, tf_0, tf_n0, Decidable.not_not, not_true_eq_false, not_false_eq_true, Int.toNat_natCast, onat] at z
      omega
    · intro s hs ih hs1 g hb
      obtain ⟨_, _, _, _, fd, e1, _⟩ := id hb.2.2
      have a1 : s &&& L < 16 := Nat.lt_of_le_of_lt Nat.and_le_left (by omega)
      have a2 : andn s L < 16 := by unfold andn; omega
      have o1 := ones_le _ a1
      have o2 := ones_le _ a2
      refine b14_9 e1 rfl (k42 hb.2.2.1 (b14_15 (fun z => ?_) (fun _ => b14_18 ?_)))
      · simp (disch := (first | assumption | omega | (unfold i32; omega) | (unfold i64; omega))) only [iZ_add, iZ_sub, iZ_mul, iZ_neg, lZ_add, lZ_sub, lZ_mul, lZ_neg, lZ_i, iZ_l, iZ_nat, Int.toNat_natCast, iZ_bit, iZ_shl, iZ_or, iZ_lt, iZ_le, iZ_eq, iZ_lt0, iZ_le0, iZ_gt0, iZ_ge0, iZ_eq0, cmp_eq0, cmp_lt0, cmp_le0, cmp_ge0, cmp_gt0, tf_0, tf_n0, Decidable.not_not, not_true_eq_false, not_false_eq_true, Int.toNat_natCast, onat] at z
        omega
      · rw [iZ_iand s (by omega) L hL]
        refine k217 a1 (b14_28 ?_)
        rw [iZ_andn s (by omega) L hL]
        refine k217 a2 (b14_37 (k220 (by unfold i32; omega) (by unfold i32; omega) (b14_40 e1 rfl ?_)))
        have em : min (ones (s &&& L) : Int) (ones (andn s L) : Int) = gW L s := by
          unfold gW
          split <;> omega
        rw [em]
        have gb : bd 16000 (gW L s) := by unfold gW bd; split <;> omega
        refine hb.put hs1 (by omega) gb (fun g' hb' => b14_43 ?_)
        rw [iZ_add]
        exact ih (by omega) g' (hb'.ww (by rw [← fillW_s hs1]))
  exact lp 1 (by have := two_pow_pos n; omega) (Nat.le_refl 1) g0 (hb0.ww (fillW_1 _).symm)
theorem pw21 : ∀ n, n ≤ 4 → 21 ^ n ≤ 194481 := by decide +kernel
theorem pw51 : ∀ n, n ≤ 4 → 51 ^ n ≤ 6765201 := by decide +kernel
theorem j81 {x N u : Int} (hd : CD h c kd sz W A) (hl : 30 ≤ h.length) (hx : i32 x) (hN : i32 N) (hu : i32 u) (hq : mkC h c kd sz W A Q (eVotes c x N u)) : mCt mCd 81 [.ref 5, .int (iZ x), .int (iZ N), .int (iZ u)] h Q := by
  have hc := hd.1
  obtain ⟨gg, g1, g2⟩ := hd.tb
  unfold eVotes at hq
  refine en81 (b81_0 (k119 hx (b81_4 (fun z => b81_28 ?_) (fun z => b81_7 ?_))))
  · rw [tf_0] at z
    rw [if_neg (by omega)] at hq
    exact hq
  · rw [tf_n0] at z
    obtain ⟨n, rfl⟩ : ∃ m : Nat, x = m := ⟨x.toNat, by omega⟩
    simp only [Int.toNat_natCast] at hq
    have hp := pw21 n (by omega)
    have ec : ((21 : Int) ^ n) = ((21 ^ n : Nat) : Int) := by simp
    rw [ec] at hq
    refine k125 (b := 21) hN (by omega) (by omega) (b81_14 (fun z2 => b81_28 ?_) (fun z2 => b81_17 (fun z3 => b81_28 ?_) (fun z3 => b81_22 (fun z4 => b81_31 g1 (k115 g1 g2 hc (b81_35 (fun z5 => b81_43 (b81_47 (mAl _ g1) ?_)) (fun z5 => b81_38 ?_)))) (fun z4 => b81_28 ?_))))
    · rw [tf_0] at z2
      rw [if_neg (by omega)] at hq
      exact hq
    · have z3 : iZ u < iZ 1 := z3
      simp (disch := (first | assumption | omega | (unfold i32; omega) | (unfold i64; omega))) only [iZ_add, iZ_sub, iZ_mul, iZ_neg, lZ_add, lZ_sub, lZ_mul, lZ_neg, lZ_i, iZ_l, iZ_nat, Int.toNat_natCast, iZ_bit, iZ_shl, iZ_or, iZ_lt, iZ_le, iZ_eq, iZ_lt0, iZ_le0, iZ_gt0, iZ_ge0, iZ_eq0, cmp_eq0, cmp_lt0, cmp_le0, cmp_ge0, cmp_gt0, tf_0, tf_n0, Decidable.not_not, not_true_eq_false, not_false_eq_true, Int.toNat_natCast, onat] at z3
      rw [if_neg (by omega)] at hq
      exact hq
    · rw [tf_n0] at z2
      rw [tf_0] at z5
      have z3 : ¬ iZ u < iZ 1 := z3
      simp (disch := (first | assumption | omega | (unfold i32; omega) | (unfold i64; omega))) only [iZ_add, iZ_sub, iZ_mul, iZ_neg, lZ_add, lZ_sub, lZ_mul, lZ_neg, lZ_i, iZ_l, iZ_nat, Int.toNat_natCast, iZ_bit, iZ_shl, iZ_or, iZ_lt, iZ_le, iZ_eq, iZ_lt0, iZ_le0, iZ_gt0, iZ_ge0, iZ_eq0, cmp_eq0, cmp_lt0, cmp_le0, cmp_ge0, cmp_gt0, tf_0, tf_n0, Decidable.not_not, not_true_eq_false, not_false_eq_true, Int.toNat_natCast, onat] at z3
      simp (disch := (first | assumption | omega | (unfold i32; omega) | (unfold i64; omega))) only [iZ_add, iZ_sub, iZ_mul, iZ_neg, lZ_add, lZ_sub, lZ_mul, lZ_neg, lZ_i, iZ_l, iZ_nat, Int.toNat_natCast, iZ_bit, iZ_shl, iZ_or, iZ_lt, iZ_le, iZ_eq, iZ_lt0, iZ_le0, iZ_gt0, iZ_ge0, iZ_eq0, cmp_eq0, cmp_lt0, cmp_le0, cmp_ge0, cmp_gt0, tf_0, tf_n0, Decidable.not_not, not_true_eq_false, not_false_eq_true, Int.toNat_natCast, onat] at z4
      rw [if_pos (by omega), if_neg z5] at hq
      obtain ⟨M, rfl⟩ : ∃ m : Nat, N = m := ⟨N.toNat, by omega⟩
      simp only [Int.toNat_natCast] at hq
      refine k73 hl (by omega) (by omega) hu (fun g hb => b81_58 (hb.cd g1) (kEnt (kn := 1) hd (by omega) (by decide) hb (fun _ s hs => ?_) (fun h' gr cd => b81_61 (hq h' gr cd))))
      unfold fillW vW
      split
      · split
        · exact Or.inr rfl
        · exact Or.inl rfl
      · exact Or.inl rfl
    · rw [tf_n0] at z2 z5
      have z3 : ¬ iZ u < iZ 1 := z3
      simp (disch := (first | assumption | omega | (unfold i32; omega) | (unfold i64; omega))) only [iZ_add, iZ_sub, iZ_mul, iZ_neg, lZ_add, lZ_sub, lZ_mul, lZ_neg, lZ_i, iZ_l, iZ_nat, Int.toNat_natCast, iZ_bit, iZ_shl, iZ_or, iZ_lt, iZ_le, iZ_eq, iZ_lt0, iZ_le0, iZ_gt0, iZ_ge0, iZ_eq0, cmp_eq0, cmp_lt0, cmp_le0, cmp_ge0, cmp_gt0, tf_0, tf_n0, Decidable.not_not, not_true_eq_false, not_false_eq_true, Int.toNat_natCast, onat] at z3
      simp (disch := (first | assumption | omega | (unfold i32; omega) | (unfold i64; omega))) only [iZ_add, iZ_sub, iZ_mul, iZ_neg, lZ_add, lZ_sub, lZ_mul, lZ_neg, lZ_i, iZ_l, iZ_nat, Int.toNat_natCast, iZ_bit, iZ_shl, iZ_or, iZ_lt, iZ_le, iZ_eq, iZ_lt0, iZ_le0, iZ_gt0, iZ_ge0, iZ_eq0, cmp_eq0, cmp_lt0, cmp_le0, cmp_ge0, cmp_gt0, tf_0, tf_n0, Decidable.not_not, not_true_eq_false, not_false_eq_true, Int.toNat_natCast, onat] at z4
      rw [if_pos (by omega), if_pos z5] at hq
      exact hq
    · simp (disch := (first | assumption | omega | (unfold i32; omega) | (unfold i64; omega))) only [iZ_add, iZ_sub, iZ_mul, iZ_neg, lZ_add, lZ_sub, lZ_mul, lZ_neg, lZ_i, iZ_l, iZ_nat, Int.toNat_natCast, iZ_bit, iZ_shl, iZ_or, iZ_lt, iZ_le, iZ_eq, iZ_lt0, iZ_le0, iZ_gt0, iZ_ge0, iZ_eq0, cmp_eq0, cmp_lt0, cmp_le0, cmp_ge0, cmp_gt0, tf_0, tf_n0, Decidable.not_not, not_true_eq_false, not_false_eq_true, Int.toNat_natCast, onat] at z4
      rw [if_neg (by omega)] at hq
      exact hq
theorem j82 {x N : Int} (hd : CD h c kd sz W A) (hl : 30 ≤ h.length) (hx : i32 x) (hN : i32 N) (hq : mkC h c kd sz W A Q (eRunway c x N)) : mCt mCd 82 [.ref 5, .int (iZ x), .int (iZ N)] h Q := by
  have hc := hd.1
  obtain ⟨gg, g1, g2⟩ := hd.tb
  unfold eRunway at hq
  refine en82 (b82_0 (k119 hx (b82_4 (fun z => b82_17 ?_) (fun z => b82_7 ?_))))
  · rw [tf_0] at z
    rw [if_neg (by omega)] at hq
    exact hq
  · rw [tf_n0] at z
    obtain ⟨n, rfl⟩ : ∃ m : Nat, x = m := ⟨x.toNat, by omega⟩
    simp only [Int.toNat_natCast] at hq
    have hp := pw51 n (by omega)
    have ec : ((51 : Int) ^ n) = ((51 ^ n : Nat) : Int) := by simp
    rw [ec] at hq
    refine k125 (b := 51) hN (by omega) (by omega) (b82_14 (fun z2 => b82_20 g1 (k115 g1 g2 hc (b82_24 (fun z5 => b82_32 (b82_36 (mAl _ g1) ?_)) (fun z5 => b82_27 ?_)))) (fun z2 => b82_17 ?_))
    · rw [tf_n0] at z2
      rw [tf_0] at z5
      rw [if_pos (by omega), if_neg z5] at hq
      obtain ⟨M, rfl⟩ : ∃ m : Nat, N = m := ⟨N.toNat, by omega⟩
      simp only [Int.toNat_natCast] at hq
      exact k29 hl (by omega) (by omega) (fun g hb => b82_46 (hb.cd g1) (kEnt (kn := 2) hd (by omega) (by decide) hb (fun q => absurd q (by decide)) (fun h' gr cd => b82_49 (hq h' gr cd))))
    · rw [tf_n0] at z2 z5
      rw [if_pos (by omega), if_pos z5] at hq
      exact hq
    · rw [tf_n0] at z2
      rw [if_neg (by omega)] at hq
      exact hq
theorem j83 {x L : Int} (hd : CD h c kd sz W A) (hl : 30 ≤ h.length) (hx : i32 x) (hL : i32 L) (hq : mkC h c kd sz W A Q (eGloves c x L)) : mCt mCd 83 [.ref 5, .int (iZ x), .int (iZ L)] h Q := by
  have hc := hd.1
  obtain ⟨gg, g1, g2⟩ := hd.tb
  unfold eGloves at hq
  refine en83 (b83_0 (k119 hx (b83_4 (fun z => b83_18 ?_) (fun z => b83_7 (fun z2 => b83_18 ?_) (fun z2 => ?_)))))
  · rw [tf_0] at z
    rw [if_neg (by omega)] at hq
    exact hq
  · simp (disch := (first | assumption | omega | (unfold i32; omega) | (unfold i64; omega))) only [iZ_add, iZ_sub, iZ_mul, iZ_neg, lZ_add, lZ_sub, lZ_mul, lZ_neg, lZ_i, iZ_l, iZ_nat, Int.toNat_natCast, iZ_bit, iZ_shl, iZ_or, iZ_lt, iZ_le, iZ_eq, iZ_lt0, iZ_le0, iZ_gt0, iZ_ge0, iZ_eq0, cmp_eq0, cmp_lt0, cmp_le0, cmp_ge0, cmp_gt0, tf_0, tf_n0, Decidable.not_not, not_true_eq_false, not_false_eq_true, Int.toNat_natCast, onat] at z2
    rw [if_neg (by omega)] at hq
    exact hq
  · rw [tf_n0] at z
    simp (disch := (first | assumption | omega | (unfold i32; omega) | (unfold i64; omega))) only [iZ_add, iZ_sub, iZ_mul, iZ_neg, lZ_add, lZ_sub, lZ_mul, lZ_neg, lZ_i, iZ_l, iZ_nat, Int.toNat_natCast, iZ_bit, iZ_shl, iZ_or, iZ_lt, iZ_le, iZ_eq, iZ_lt0, iZ_le0, iZ_gt0, iZ_ge0, iZ_eq0, cmp_eq0, cmp_lt0, cmp_le0, cmp_ge0, cmp_gt0, tf_0, tf_n0, Decidable.not_not, not_true_eq_false, not_false_eq_true, Int.toNat_natCast, onat] at z2
    obtain ⟨n, rfl⟩ : ∃ m : Nat, x = m := ⟨x.toNat, by omega⟩
    simp only [Int.toNat_natCast] at hq
    have h16 := two_pow_le4 (show n ≤ 4 by omega)
    have h0 := two_pow_pos n
    have h2 : al n + 1 = 2 ^ n := by unfold al; omega
    refine b83_11 (fun z3 => b83_21 g1 (k115 g1 g2 hc (b83_25 (fun z5 => b83_33 (b83_37 (mAl _ g1) ?_)) (fun z5 => b83_28 ?_)))) (fun z3 => b83_18 ?_)
    · rw [iZ_shl _ (by omega), iZ_lt hL (by unfold i32; omega)] at z3
      rw [tf_0] at z5
      rw [if_pos (by omega), if_neg z5] at hq
      obtain ⟨M, rfl⟩ : ∃ m : Nat, L = m := ⟨L.toNat, by omega⟩
      simp only [Int.toNat_natCast] at hq
      exact k14 hl (by omega) (by omega) (fun g hb => b83_47 (hb.cd g1) (kEnt (kn := 3) hd (by omega) (by decide) hb (fun q => absurd q (by decide)) (fun h' gr cd => b83_50 (hq h' gr cd))))
    · rw [iZ_shl _ (by omega), iZ_lt hL (by unfold i32; omega)] at z3
      rw [tf_n0] at z5
      rw [if_pos (by omega), if_pos z5] at hq
      exact hq
    · rw [iZ_shl _ (by omega), iZ_lt hL (by unfold i32; omega)] at z3
      rw [if_neg (by omega)] at hq
      exact hq
end CM
