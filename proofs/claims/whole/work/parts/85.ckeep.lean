/-! ===== the class: points, kept in order ===== -/

/-- the corners found so far -/
def KL (h : mH) (r : Nat) (L : List (Nat → Int)) (tw : Int32) : Prop := 30 ≤ r ∧ (∀ c, c < L.length → ∀ i, bd 400000000 (L.getD c o0 i)) ∧ ∃ g : Nat → Int32, h[r]? = some (oK r (iZ L.length) tw) ∧ h[r + 1]? = some (aI 96 g) ∧ ∀ c, c < L.length → ∀ i, i < 4 → g (4 * c + i) = iZ (L.getD c o0 i)
section CK
variable {h h' : mH} {Q : Option Value → mH → Prop} {r a ci num n : Nat} {w v p : Nat → Int} {cc tw : Int32} {L : List (Nat → Int)}
theorem k13 (hl : KL h r L tw) {g : Nat → Int32} (e2 : h[r + 2]? = some (aI 4 g)) (hg : ∀ k, k < 4 → g k = iZ (p k)) (hb : ∀ k, bd 400000000 (p k)) {c : Nat} (hc : c < L.length) (hc24 : c < 24) (hq : Q (some (.int (iZ (cmpP p (L.getD c o0) 4 4)))) h) : mCt mCd 13 [.ref r, .int (iZ c)] h Q := by
  obtain ⟨hr, hbL, gc, e1, e3, hf⟩ := hl
  generalize hqq : L.getD c o0 = q at *
  have lp : ∀ k, k ≤ 4 → cmpP p q 4 4 = cmpP p q 4 (4 - k) → mWp mCd 13 (2, [some (.ref r), some (.int (iZ c)), some (.int (iZ k)), none], [], h, 0, 0) Q := by
    refine lp_up 4 ?_ ?_
    · intro he
      rw [he] at hq
      exact b13_2 (fun _ => b13_35 hq) (fun y => absurd (Int32.le_refl _) y)
    · intro k hk ih he
      obtain ⟨d, hd⟩ : ∃ d, 4 - k = d + 1 := ⟨4 - k - 1, by omega⟩
      rw [hd, show cmpP p q 4 (d + 1) = (if p (4 - (d + 1)) < q (4 - (d + 1)) then -1 else if q (4 - (d + 1)) < p (4 - (d + 1)) then 1 else cmpP p q 4 d) from rfl, show 4 - (d + 1) = k by omega] at he
      rw [show 4 - (k + 1) = d by omega] at ih
      have hfk := hf c hc k hk
      rw [hqq] at hfk
      have b1 := hb k
      have b2 := hbL c hc k
      rw [hqq] at b2
      unfold bd at b1 b2
      refine b13_2 (fun y => ?_) (fun _ => b13_7 e1 e2 (inZ hk (by decide)) ?_)
      · simp (disch := (first | assumption | omega | (unfold i32; omega) | (unfold i64; omega))) only [iZ_add, iZ_sub, iZ_mul, iZ_neg, lZ_add, lZ_sub, lZ_mul, lZ_neg, lZ_i, iZ_l, iZ_nat, Int.toNat_natCast, iZ_bit, iZ_shl, iZ_or, iZ_lt, iZ_le, iZ_eq, iZ_lt0, iZ_le0, iZ_gt0, iZ_ge0, iZ_eq0, cmp_eq0, cmp_lt0, cmp_le0, cmp_ge0, cmp_gt0, tf_0, tf_n0, Decidable.not_not, not_true_eq_false, not_false_eq_true, Int.toNat_natCast, onat] at y
        omega
      · rw [tnZ hk (by decide), hg k hk]
        refine k1 e1 e3 hc24 hk (b13_19 ?_)
        rw [hfk]
        refine k216 (by unfold i32; omega) (by unfold i32; omega) ?_
        by_cases l1 : p k < q k
        · rw [if_pos l1] at he ⊢
          rw [he] at hq
          exact b13_22 (fun y => absurd y (by decide)) (fun _ => b13_27 hq)
        · rw [if_neg l1] at he ⊢
          by_cases l2 : q k < p k
          · rw [if_pos l2] at he ⊢
            rw [he] at hq
            exact b13_22 (fun y => absurd y (by decide)) (fun _ => b13_27 hq)
          · rw [if_neg l2] at he ⊢
            refine b13_22 (fun _ => b13_29 ?_) (fun y => absurd rfl y)
            rw [iZ_add]
            exact ih he
  exact en13 (b13_0 (lp 0 (by decide) rfl))
theorem k12 (hl : KL h r L tw) {g : Nat → Int32} (e2 : h[r + 2]? = some (aI 4 g)) (hg : ∀ k, k < 4 → g k = iZ (p k)) (hb : ∀ k, bd 400000000 (p k)) (h24 : (insL 4 p L).length ≤ 24) (hL : L.length ≤ 24) (hq : ∀ h', KL h' r (insL 4 p L) tw → Eqx [r, r + 1] h h' → Q none h') : mCt mCd 12 [.ref r] h Q := by
  have hl0 := hl
  obtain ⟨hr, hbL, gc, e1, e3, hf⟩ := hl
  have ha := pos_le 4 p L
  have ins : (pos 4 p L < L.length → cmpP p (L.getD (pos 4 p L) o0) 4 4 ≠ 0) → mWp mCd 12 (50, [some (.ref r), some (.int (iZ (pos 4 p L))), none, none, none], [], h, 0, 0) Q := by
    intro hne
    obtain ⟨i1, i2⟩ := ins_len 4 p L hne
    have t1 : iZ (pos 4 p L) * iZ 4 = iZ ((4 * pos 4 p L : Nat) : Int) := by rw [iZ_mul]; congr 1; omega
    have t2 : iZ (pos 4 p L) * iZ 4 + iZ 4 = iZ ((4 * pos 4 p L + 4 : Nat) : Int) := by rw [iZ_mul, iZ_add]; congr 1; omega
    have t3 : (iZ L.length - iZ (pos 4 p L)) * iZ 4 = iZ ((4 * (L.length - pos 4 p L) : Nat) : Int) := by rw [iZ_sub, iZ_mul]; congr 1; omega
    have n1 : (iZ ((4 * pos 4 p L : Nat) : Int)).toNatClampNeg = 4 * pos 4 p L := tnZ (m := 200) (by omega) (by decide)
    have n2 : (iZ ((4 * pos 4 p L + 4 : Nat) : Int)).toNatClampNeg = 4 * pos 4 p L + 4 := tnZ (m := 200) (by omega) (by decide)
    have n3 : (iZ ((4 * (L.length - pos 4 p L) : Nat) : Int)).toNatClampNeg = 4 * (L.length - pos 4 p L) := tnZ (m := 200) (by omega) (by decide)
    refine b12_50 e1 (fun _ => b12_60 e1 e3 (by omega) (by omega) ?_ e2 (by omega) (by omega) ?_ ?_) (fun y => ?_)
    · rw [t2, t1, t3, n1, n2, n3, iZ_lt0 (by unfold i32; omega), iZ_lt0 (by unfold i32; omega), iZ_lt0 (by unfold i32; omega)]
      omega
    · rw [t1, n1, show (iZ 0).toNatClampNeg = 0 from rfl, show (iZ 4).toNatClampNeg = 4 from rfl, iZ_lt0 (by unfold i32; omega), iZ_lt0 (by unfold i32; omega), iZ_lt0 (by unfold i32; omega)]
      omega
    · rw [t2, t1, t3, n1, n2, n3, show (iZ 0).toNatClampNeg = 0 from rfl, show (iZ 4).toNatClampNeg = 4 from rfl, iZ_add]
      refine hq _ ⟨hr, ?_, _, ?_, mGn (by omega) (mGs (mGs e3)), ?_⟩ ((((Eqx.rf _ _).st _ (by simp)).st _ (by simp)).st _ (by simp))
      · intro c hc i
        rw [i2 c]
        split
        · exact hbL c (by omega) i
        · split
          · exact hb i
          · exact hbL (c - 1) (by omega) i
      · rw [i1]
        exact mGs (mGn (by omega) (mGn (by omega) e1))
      · intro c hc i hi
        rw [i2 c]
        unfold va_cpy
        by_cases w1 : c < pos 4 p L
        · rw [if_neg (by omega), if_neg (by omega), if_pos w1]
          exact hf c (by omega) i hi
        · rw [if_neg w1]
          by_cases w2 : c = pos 4 p L
          · rw [if_pos (by omega), if_pos w2, show 0 + (4 * c + i - 4 * pos 4 p L) = i by omega]
            exact hg i hi
          · rw [if_neg (by omega), if_pos (by omega), if_neg w2, show 4 * pos 4 p L + (4 * c + i - (4 * pos 4 p L + 4)) = 4 * (c - 1) + i by omega]
            exact hf (c - 1) (by omega) i hi
    · simp (disch := (first | assumption | omega | (unfold i32; omega) | (unfold i64; omega))) only [iZ_add, iZ_sub, iZ_mul, iZ_neg, lZ_add, lZ_sub, lZ_mul, lZ_neg, lZ_i, iZ_l, iZ_nat, Int.toNat_natCast, iZ_bit, iZ_shl, iZ_or, iZ_lt, iZ_le, iZ_eq, iZ_lt0, iZ_le0, iZ_gt0, iZ_ge0, iZ_eq0, cmp_eq0, cmp_lt0, cmp_le0, cmp_ge0, cmp_gt0, tf_0, tf_n0, Decidable.not_not, not_true_eq_false, not_false_eq_true, Int.toNat_natCast, onat] at y
      omega
  have lp : ∀ k, k ≤ pos 4 p L → mWp mCd 12 (2, [some (.ref r), some (.int (iZ k)), none, none, none], [], h, 0, 0) Q := by
    refine lp_up _ ?_ ?_
    · by_cases w : pos 4 p L < L.length
      · have c0 := pos_at 4 p L w
        have cb := cmpP_b p (L.getD (pos 4 p L) o0) 4 4
        refine b12_2 e1 (fun y => ?_) (fun _ => b12_10 e1 (k13 hl0 e2 hg hb w (by omega) (b12_15 (fun _ => b12_24 e1 (fun y => ?_) (fun _ => b12_32 e1 (k13 hl0 e2 hg hb w (by omega) (b12_37 (fun y => b12_44 (b12_45 (fun z => absurd rfl z) (fun _ => ins (fun _ z => ?_)))) (fun y => b12_40 (b12_45 (fun _ => b12_59 ?_) (fun z => absurd (by decide) z))))))) (fun y => ?_))))
        · simp (disch := (first | assumption | omega | (unfold i32; omega) | (unfold i64; omega))) only [iZ_add, iZ_sub, iZ_mul, iZ_neg, lZ_add, lZ_sub, lZ_mul, lZ_neg, lZ_i, iZ_l, iZ_nat, Int.toNat_natCast, iZ_bit, iZ_shl, iZ_or, iZ_lt, iZ_le, iZ_eq, iZ_lt0, iZ_le0, iZ_gt0, iZ_ge0, iZ_eq0, cmp_eq0, cmp_lt0, cmp_le0, cmp_ge0, cmp_gt0, tf_0, tf_n0, Decidable.not_not, not_true_eq_false, not_false_eq_true, Int.toNat_natCast, onat] at y
          omega
        · simp (disch := (first | assumption | omega | (unfold i32; omega) | (unfold i64; omega))) only [iZ_add, iZ_sub, iZ_mul, iZ_neg, lZ_add, lZ_sub, lZ_mul, lZ_neg, lZ_i, iZ_l, iZ_nat, Int.toNat_natCast, iZ_bit, iZ_shl, iZ_or, iZ_lt, iZ_le, iZ_eq, iZ_lt0, iZ_le0, iZ_gt0, iZ_ge0, iZ_eq0, cmp_eq0, cmp_lt0, cmp_le0, cmp_ge0, cmp_gt0, tf_0, tf_n0, Decidable.not_not, not_true_eq_false, not_false_eq_true, Int.toNat_natCast, onat] at y
          omega
        · rw [z] at y
          exact y rfl
        · simp (disch := (first | assumption | omega | (unfold i32; omega) | (unfold i64; omega))) only [iZ_add, iZ_sub, iZ_mul, iZ_neg, lZ_add, lZ_sub, lZ_mul, lZ_neg, lZ_i, iZ_l, iZ_nat, Int.toNat_natCast, iZ_bit, iZ_shl, iZ_or, iZ_lt, iZ_le, iZ_eq, iZ_lt0, iZ_le0, iZ_gt0, iZ_ge0, iZ_eq0, cmp_eq0, cmp_lt0, cmp_le0, cmp_ge0, cmp_gt0, tf_0, tf_n0, Decidable.not_not, not_true_eq_false, not_false_eq_true, Int.toNat_natCast, onat] at y
          have e := ins_id 4 p L w y
          rw [e] at hq
          exact hq h hl0 (Eqx.rf _ _)
        · simp (disch := (first | assumption | omega | (unfold i32; omega) | (unfold i64; omega))) only [iZ_add, iZ_sub, iZ_mul, iZ_neg, lZ_add, lZ_sub, lZ_mul, lZ_neg, lZ_i, iZ_l, iZ_nat, Int.toNat_natCast, iZ_bit, iZ_shl, iZ_or, iZ_lt, iZ_le, iZ_eq, iZ_lt0, iZ_le0, iZ_gt0, iZ_ge0, iZ_eq0, cmp_eq0, cmp_lt0, cmp_le0, cmp_ge0, cmp_gt0, tf_0, tf_n0, Decidable.not_not, not_true_eq_false, not_false_eq_true, Int.toNat_natCast, onat] at y
          omega
      · refine b12_2 e1 (fun _ => b12_24 e1 (fun _ => b12_44 (b12_45 (fun z => absurd rfl z) (fun _ => ins (fun z => absurd z w)))) (fun y => ?_)) (fun y => ?_)
        · simp (disch := (first | assumption | omega | (unfold i32; omega) | (unfold i64; omega))) only [iZ_add, iZ_sub, iZ_mul, iZ_neg, lZ_add, lZ_sub, lZ_mul, lZ_neg, lZ_i, iZ_l, iZ_nat, Int.toNat_natCast, iZ_bit, iZ_shl, iZ_or, iZ_lt, iZ_le, iZ_eq, iZ_lt0, iZ_le0, iZ_gt0, iZ_ge0, iZ_eq0, cmp_eq0, cmp_lt0, cmp_le0, cmp_ge0, cmp_gt0, tf_0, tf_n0, Decidable.not_not, not_true_eq_false, not_false_eq_true, Int.toNat_natCast, onat] at y
          omega
        · simp (disch := (first | assumption | omega | (unfold i32; omega) | (unfold i64; omega))) only [iZ_add, iZ_sub, iZ_mul, iZ_neg, lZ_add, lZ_sub, lZ_mul, lZ_neg, lZ_i, iZ_l, iZ_nat, Int.toNat_natCast, iZ_bit, iZ_shl, iZ_or, iZ_lt, iZ_le, iZ_eq, iZ_lt0, iZ_le0, iZ_gt0, iZ_ge0, iZ_eq0, cmp_eq0, cmp_lt0, cmp_le0, cmp_ge0, cmp_gt0, tf_0, tf_n0, Decidable.not_not, not_true_eq_false, not_false_eq_true, Int.toNat_natCast, onat] at y
          omega
    · intro k hk ih
      have c0 := pos_lt 4 p L k hk
      have cb := cmpP_b p (L.getD k o0) 4 4
      refine b12_2 e1 (fun y => ?_) (fun _ => b12_10 e1 (k13 hl0 e2 hg hb (by omega) (by omega) (b12_15 (fun y => ?_) (fun _ => b12_18 ?_))))
      · simp (disch := (first | assumption | omega | (unfold i32; omega) | (unfold i64; omega))) only [iZ_add, iZ_sub, iZ_mul, iZ_neg, lZ_add, lZ_sub, lZ_mul, lZ_neg, lZ_i, iZ_l, iZ_nat, Int.toNat_natCast, iZ_bit, iZ_shl, iZ_or, iZ_lt, iZ_le, iZ_eq, iZ_lt0, iZ_le0, iZ_gt0, iZ_ge0, iZ_eq0, cmp_eq0, cmp_lt0, cmp_le0, cmp_ge0, cmp_gt0, tf_0, tf_n0, Decidable.not_not, not_true_eq_false, not_false_eq_true, Int.toNat_natCast, onat] at y
        omega
      · simp (disch := (first | assumption | omega | (unfold i32; omega) | (unfold i64; omega))) only [iZ_add, iZ_sub, iZ_mul, iZ_neg, lZ_add, lZ_sub, lZ_mul, lZ_neg, lZ_i, iZ_l, iZ_nat, Int.toNat_natCast, iZ_bit, iZ_shl, iZ_or, iZ_lt, iZ_le, iZ_eq, iZ_lt0, iZ_le0, iZ_gt0, iZ_ge0, iZ_eq0, cmp_eq0, cmp_lt0, cmp_le0, cmp_ge0, cmp_gt0, tf_0, tf_n0, Decidable.not_not, not_true_eq_false, not_false_eq_true, Int.toNat_natCast, onat] at y
        omega
      · rw [iZ_add]
        exact ih
  exact en12 (b12_0 (lp 0 (Nat.zero_le _)))
theorem k9 {ea eb ec tt : Int} {a b c : Nat} (hr : 30 ≤ r) (ha : a < 8) (hb : b < 8) (hc : c < 8) (hd : dt a b c ≠ 0) (e1 : h[r]? = some (oK r cc (iZ tt))) {gi gp : Nat → Int32} (e5 : h[r + 5]? = some (aI 9 gi)) (e2 : h[r + 2]? = some (aI 4 gp)) (hi : ∀ k, k < 3 → gi (3 * k) = iZ (cr b c k) ∧ gi (3 * k + 1) = iZ (cr c a k) ∧ gi (3 * k + 2) = iZ (cr a b k)) (ba : bd 64000 ea) (bb : bd 64000 eb) (bc : bd 64000 ec) (hq : ∀ h' g, Eqx [r + 2] h h' → h'[r + 2]? = some (aI 4 g) → (∀ k, k < 4 → g k = iZ (pt a b c ea eb ec tt k)) → Q none h') : mCt mCd 9 [.ref r, .int (iZ ea), .int (iZ eb), .int (iZ ec), .int (iZ (dt a b c))] h Q := by
  have hdb := dt_2 a ha b hb c hc
  have hid : i32 (dt a b c) := by unfold i32; omega
  have htm : ∀ k, k < 3 → bd 192000 (tms a b c ea eb ec k) := by
    intro k hk
    have g1 := bd_mul (show bd 1 (cr b c k) from cr_b b hb c hc k hk) ba
    have g2 := bd_mul (show bd 1 (cr c a k) from cr_b c hc a ha k hk) bb
    have g3 := bd_mul (show bd 1 (cr a b k) from cr_b a ha b hb k hk) bc
    unfold tms
    unfold bd at *
    omega
  have lp : ∀ k, k ≤ 3 → ∀ h1 g, Eqx [r + 2] h h1 → h1[r + 2]? = some (aI 4 g) → (∀ j, j < k → g j = iZ (pt a b c ea eb ec tt j)) → mWp mCd 9 (15, [some (.ref r), some (.int (iZ ea)), some (.int (iZ eb)), some (.int (iZ ec)), some (.int (iZ (dt a b c))), some (.int (iZ (tt - sumTo (pt a b c ea eb ec tt) k))), some (.int (iZ k)), none], [], h1, 0, 0) Q := by
    refine lp_up 3 ?_ ?_
    · intro h1 g hx g1 hg
      have d1 := (hx.2 r (by simp)).trans e1
      refine b9_15 (fun _ => b9_92 d1 g1 (by omega) ?_) (fun y => absurd (Int32.le_refl _) y)
      rw [show (iZ 3).toNatClampNeg = 3 from rfl]
      refine hq _ _ (hx.st _ (by simp)) (mGs g1) (fun k hk => ?_)
      by_cases e : k = 3
      · subst e
        rw [updI_e]
        congr 1
        unfold sumTo sumTo sumTo sumTo pt
        simp only [Nat.reduceLT, if_true, if_false, Nat.lt_irrefl]
        omega
      · rw [updI_n _ _ e]
        exact hg k (by omega)
    · intro k hk ih h1 g hx g1 hg
      have d1 := (hx.2 r (by simp)).trans e1
      have d5 := (hx.2 (r + 5) (by simp)).trans e5
      have t0 : iZ 3 * iZ k = iZ ((3 * k : Nat) : Int) := by rw [iZ_mul]; rfl
      have t1 : iZ 3 * iZ k + iZ 1 = iZ ((3 * k + 1 : Nat) : Int) := by rw [iZ_mul, iZ_add]; rfl
      have t2 : iZ 3 * iZ k + iZ 2 = iZ ((3 * k + 2 : Nat) : Int) := by rw [iZ_mul, iZ_add]; rfl
      obtain ⟨h0, h1', h2⟩ := hi k hk
      have htk := htm k hk
      unfold bd at htk
      refine b9_15 (fun y => ?_) (fun _ => b9_21 d1 d5 (by rw [t0]; exact inZ (by omega) (by decide)) (by rw [t1]; exact inZ (by omega) (by decide)) (by rw [t2]; exact inZ (by omega) (by decide)) ?_ g1 (inZ (by omega) (by decide)) (by omega) ?_)
      · simp (disch := (first | assumption | omega | (unfold i32; omega) | (unfold i64; omega))) only [iZ_add, iZ_sub, iZ_mul, iZ_neg, lZ_add, lZ_sub, lZ_mul, lZ_neg, lZ_i, iZ_l, iZ_nat, Int.toNat_natCast, iZ_bit, iZ_shl, iZ_or, iZ_lt, iZ_le, iZ_eq, iZ_lt0, iZ_le0, iZ_gt0, iZ_ge0, iZ_eq0, cmp_eq0, cmp_lt0, cmp_le0, cmp_ge0, cmp_gt0, tf_0, tf_n0, Decidable.not_not, not_true_eq_false, not_false_eq_true, Int.toNat_natCast, onat] at y
        omega
      · rw [iZ_eq0 hid]
        exact hd
      · rw [t2, t1, t0, tnZ (show 3 * k < 9 by omega) (by decide), tnZ (show 3 * k + 1 < 9 by omega) (by decide), tnZ (show 3 * k + 2 < 9 by omega) (by decide), tnZ (show k < 4 by omega) (by decide), h0, h1', h2, iZ_mul, iZ_mul, iZ_mul, iZ_add, iZ_add, updI_e, iZ_add]
        have et : cr b c k * ea + cr c a k * eb + cr a b k * ec = tms a b c ea eb ec k := rfl
        rw [et, iZ_div (by unfold i32; omega) hid (by omega), iZ_sub]
        have ep : pt a b c ea eb ec tt k = (tms a b c ea eb ec k).tdiv (dt a b c) := if_pos hk
        rw [← ep]
        have es : tt - sumTo (pt a b c ea eb ec tt) (k + 1) = tt - sumTo (pt a b c ea eb ec tt) k - pt a b c ea eb ec tt k := by
          show tt - (sumTo (pt a b c ea eb ec tt) k + pt a b c ea eb ec tt k) = _
          omega
        rw [es] at ih
        refine ih _ _ (hx.st _ (by simp)) (mGs g1) (fun j hj => ?_)
        by_cases e : j = k
        · subst e; rw [updI_e]
        · rw [updI_n _ _ e]; exact hg j (by omega)
  refine en9 (b9_0 (fun _ => b9_6 e1 ?_) (fun y => ?_))
  · have := lp 0 (by decide) h gp (Eqx.rf _ _) e2 (fun j hj => absurd hj (Nat.not_lt_zero _))
    rw [show tt - sumTo (pt a b c ea eb ec tt) 0 = tt from by show tt - 0 = tt; omega] at this
    exact this
  · rw [iZ_eq0 hid, Decidable.not_not] at y
    exact absurd y hd
end CK
