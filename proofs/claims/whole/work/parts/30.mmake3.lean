/-! ===== the reference: joined ventures, set, close ===== -/

section MM
variable {h h' : mH} {Q : Option Value → mH → Prop} {i n m c kn : Nat} {w f : Nat → Int} {kd sz : Nat → Nat} {W : Nat → Nat → Int} {a b p s y k : Int}
theorem c139s (hr : RB h (c + 1) c kd (set1 sz c n) W) (hn : 1 ≤ n ∧ n ≤ 4) (hq : Q (some (.int (iZ (al n)))) h) : mCt mCd 139 [.ref 14, .int (iZ c)] h Q := by
  obtain ⟨⟨hc, hm⟩, hb, cor, bA, bB, rw_, bo, fk, fs, g, e1, e2, e3, e4, hf⟩ := hr
  have hs := (hf c (by omega)).2.1
  rw [set1_e] at hs
  refine en139 (b139_0 e1 e3 (iZ_in (by omega) (by omega) (by decide)) ?_)
  rw [iZ_nat (by omega) (by omega), Int.toNat_natCast, hs, iZ_shl _ (by omega), iZ_sub]
  have : ((2 ^ n : Nat) : Int) - 1 = (al n : Nat) := by
    have := two_pow_pos n
    unfold al; omega
  rw [this]
  exact hq
theorem RB.mv1 (hr : RB h (c + 1) c (set1 kd c kn) (set1 sz c n) (set1 W c w)) (hi : i < c) : MV h i (sz i) (W i) := by
  have := (hr.rv (by omega)).mv hi
  rwa [set1_n _ _ (by omega), set1_n _ _ (by omega)] at this
theorem RB.no1 (hr : RB h (c + 1) c (set1 kd c kn) (set1 sz c n) (set1 W c w)) : RV h c kd sz W := (hr.rv (by omega)).cg fun i hi => by
  rw [set1_n _ _ (by omega), set1_n _ _ (by omega), set1_n _ _ (by omega)]
  exact ⟨rfl, rfl, rfl⟩
def drF (w : Nat → Int) (p s : Nat) : Int := w (opn s p)
def joF (w : Nat → Int) (a b s : Nat) : Int := w (opn s b + bt s a * 2 ^ b)
def otF (w : Nat → Int) (n s : Nat) : Int := w (al n) - w (andn (al n) s)
def eDrop (c : Nat) (sz : Nat → Nat) (W : Nat → Nat → Int) (a p : Int) : Int ⊕ (Nat × Nat × (Nat → Int)) := if 0 ≤ a ∧ a < c then (if 0 ≤ p ∧ p < sz a.toNat then (if sz a.toNat = 1 then .inl (-3) else if c = 10 then .inl (-4) else .inr (4, sz a.toNat - 1, fillW (drF (W a.toNat) p.toNat) (2 ^ (sz a.toNat - 1)))) else .inl (-2)) else .inl (-2)
def eJoin (c : Nat) (sz : Nat → Nat) (W : Nat → Nat → Int) (a p b : Int) : Int ⊕ (Nat × Nat × (Nat → Int)) := if 0 ≤ a ∧ a < c then (if (0 ≤ p ∧ p < sz a.toNat) ∧ (0 ≤ b ∧ b < sz a.toNat) ∧ p < b then (if c = 10 then .inl (-4) else .inr (4, sz a.toNat - 1, fillW (joF (W a.toNat) p.toNat b.toNat) (2 ^ (sz a.toNat - 1)))) else .inl (-2)) else .inl (-2)
def eOther (c : Nat) (sz : Nat → Nat) (W : Nat → Nat → Int) (a : Int) : Int ⊕ (Nat × Nat × (Nat → Int)) := if 0 ≤ a ∧ a < c then (if c = 10 then .inl (-4) else .inr (4, sz a.toNat, fillW (otF (W a.toNat) (sz a.toNat)) (2 ^ sz a.toNat))) else .inl (-2)
theorem l156 {p : Nat} (hn : 1 ≤ n ∧ n ≤ 4) (hc : c < 10) (hi : i < c) (hp : p < 4) (hn3 : 2 ^ n ≤ 8) (hq : mkQ h c kd sz W Q (.inr (4, n, fillW (drF (W i) p) (2 ^ n)))) : ∀ k, k ≤ 2 ^ n → 1 ≤ k → ∀ H, Eqx [15, 16, 17] h H → RB H (c + 1) c (set1 kd c 4) (set1 sz c n) (set1 W c (fillW (drF (W i) p) k)) → mWp mCd 156 (62, [some (.ref 14), some (.int (iZ i)), some (.int (iZ p)), some (.int (iZ c)), some (.int (iZ k))], [], H, 0, 0) Q := by
  have h16 := two_pow_le4 hn.2
  have hal : al n = 2 ^ n - 1 := rfl
  have h2p := two_pow_pos n
  refine lp_up (2 ^ n) ?_ ?_
  · intro _ H hx hr
    obtain ⟨cor, bA, bB, rw_, bo, g, e1, e2⟩ := hr.o
    have hs : True := trivial
    have hv := hr.mv1 hi
    refine b156_62 e1 (c139s hr hn (b156_69 (fun _ => b156_102 e1 (mkEnd hr hx hc (by decide) hn (wtB_of fun s => hv.2.2.1 _) ?_)) (fun q => ?_)))
    · exact fun h2 x2 o2 r2 => b156_106 (hq h2 x2 o2 r2)
    · simp (disch := (first | assumption | omega | (unfold i32; omega) | (unfold i64; omega))) only [iZ_add, iZ_sub, iZ_mul, iZ_neg, lZ_add, lZ_sub, lZ_mul, lZ_neg, lZ_i, iZ_l, iZ_nat, Int.toNat_natCast, iZ_bit, iZ_shl, iZ_or, iZ_lt, iZ_le, iZ_eq, iZ_lt0, iZ_le0, iZ_gt0, iZ_ge0, iZ_eq0, cmp_eq0, cmp_lt0, cmp_le0, cmp_ge0, cmp_gt0, tf_0, tf_n0, Decidable.not_not, not_true_eq_false, not_false_eq_true, hs, Int.toNat_natCast, tn16] at q
      omega
  · intro k hk ih h1 H hx hr
    obtain ⟨cor, bA, bB, rw_, bo, g, e1, e2⟩ := hr.o
    have hv := hr.mv1 hi
    have hs : True := trivial
    have ih := fun H' x' r' => ih (by omega) H' x' r'
    have hfin := hr.fill e2 ⟨h1, by omega⟩
    refine b156_62 e1 (c139s hr hn (b156_69 (fun q => ?_) (fun _ => ?_)))
    · simp (disch := (first | assumption | omega | (unfold i32; omega) | (unfold i64; omega))) only [iZ_add, iZ_sub, iZ_mul, iZ_neg, lZ_add, lZ_sub, lZ_mul, lZ_neg, lZ_i, iZ_l, iZ_nat, Int.toNat_natCast, iZ_bit, iZ_shl, iZ_or, iZ_lt, iZ_le, iZ_eq, iZ_lt0, iZ_le0, iZ_gt0, iZ_ge0, iZ_eq0, cmp_eq0, cmp_lt0, cmp_le0, cmp_ge0, cmp_gt0, tf_0, tf_n0, Decidable.not_not, not_true_eq_false, not_false_eq_true, hs, Int.toNat_natCast, tn16] at q
      omega
    · refine b156_72 e1 (c155 (by omega) hp (b156_92 e1 (c144 hv (opn_lt k (by omega) p hp) (b156_95 e2 ?_ ?_))))
      · rw [iZ_mul, iZ_add]
        exact iZ_in (by omega) (by omega) (by decide)
      · simp (disch := (first | assumption | omega | (unfold i32; omega) | (unfold i64; omega))) only [iZ_add, iZ_sub, iZ_mul, iZ_neg, lZ_add, lZ_sub, lZ_mul, lZ_neg, lZ_i, iZ_l, iZ_nat, Int.toNat_natCast, iZ_bit, iZ_shl, iZ_or, iZ_lt, iZ_le, iZ_eq, iZ_lt0, iZ_le0, iZ_gt0, iZ_ge0, iZ_eq0, cmp_eq0, cmp_lt0, cmp_le0, cmp_ge0, cmp_gt0, tf_0, tf_n0, Decidable.not_not, not_true_eq_false, not_false_eq_true, hs, Int.toNat_natCast, tn16]
        exact ih _ (hx.st _ (by decide)) hfin
theorem l157 {p b : Nat} (hn : 1 ≤ n ∧ n ≤ 4) (hc : c < 10) (hi : i < c) (hp : p < 4) (hb : b < 4) (hn3 : 2 ^ n ≤ 8) (hq : mkQ h c kd sz W Q (.inr (4, n, fillW (joF (W i) p b) (2 ^ n)))) : ∀ k, k ≤ 2 ^ n → 1 ≤ k → ∀ H, Eqx [15, 16, 17] h H → RB H (c + 1) c (set1 kd c 4) (set1 sz c n) (set1 W c (fillW (joF (W i) p b) k)) → mWp mCd 157 (64, [some (.ref 14), some (.int (iZ i)), some (.int (iZ p)), some (.int (iZ b)), some (.int (iZ c)), some (.int (iZ k))], [], H, 0, 0) Q := by
  have h16 := two_pow_le4 hn.2
  have hal : al n = 2 ^ n - 1 := rfl
  have h2p := two_pow_pos n
  refine lp_up (2 ^ n) ?_ ?_
  · intro _ H hx hr
    obtain ⟨cor, bA, bB, rw_, bo, g, e1, e2⟩ := hr.o
    have hs : True := trivial
    have hv := hr.mv1 hi
    refine b157_64 e1 (c139s hr hn (b157_72 (fun _ => b157_115 e1 (mkEnd hr hx hc (by decide) hn (wtB_of fun s => hv.2.2.1 _) ?_)) (fun q => ?_)))
    · exact fun h2 x2 o2 r2 => b157_119 (hq h2 x2 o2 r2)
    · simp (disch := (first | assumption | omega | (unfold i32; omega) | (unfold i64; omega))) only [iZ_add, iZ_sub, iZ_mul, iZ_neg, lZ_add, lZ_sub, lZ_mul, lZ_neg, lZ_i, iZ_l, iZ_nat, Int.toNat_natCast, iZ_bit, iZ_shl, iZ_or, iZ_lt, iZ_le, iZ_eq, iZ_lt0, iZ_le0, iZ_gt0, iZ_ge0, iZ_eq0, cmp_eq0, cmp_lt0, cmp_le0, cmp_ge0, cmp_gt0, tf_0, tf_n0, Decidable.not_not, not_true_eq_false, not_false_eq_true, hs, Int.toNat_natCast, tn16] at q
      omega
  · intro k hk ih h1 H hx hr
    obtain ⟨cor, bA, bB, rw_, bo, g, e1, e2⟩ := hr.o
    have hv := hr.mv1 hi
    have hs : True := trivial
    have ih := fun H' x' r' => ih (by omega) H' x' r'
    have hfin := hr.fill e2 ⟨h1, by omega⟩
    refine b157_64 e1 (c139s hr hn (b157_72 (fun q => ?_) (fun _ => ?_)))
    · simp (disch := (first | assumption | omega | (unfold i32; omega) | (unfold i64; omega))) only [iZ_add, iZ_sub, iZ_mul, iZ_neg, lZ_add, lZ_sub, lZ_mul, lZ_neg, lZ_i, iZ_l, iZ_nat, Int.toNat_natCast, iZ_bit, iZ_shl, iZ_or, iZ_lt, iZ_le, iZ_eq, iZ_lt0, iZ_le0, iZ_gt0, iZ_ge0, iZ_eq0, cmp_eq0, cmp_lt0, cmp_le0, cmp_ge0, cmp_gt0, tf_0, tf_n0, Decidable.not_not, not_true_eq_false, not_false_eq_true, hs, Int.toNat_natCast, tn16] at q
      omega
    · refine b157_75 e1 (c155 (by omega) hb (b157_96 e1 ?_))
      rw [iZ_jn k (by omega) p hp b hb]
      refine c144 hv (jn_lt k (by omega) p hp b hb) (b157_108 e2 ?_ ?_)
      · rw [iZ_mul, iZ_add]
        exact iZ_in (by omega) (by omega) (by decide)
      · simp (disch := (first | assumption | omega | (unfold i32; omega) | (unfold i64; omega))) only [iZ_add, iZ_sub, iZ_mul, iZ_neg, lZ_add, lZ_sub, lZ_mul, lZ_neg, lZ_i, iZ_l, iZ_nat, Int.toNat_natCast, iZ_bit, iZ_shl, iZ_or, iZ_lt, iZ_le, iZ_eq, iZ_lt0, iZ_le0, iZ_gt0, iZ_ge0, iZ_eq0, cmp_eq0, cmp_lt0, cmp_le0, cmp_ge0, cmp_gt0, tf_0, tf_n0, Decidable.not_not, not_true_eq_false, not_false_eq_true, hs, Int.toNat_natCast, tn16]
        exact ih _ (hx.st _ (by decide)) hfin
theorem l158  (hn : 1 ≤ sz i ∧ sz i ≤ 4) (hc : c < 10) (hi : i < c) (hd : wtB (sz i) (otF (W i) (sz i))) (hq : mkQ h c kd sz W Q (.inr (4, sz i, fillW (otF (W i) (sz i)) (2 ^ (sz i))))) : ∀ k, k ≤ 2 ^ (sz i) → 1 ≤ k → ∀ H, Eqx [15, 16, 17] h H → RB H (c + 1) c (set1 kd c 4) (set1 sz c (sz i)) (set1 W c (fillW (otF (W i) (sz i)) k)) → mWp mCd 158 (37, [some (.ref 14), some (.int (iZ i)), some (.int (iZ c)), some (.int (iZ k))], [], H, 0, 0) Q := by
  have h16 := two_pow_le4 hn.2
  have hal : al (sz i) = 2 ^ (sz i) - 1 := rfl
  have h2p := two_pow_pos (sz i)
  refine lp_up (2 ^ (sz i)) ?_ ?_
  · intro _ H hx hr
    obtain ⟨cor, bA, bB, rw_, bo, g, e1, e2⟩ := hr.o
    have hs : True := trivial
    have hv := hr.mv1 hi
    refine b158_37 e1 (c139s hr hn (b158_43 (fun _ => b158_88 e1 (mkEnd hr hx hc (by decide) hn hd ?_)) (fun q => ?_)))
    · exact fun h2 x2 o2 r2 => b158_92 (hq h2 x2 o2 r2)
    · simp (disch := (first | assumption | omega | (unfold i32; omega) | (unfold i64; omega))) only [iZ_add, iZ_sub, iZ_mul, iZ_neg, lZ_add, lZ_sub, lZ_mul, lZ_neg, lZ_i, iZ_l, iZ_nat, Int.toNat_natCast, iZ_bit, iZ_shl, iZ_or, iZ_lt, iZ_le, iZ_eq, iZ_lt0, iZ_le0, iZ_gt0, iZ_ge0, iZ_eq0, cmp_eq0, cmp_lt0, cmp_le0, cmp_ge0, cmp_gt0, tf_0, tf_n0, Decidable.not_not, not_true_eq_false, not_false_eq_true, hs, Int.toNat_natCast, tn16] at q
      omega
  · intro k hk ih h1 H hx hr
    obtain ⟨cor, bA, bB, rw_, bo, g, e1, e2⟩ := hr.o
    have hv := hr.mv1 hi
    have hs : True := trivial
    have ih := fun H' x' r' => ih (by omega) H' x' r'
    have hfin := hr.fill e2 ⟨h1, by omega⟩
    refine b158_37 e1 (c139s hr hn (b158_43 (fun q => ?_) (fun _ => ?_)))
    · simp (disch := (first | assumption | omega | (unfold i32; omega) | (unfold i64; omega))) only [iZ_add, iZ_sub, iZ_mul, iZ_neg, lZ_add, lZ_sub, lZ_mul, lZ_neg, lZ_i, iZ_l, iZ_nat, Int.toNat_natCast, iZ_bit, iZ_shl, iZ_or, iZ_lt, iZ_le, iZ_eq, iZ_lt0, iZ_le0, iZ_gt0, iZ_ge0, iZ_eq0, cmp_eq0, cmp_lt0, cmp_le0, cmp_ge0, cmp_gt0, tf_0, tf_n0, Decidable.not_not, not_true_eq_false, not_false_eq_true, hs, Int.toNat_natCast, tn16] at q
      omega
    · have hal2 := al_lt hn.2
      have hl3 := andn_lt (al (sz i)) k
      refine b158_46 e1 (c139 hv (b158_63 e1 (c144 hv hal2 (b158_66 e1 (c139 hv (b158_73 e1 ?_))))))
      rw [iZ_andn _ hal2 _ (by omega)]
      rw [otF] at hfin
      refine c144 hv (by omega) (b158_80 e2 ?_ ?_)
      · rw [iZ_mul, iZ_add]
        exact iZ_in (by omega) (by omega) (by decide)
      · simp (disch := (first | assumption | omega | (unfold i32; omega) | (unfold i64; omega))) only [iZ_add, iZ_sub, iZ_mul, iZ_neg, lZ_add, lZ_sub, lZ_mul, lZ_neg, lZ_i, iZ_l, iZ_nat, Int.toNat_natCast, iZ_bit, iZ_shl, iZ_or, iZ_lt, iZ_le, iZ_eq, iZ_lt0, iZ_le0, iZ_gt0, iZ_ge0, iZ_eq0, cmp_eq0, cmp_lt0, cmp_le0, cmp_ge0, cmp_gt0, tf_0, tf_n0, Decidable.not_not, not_true_eq_false, not_false_eq_true, hs, Int.toNat_natCast, tn16]
        exact ih _ (hx.st _ (by decide)) hfin
theorem c156 (hr : RV h c kd sz W) (ha : i32 a) (hp : i32 p) (hq : mkQ h c kd sz W Q (eDrop c sz W a p)) : mCt mCd 156 [.ref 14, .int (iZ a), .int (iZ p)] h Q := by
  obtain ⟨hc, hb, cor, bA, bB, rw_, bo, fk, fs, g, e1, e2, e3, e4, hf⟩ := id hr
  have hs : True := trivial
  unfold eDrop at hq
  by_cases hA : 0 ≤ a ∧ a < c
  · rw [if_pos hA] at hq
    obtain ⟨i, rfl⟩ : ∃ m : Nat, a = m := ⟨a.toNat, by omega⟩
    have hi : i < c := by omega
    have hv := hr.mv hi
    obtain ⟨hi11, ⟨hn1, hn4⟩, hw, -⟩ := id hv
    simp only [Int.toNat_natCast] at hq
    have hs := (hf i hi).2.1
    split at hq
    · next hB =>
      obtain ⟨p, rfl⟩ : ∃ m : Nat, p = m := ⟨p.toNat, by omega⟩
      simp only [Int.toNat_natCast] at hq
      split at hq
      · have hq := hq.no hr
        repeat' (first
    | refine en156 ?_
    | exact hq
    | refine r138 hr ha ?_
    | refine c143 hv (by assumption) ?_
    | exact iZ_in (by omega) (by omega) (by decide)
    | simp (disch := (first | assumption | omega | (unfold i32; omega) | (unfold i64; omega))) only [iZ_add, iZ_sub, iZ_mul, iZ_neg, lZ_add, lZ_sub, lZ_mul, lZ_neg, lZ_i, iZ_l, iZ_nat, Int.toNat_natCast, iZ_bit, iZ_shl, iZ_or, iZ_lt, iZ_le, iZ_eq, iZ_lt0, iZ_le0, iZ_gt0, iZ_ge0, iZ_eq0, cmp_eq0, cmp_lt0, cmp_le0, cmp_ge0, cmp_gt0, tf_0, tf_n0, Decidable.not_not, not_true_eq_false, not_false_eq_true, hs, Int.toNat_natCast, tn16]
    | refine b156_0 (by first | assumption | (repeat' (first | assumption | refine mGs ?_ | refine mGn (by omega) ?_))) ?_
    | (refine b156_5 (fun q => ?_) (fun q => ?_) <;> (try simp (disch := (first | assumption | omega | (unfold i32; omega) | (unfold i64; omega))) only [iZ_add, iZ_sub, iZ_mul, iZ_neg, lZ_add, lZ_sub, lZ_mul, lZ_neg, lZ_i, iZ_l, iZ_nat, Int.toNat_natCast, iZ_bit, iZ_shl, iZ_or, iZ_lt, iZ_le, iZ_eq, iZ_lt0, iZ_le0, iZ_gt0, iZ_ge0, iZ_eq0, cmp_eq0, cmp_lt0, cmp_le0, cmp_ge0, cmp_gt0, tf_0, tf_n0, Decidable.not_not, not_true_eq_false, not_false_eq_true, hs, Int.toNat_natCast, tn16] at q) <;> (try (exfalso; omega)))
    | refine b156_17 ?_
    | refine b156_8 (by first | assumption | (repeat' (first | assumption | refine mGs ?_ | refine mGn (by omega) ?_))) ?_
    | (refine b156_14 (fun q => ?_) (fun q => ?_) <;> (try simp (disch := (first | assumption | omega | (unfold i32; omega) | (unfold i64; omega))) only [iZ_add, iZ_sub, iZ_mul, iZ_neg, lZ_add, lZ_sub, lZ_mul, lZ_neg, lZ_i, iZ_l, iZ_nat, Int.toNat_natCast, iZ_bit, iZ_shl, iZ_or, iZ_lt, iZ_le, iZ_eq, iZ_lt0, iZ_le0, iZ_gt0, iZ_ge0, iZ_eq0, cmp_eq0, cmp_lt0, cmp_le0, cmp_ge0, cmp_gt0, tf_0, tf_n0, Decidable.not_not, not_true_eq_false, not_false_eq_true, hs, Int.toNat_natCast, tn16] at q) <;> (try (exfalso; omega)))
    | (refine b156_20 (by first | assumption | (repeat' (first | assumption | refine mGs ?_ | refine mGn (by omega) ?_))) (by first | assumption | (repeat' (first | assumption | refine mGs ?_ | refine mGn (by omega) ?_))) ?_ (fun q => ?_) (fun q => ?_) <;> (try simp (disch := (first | assumption | omega | (unfold i32; omega) | (unfold i64; omega))) only [iZ_add, iZ_sub, iZ_mul, iZ_neg, lZ_add, lZ_sub, lZ_mul, lZ_neg, lZ_i, iZ_l, iZ_nat, Int.toNat_natCast, iZ_bit, iZ_shl, iZ_or, iZ_lt, iZ_le, iZ_eq, iZ_lt0, iZ_le0, iZ_gt0, iZ_ge0, iZ_eq0, cmp_eq0, cmp_lt0, cmp_le0, cmp_ge0, cmp_gt0, tf_0, tf_n0, Decidable.not_not, not_true_eq_false, not_false_eq_true, hs, Int.toNat_natCast, tn16] at q) <;> (try (exfalso; omega)))
    | (refine b156_33 (by first | assumption | (repeat' (first | assumption | refine mGs ?_ | refine mGn (by omega) ?_))) (fun q => ?_) (fun q => ?_) <;> (try simp (disch := (first | assumption | omega | (unfold i32; omega) | (unfold i64; omega))) only [iZ_add, iZ_sub, iZ_mul, iZ_neg, lZ_add, lZ_sub, lZ_mul, lZ_neg, lZ_i, iZ_l, iZ_nat, Int.toNat_natCast, iZ_bit, iZ_shl, iZ_or, iZ_lt, iZ_le, iZ_eq, iZ_lt0, iZ_le0, iZ_gt0, iZ_ge0, iZ_eq0, cmp_eq0, cmp_lt0, cmp_le0, cmp_ge0, cmp_gt0, tf_0, tf_n0, Decidable.not_not, not_true_eq_false, not_false_eq_true, hs, Int.toNat_natCast, tn16] at q) <;> (try (exfalso; omega)))
    | refine b156_30 ?_
    | refine b156_45 (by first | assumption | (repeat' (first | assumption | refine mGs ?_ | refine mGn (by omega) ?_))) (by first | assumption | (repeat' (first | assumption | refine mGs ?_ | refine mGn (by omega) ?_))) ?_ ?_
    | refine b156_42 ?_
    | refine b156_58 ?_
    | (refine b156_69 (fun q => ?_) (fun q => ?_) <;> (try simp (disch := (first | assumption | omega | (unfold i32; omega) | (unfold i64; omega))) only [iZ_add, iZ_sub, iZ_mul, iZ_neg, lZ_add, lZ_sub, lZ_mul, lZ_neg, lZ_i, iZ_l, iZ_nat, Int.toNat_natCast, iZ_bit, iZ_shl, iZ_or, iZ_lt, iZ_le, iZ_eq, iZ_lt0, iZ_le0, iZ_gt0, iZ_ge0, iZ_eq0, cmp_eq0, cmp_lt0, cmp_le0, cmp_ge0, cmp_gt0, tf_0, tf_n0, Decidable.not_not, not_true_eq_false, not_false_eq_true, hs, Int.toNat_natCast, tn16] at q) <;> (try (exfalso; omega)))
    | refine b156_102 (by first | assumption | (repeat' (first | assumption | refine mGs ?_ | refine mGn (by omega) ?_))) ?_
    | refine b156_72 (by first | assumption | (repeat' (first | assumption | refine mGs ?_ | refine mGn (by omega) ?_))) ?_
    | refine b156_106 ?_
    | refine b156_92 (by first | assumption | (repeat' (first | assumption | refine mGs ?_ | refine mGn (by omega) ?_))) ?_
    | refine b156_95 (by first | assumption | (repeat' (first | assumption | refine mGs ?_ | refine mGn (by omega) ?_))) ?_ ?_)
      · split at hq
        · have hq := hq.no hr
          repeat' (first
    | refine en156 ?_
    | exact hq
    | refine r138 hr ha ?_
    | refine c143 hv (by assumption) ?_
    | exact iZ_in (by omega) (by omega) (by decide)
    | simp (disch := (first | assumption | omega | (unfold i32; omega) | (unfold i64; omega))) only [iZ_add, iZ_sub, iZ_mul, iZ_neg, lZ_add, lZ_sub, lZ_mul, lZ_neg, lZ_i, iZ_l, iZ_nat, Int.toNat_natCast, iZ_bit, iZ_shl, iZ_or, iZ_lt, iZ_le, iZ_eq, iZ_lt0, iZ_le0, iZ_gt0, iZ_ge0, iZ_eq0, cmp_eq0, cmp_lt0, cmp_le0, cmp_ge0, cmp_gt0, tf_0, tf_n0, Decidable.not_not, not_true_eq_false, not_false_eq_true, hs, Int.toNat_natCast, tn16]
    | refine b156_0 (by first | assumption | (repeat' (first | assumption | refine mGs ?_ | refine mGn (by omega) ?_))) ?_
    | (refine b156_5 (fun q => ?_) (fun q => ?_) <;> (try simp (disch := (first | assumption | omega | (unfold i32; omega) | (unfold i64; omega))) only [iZ_add, iZ_sub, iZ_mul, iZ_neg, lZ_add, lZ_sub, lZ_mul, lZ_neg, lZ_i, iZ_l, iZ_nat, Int.toNat_natCast, iZ_bit, iZ_shl, iZ_or, iZ_lt, iZ_le, iZ_eq, iZ_lt0, iZ_le0, iZ_gt0, iZ_ge0, iZ_eq0, cmp_eq0, cmp_lt0, cmp_le0, cmp_ge0, cmp_gt0, tf_0, tf_n0, Decidable.not_not, not_true_eq_false, not_false_eq_true, hs, Int.toNat_natCast, tn16] at q) <;> (try (exfalso; omega)))
    | refine b156_17 ?_
    | refine b156_8 (by first | assumption | (repeat' (first | assumption | refine mGs ?_ | refine mGn (by omega) ?_))) ?_
    | (refine b156_14 (fun q => ?_) (fun q => ?_) <;> (try simp (disch := (first | assumption | omega | (unfold i32; omega) | (unfold i64; omega))) only [iZ_add, iZ_sub, iZ_mul, iZ_neg, lZ_add, lZ_sub, lZ_mul, lZ_neg, lZ_i, iZ_l, iZ_nat, Int.toNat_natCast, iZ_bit, iZ_shl, iZ_or, iZ_lt, iZ_le, iZ_eq, iZ_lt0, iZ_le0, iZ_gt0, iZ_ge0, iZ_eq0, cmp_eq0, cmp_lt0, cmp_le0, cmp_ge0, cmp_gt0, tf_0, tf_n0, Decidable.not_not, not_true_eq_false, not_false_eq_true, hs, Int.toNat_natCast, tn16] at q) <;> (try (exfalso; omega)))
    | (refine b156_20 (by first | assumption | (repeat' (first | assumption | refine mGs ?_ | refine mGn (by omega) ?_))) (by first | assumption | (repeat' (first | assumption | refine mGs ?_ | refine mGn (by omega) ?_))) ?_ (fun q => ?_) (fun q => ?_) <;> (try simp (disch := (first | assumption | omega | (unfold i32; omega) | (unfold i64; omega))) only [iZ_add, iZ_sub, iZ_mul, iZ_neg, lZ_add, lZ_sub, lZ_mul, lZ_neg, lZ_i, iZ_l, iZ_nat, Int.toNat_natCast, iZ_bit, iZ_shl, iZ_or, iZ_lt, iZ_le, iZ_eq, iZ_lt0, iZ_le0, iZ_gt0, iZ_ge0, iZ_eq0, cmp_eq0, cmp_lt0, cmp_le0, cmp_ge0, cmp_gt0, tf_0, tf_n0, Decidable.not_not, not_true_eq_false, not_false_eq_true, hs, Int.toNat_natCast, tn16] at q) <;> (try (exfalso; omega)))
    | (refine b156_33 (by first | assumption | (repeat' (first | assumption | refine mGs ?_ | refine mGn (by omega) ?_))) (fun q => ?_) (fun q => ?_) <;> (try simp (disch := (first | assumption | omega | (unfold i32; omega) | (unfold i64; omega))) only [iZ_add, iZ_sub, iZ_mul, iZ_neg, lZ_add, lZ_sub, lZ_mul, lZ_neg, lZ_i, iZ_l, iZ_nat, Int.toNat_natCast, iZ_bit, iZ_shl, iZ_or, iZ_lt, iZ_le, iZ_eq, iZ_lt0, iZ_le0, iZ_gt0, iZ_ge0, iZ_eq0, cmp_eq0, cmp_lt0, cmp_le0, cmp_ge0, cmp_gt0, tf_0, tf_n0, Decidable.not_not, not_true_eq_false, not_false_eq_true, hs, Int.toNat_natCast, tn16] at q) <;> (try (exfalso; omega)))
    | refine b156_30 ?_
    | refine b156_45 (by first | assumption | (repeat' (first | assumption | refine mGs ?_ | refine mGn (by omega) ?_))) (by first | assumption | (repeat' (first | assumption | refine mGs ?_ | refine mGn (by omega) ?_))) ?_ ?_
    | refine b156_42 ?_
    | refine b156_58 ?_
    | (refine b156_69 (fun q => ?_) (fun q => ?_) <;> (try simp (disch := (first | assumption | omega | (unfold i32; omega) | (unfold i64; omega))) only [iZ_add, iZ_sub, iZ_mul, iZ_neg, lZ_add, lZ_sub, lZ_mul, lZ_neg, lZ_i, iZ_l, iZ_nat, Int.toNat_natCast, iZ_bit, iZ_shl, iZ_or, iZ_lt, iZ_le, iZ_eq, iZ_lt0, iZ_le0, iZ_gt0, iZ_ge0, iZ_eq0, cmp_eq0, cmp_lt0, cmp_le0, cmp_ge0, cmp_gt0, tf_0, tf_n0, Decidable.not_not, not_true_eq_false, not_false_eq_true, hs, Int.toNat_natCast, tn16] at q) <;> (try (exfalso; omega)))
    | refine b156_102 (by first | assumption | (repeat' (first | assumption | refine mGs ?_ | refine mGn (by omega) ?_))) ?_
    | refine b156_72 (by first | assumption | (repeat' (first | assumption | refine mGs ?_ | refine mGn (by omega) ?_))) ?_
    | refine b156_106 ?_
    | refine b156_92 (by first | assumption | (repeat' (first | assumption | refine mGs ?_ | refine mGn (by omega) ?_))) ?_
    | refine b156_95 (by first | assumption | (repeat' (first | assumption | refine mGs ?_ | refine mGn (by omega) ?_))) ?_ ?_)
        · have hx1 : (sz i : Int) - 1 = ((sz i - 1 : Nat) : Int) := by omega
          
          repeat' (first
    | refine en156 ?_
    | exact hq
    | refine r138 hr ha ?_
    | refine c143 hv (by assumption) ?_
    | refine c145 (kn := 4) (n := sz i - 1) hr (fun h1 x1 r1 => ?_)
    | exact iZ_in (by omega) (by omega) (by decide)
    | simp (disch := (first | assumption | omega | (unfold i32; omega) | (unfold i64; omega))) only [iZ_add, iZ_sub, iZ_mul, iZ_neg, lZ_add, lZ_sub, lZ_mul, lZ_neg, lZ_i, iZ_l, iZ_nat, Int.toNat_natCast, iZ_bit, iZ_shl, iZ_or, iZ_lt, iZ_le, iZ_eq, iZ_lt0, iZ_le0, iZ_gt0, iZ_ge0, iZ_eq0, cmp_eq0, cmp_lt0, cmp_le0, cmp_ge0, cmp_gt0, tf_0, tf_n0, Decidable.not_not, not_true_eq_false, not_false_eq_true, hs, Int.toNat_natCast, tn16, hx1]
    | refine b156_0 (by first | assumption | (repeat' (first | assumption | refine mGs ?_ | refine mGn (by omega) ?_))) ?_
    | (refine b156_5 (fun q => ?_) (fun q => ?_) <;> (try simp (disch := (first | assumption | omega | (unfold i32; omega) | (unfold i64; omega))) only [iZ_add, iZ_sub, iZ_mul, iZ_neg, lZ_add, lZ_sub, lZ_mul, lZ_neg, lZ_i, iZ_l, iZ_nat, Int.toNat_natCast, iZ_bit, iZ_shl, iZ_or, iZ_lt, iZ_le, iZ_eq, iZ_lt0, iZ_le0, iZ_gt0, iZ_ge0, iZ_eq0, cmp_eq0, cmp_lt0, cmp_le0, cmp_ge0, cmp_gt0, tf_0, tf_n0, Decidable.not_not, not_true_eq_false, not_false_eq_true, hs, Int.toNat_natCast, tn16, hx1] at q) <;> (try (exfalso; omega)))
    | refine b156_17 ?_
    | refine b156_8 (by first | assumption | (repeat' (first | assumption | refine mGs ?_ | refine mGn (by omega) ?_))) ?_
    | (refine b156_14 (fun q => ?_) (fun q => ?_) <;> (try simp (disch := (first | assumption | omega | (unfold i32; omega) | (unfold i64; omega))) only [iZ_add, iZ_sub, iZ_mul, iZ_neg, lZ_add, lZ_sub, lZ_mul, lZ_neg, lZ_i, iZ_l, iZ_nat, Int.toNat_natCast, iZ_bit, iZ_shl, iZ_or, iZ_lt, iZ_le, iZ_eq, iZ_lt0, iZ_le0, iZ_gt0, iZ_ge0, iZ_eq0, cmp_eq0, cmp_lt0, cmp_le0, cmp_ge0, cmp_gt0, tf_0, tf_n0, Decidable.not_not, not_true_eq_false, not_false_eq_true, hs, Int.toNat_natCast, tn16, hx1] at q) <;> (try (exfalso; omega)))
    | (refine b156_20 (by first | assumption | (repeat' (first | assumption | refine mGs ?_ | refine mGn (by omega) ?_))) (by first | assumption | (repeat' (first | assumption | refine mGs ?_ | refine mGn (by omega) ?_))) ?_ (fun q => ?_) (fun q => ?_) <;> (try simp (disch := (first | assumption | omega | (unfold i32; omega) | (unfold i64; omega))) only [iZ_add, iZ_sub, iZ_mul, iZ_neg, lZ_add, lZ_sub, lZ_mul, lZ_neg, lZ_i, iZ_l, iZ_nat, Int.toNat_natCast, iZ_bit, iZ_shl, iZ_or, iZ_lt, iZ_le, iZ_eq, iZ_lt0, iZ_le0, iZ_gt0, iZ_ge0, iZ_eq0, cmp_eq0, cmp_lt0, cmp_le0, cmp_ge0, cmp_gt0, tf_0, tf_n0, Decidable.not_not, not_true_eq_false, not_false_eq_true, hs, Int.toNat_natCast, tn16, hx1] at q) <;> (try (exfalso; omega)))
    | (refine b156_33 (by first | assumption | (repeat' (first | assumption | refine mGs ?_ | refine mGn (by omega) ?_))) (fun q => ?_) (fun q => ?_) <;> (try simp (disch := (first | assumption | omega | (unfold i32; omega) | (unfold i64; omega))) only [iZ_add, iZ_sub, iZ_mul, iZ_neg, lZ_add, lZ_sub, lZ_mul, lZ_neg, lZ_i, iZ_l, iZ_nat, Int.toNat_natCast, iZ_bit, iZ_shl, iZ_or, iZ_lt, iZ_le, iZ_eq, iZ_lt0, iZ_le0, iZ_gt0, iZ_ge0, iZ_eq0, cmp_eq0, cmp_lt0, cmp_le0, cmp_ge0, cmp_gt0, tf_0, tf_n0, Decidable.not_not, not_true_eq_false, not_false_eq_true, hs, Int.toNat_natCast, tn16, hx1] at q) <;> (try (exfalso; omega)))
    | refine b156_30 ?_
    | refine b156_45 (by first | assumption | (repeat' (first | assumption | refine mGs ?_ | refine mGn (by omega) ?_))) (by first | assumption | (repeat' (first | assumption | refine mGs ?_ | refine mGn (by omega) ?_))) ?_ ?_
    | refine b156_42 ?_
    | (refine b156_69 (fun q => ?_) (fun q => ?_) <;> (try simp (disch := (first | assumption | omega | (unfold i32; omega) | (unfold i64; omega))) only [iZ_add, iZ_sub, iZ_mul, iZ_neg, lZ_add, lZ_sub, lZ_mul, lZ_neg, lZ_i, iZ_l, iZ_nat, Int.toNat_natCast, iZ_bit, iZ_shl, iZ_or, iZ_lt, iZ_le, iZ_eq, iZ_lt0, iZ_le0, iZ_gt0, iZ_ge0, iZ_eq0, cmp_eq0, cmp_lt0, cmp_le0, cmp_ge0, cmp_gt0, tf_0, tf_n0, Decidable.not_not, not_true_eq_false, not_false_eq_true, hs, Int.toNat_natCast, tn16, hx1] at q) <;> (try (exfalso; omega)))
    | refine b156_102 (by first | assumption | (repeat' (first | assumption | refine mGs ?_ | refine mGn (by omega) ?_))) ?_
    | refine b156_72 (by first | assumption | (repeat' (first | assumption | refine mGs ?_ | refine mGn (by omega) ?_))) ?_
    | refine b156_106 ?_
    | refine b156_92 (by first | assumption | (repeat' (first | assumption | refine mGs ?_ | refine mGn (by omega) ?_))) ?_
    | refine b156_95 (by first | assumption | (repeat' (first | assumption | refine mGs ?_ | refine mGn (by omega) ?_))) ?_ ?_)
          refine b156_58 ?_
          rw [← fillW_1 (drF (W i) p)] at r1
          have h8 : 2 ^ (sz i - 1) ≤ 2 ^ 3 := Nat.pow_le_pow_right (by decide) (by omega)
          exact l156 (by omega) (by omega) hi (by omega) (by omega) hq 1 (Nat.one_le_two_pow) (Nat.le_refl 1) h1 x1 r1
    · have hq := hq.no hr
      
      repeat' (first
    | refine en156 ?_
    | exact hq
    | refine r138 hr ha ?_
    | refine c143 hv (by assumption) ?_
    | exact iZ_in (by omega) (by omega) (by decide)
    | simp (disch := (first | assumption | omega | (unfold i32; omega) | (unfold i64; omega))) only [iZ_add, iZ_sub, iZ_mul, iZ_neg, lZ_add, lZ_sub, lZ_mul, lZ_neg, lZ_i, iZ_l, iZ_nat, Int.toNat_natCast, iZ_bit, iZ_shl, iZ_or, iZ_lt, iZ_le, iZ_eq, iZ_lt0, iZ_le0, iZ_gt0, iZ_ge0, iZ_eq0, cmp_eq0, cmp_lt0, cmp_le0, cmp_ge0, cmp_gt0, tf_0, tf_n0, Decidable.not_not, not_true_eq_false, not_false_eq_true, hs, Int.toNat_natCast, tn16]
    | refine b156_0 (by first | assumption | (repeat' (first | assumption | refine mGs ?_ | refine mGn (by omega) ?_))) ?_
    | (refine b156_5 (fun q => ?_) (fun q => ?_) <;> (try simp (disch := (first | assumption | omega | (unfold i32; omega) | (unfold i64; omega))) only [iZ_add, iZ_sub, iZ_mul, iZ_neg, lZ_add, lZ_sub, lZ_mul, lZ_neg, lZ_i, iZ_l, iZ_nat, Int.toNat_natCast, iZ_bit, iZ_shl, iZ_or, iZ_lt, iZ_le, iZ_eq, iZ_lt0, iZ_le0, iZ_gt0, iZ_ge0, iZ_eq0, cmp_eq0, cmp_lt0, cmp_le0, cmp_ge0, cmp_gt0, tf_0, tf_n0, Decidable.not_not, not_true_eq_false, not_false_eq_true, hs, Int.toNat_natCast, tn16] at q) <;> (try (exfalso; omega)))
    | refine b156_17 ?_
    | refine b156_8 (by first | assumption | (repeat' (first | assumption | refine mGs ?_ | refine mGn (by omega) ?_))) ?_
    | (refine b156_14 (fun q => ?_) (fun q => ?_) <;> (try simp (disch := (first | assumption | omega | (unfold i32; omega) | (unfold i64; omega))) only [iZ_add, iZ_sub, iZ_mul, iZ_neg, lZ_add, lZ_sub, lZ_mul, lZ_neg, lZ_i, iZ_l, iZ_nat, Int.toNat_natCast, iZ_bit, iZ_shl, iZ_or, iZ_lt, iZ_le, iZ_eq, iZ_lt0, iZ_le0, iZ_gt0, iZ_ge0, iZ_eq0, cmp_eq0, cmp_lt0, cmp_le0, cmp_ge0, cmp_gt0, tf_0, tf_n0, Decidable.not_not, not_true_eq_false, not_false_eq_true, hs, Int.toNat_natCast, tn16] at q) <;> (try (exfalso; omega)))
    | (refine b156_20 (by first | assumption | (repeat' (first | assumption | refine mGs ?_ | refine mGn (by omega) ?_))) (by first | assumption | (repeat' (first | assumption | refine mGs ?_ | refine mGn (by omega) ?_))) ?_ (fun q => ?_) (fun q => ?_) <;> (try simp (disch := (first | assumption | omega | (unfold i32; omega) | (unfold i64; omega))) only [iZ_add, iZ_sub, iZ_mul, iZ_neg, lZ_add, lZ_sub, lZ_mul, lZ_neg, lZ_i, iZ_l, iZ_nat, Int.toNat_natCast, iZ_bit, iZ_shl, iZ_or, iZ_lt, iZ_le, iZ_eq, iZ_lt0, iZ_le0, iZ_gt0, iZ_ge0, iZ_eq0, cmp_eq0, cmp_lt0, cmp_le0, cmp_ge0, cmp_gt0, tf_0, tf_n0, Decidable.not_not, not_true_eq_false, not_false_eq_true, hs, Int.toNat_natCast, tn16] at q) <;> (try (exfalso; omega)))
    | (refine b156_33 (by first | assumption | (repeat' (first | assumption | refine mGs ?_ | refine mGn (by omega) ?_))) (fun q => ?_) (fun q => ?_) <;> (try simp (disch := (first | assumption | omega | (unfold i32; omega) | (unfold i64; omega))) only [iZ_add, iZ_sub, iZ_mul, iZ_neg, lZ_add, lZ_sub, lZ_mul, lZ_neg, lZ_i, iZ_l, iZ_nat, Int.toNat_natCast, iZ_bit, iZ_shl, iZ_or, iZ_lt, iZ_le, iZ_eq, iZ_lt0, iZ_le0, iZ_gt0, iZ_ge0, iZ_eq0, cmp_eq0, cmp_lt0, cmp_le0, cmp_ge0, cmp_gt0, tf_0, tf_n0, Decidable.not_not, not_true_eq_false, not_false_eq_true, hs, Int.toNat_natCast, tn16] at q) <;> (try (exfalso; omega)))
    | refine b156_30 ?_
    | refine b156_45 (by first | assumption | (repeat' (first | assumption | refine mGs ?_ | refine mGn (by omega) ?_))) (by first | assumption | (repeat' (first | assumption | refine mGs ?_ | refine mGn (by omega) ?_))) ?_ ?_
    | refine b156_42 ?_
    | refine b156_58 ?_
    | (refine b156_69 (fun q => ?_) (fun q => ?_) <;> (try simp (disch := (first | assumption | omega | (unfold i32; omega) | (unfold i64; omega))) only [iZ_add, iZ_sub, iZ_mul, iZ_neg, lZ_add, lZ_sub, lZ_mul, lZ_neg, lZ_i, iZ_l, iZ_nat, Int.toNat_natCast, iZ_bit, iZ_shl, iZ_or, iZ_lt, iZ_le, iZ_eq, iZ_lt0, iZ_le0, iZ_gt0, iZ_ge0, iZ_eq0, cmp_eq0, cmp_lt0, cmp_le0, cmp_ge0, cmp_gt0, tf_0, tf_n0, Decidable.not_not, not_true_eq_false, not_false_eq_true, hs, Int.toNat_natCast, tn16] at q) <;> (try (exfalso; omega)))
    | refine b156_102 (by first | assumption | (repeat' (first | assumption | refine mGs ?_ | refine mGn (by omega) ?_))) ?_
    | refine b156_72 (by first | assumption | (repeat' (first | assumption | refine mGs ?_ | refine mGn (by omega) ?_))) ?_
    | refine b156_106 ?_
    | refine b156_92 (by first | assumption | (repeat' (first | assumption | refine mGs ?_ | refine mGn (by omega) ?_))) ?_
    | refine b156_95 (by first | assumption | (repeat' (first | assumption | refine mGs ?_ | refine mGn (by omega) ?_))) ?_ ?_)
  · rw [if_neg hA] at hq
    have hq := hq.no hr
    repeat' (first
    | refine en156 ?_
    | exact hq
    | refine r138 hr ha ?_
    | exact iZ_in (by omega) (by omega) (by decide)
    | simp (disch := (first | assumption | omega | (unfold i32; omega) | (unfold i64; omega))) only [iZ_add, iZ_sub, iZ_mul, iZ_neg, lZ_add, lZ_sub, lZ_mul, lZ_neg, lZ_i, iZ_l, iZ_nat, Int.toNat_natCast, iZ_bit, iZ_shl, iZ_or, iZ_lt, iZ_le, iZ_eq, iZ_lt0, iZ_le0, iZ_gt0, iZ_ge0, iZ_eq0, cmp_eq0, cmp_lt0, cmp_le0, cmp_ge0, cmp_gt0, tf_0, tf_n0, Decidable.not_not, not_true_eq_false, not_false_eq_true, hs, Int.toNat_natCast, tn16]
    | refine b156_0 (by first | assumption | (repeat' (first | assumption | refine mGs ?_ | refine mGn (by omega) ?_))) ?_
    | (refine b156_5 (fun q => ?_) (fun q => ?_) <;> (try simp (disch := (first | assumption | omega | (unfold i32; omega) | (unfold i64; omega))) only [iZ_add, iZ_sub, iZ_mul, iZ_neg, lZ_add, lZ_sub, lZ_mul, lZ_neg, lZ_i, iZ_l, iZ_nat, Int.toNat_natCast, iZ_bit, iZ_shl, iZ_or, iZ_lt, iZ_le, iZ_eq, iZ_lt0, iZ_le0, iZ_gt0, iZ_ge0, iZ_eq0, cmp_eq0, cmp_lt0, cmp_le0, cmp_ge0, cmp_gt0, tf_0, tf_n0, Decidable.not_not, not_true_eq_false, not_false_eq_true, hs, Int.toNat_natCast, tn16] at q) <;> (try (exfalso; omega)))
    | refine b156_17 ?_
    | refine b156_8 (by first | assumption | (repeat' (first | assumption | refine mGs ?_ | refine mGn (by omega) ?_))) ?_
    | (refine b156_14 (fun q => ?_) (fun q => ?_) <;> (try simp (disch := (first | assumption | omega | (unfold i32; omega) | (unfold i64; omega))) only [iZ_add, iZ_sub, iZ_mul, iZ_neg, lZ_add, lZ_sub, lZ_mul, lZ_neg, lZ_i, iZ_l, iZ_nat, Int.toNat_natCast, iZ_bit, iZ_shl, iZ_or, iZ_lt, iZ_le, iZ_eq, iZ_lt0, iZ_le0, iZ_gt0, iZ_ge0, iZ_eq0, cmp_eq0, cmp_lt0, cmp_le0, cmp_ge0, cmp_gt0, tf_0, tf_n0, Decidable.not_not, not_true_eq_false, not_false_eq_true, hs, Int.toNat_natCast, tn16] at q) <;> (try (exfalso; omega)))
    | (refine b156_20 (by first | assumption | (repeat' (first | assumption | refine mGs ?_ | refine mGn (by omega) ?_))) (by first | assumption | (repeat' (first | assumption | refine mGs ?_ | refine mGn (by omega) ?_))) ?_ (fun q => ?_) (fun q => ?_) <;> (try simp (disch := (first | assumption | omega | (unfold i32; omega) | (unfold i64; omega))) only [iZ_add, iZ_sub, iZ_mul, iZ_neg, lZ_add, lZ_sub, lZ_mul, lZ_neg, lZ_i, iZ_l, iZ_nat, Int.toNat_natCast, iZ_bit, iZ_shl, iZ_or, iZ_lt, iZ_le, iZ_eq, iZ_lt0, iZ_le0, iZ_gt0, iZ_ge0, iZ_eq0, cmp_eq0, cmp_lt0, cmp_le0, cmp_ge0, cmp_gt0, tf_0, tf_n0, Decidable.not_not, not_true_eq_false, not_false_eq_true, hs, Int.toNat_natCast, tn16] at q) <;> (try (exfalso; omega)))
    | (refine b156_33 (by first | assumption | (repeat' (first | assumption | refine mGs ?_ | refine mGn (by omega) ?_))) (fun q => ?_) (fun q => ?_) <;> (try simp (disch := (first | assumption | omega | (unfold i32; omega) | (unfold i64; omega))) only [iZ_add, iZ_sub, iZ_mul, iZ_neg, lZ_add, lZ_sub, lZ_mul, lZ_neg, lZ_i, iZ_l, iZ_nat, Int.toNat_natCast, iZ_bit, iZ_shl, iZ_or, iZ_lt, iZ_le, iZ_eq, iZ_lt0, iZ_le0, iZ_gt0, iZ_ge0, iZ_eq0, cmp_eq0, cmp_lt0, cmp_le0, cmp_ge0, cmp_gt0, tf_0, tf_n0, Decidable.not_not, not_true_eq_false, not_false_eq_true, hs, Int.toNat_natCast, tn16] at q) <;> (try (exfalso; omega)))
    | refine b156_30 ?_
    | refine b156_45 (by first | assumption | (repeat' (first | assumption | refine mGs ?_ | refine mGn (by omega) ?_))) (by first | assumption | (repeat' (first | assumption | refine mGs ?_ | refine mGn (by omega) ?_))) ?_ ?_
    | refine b156_42 ?_
    | refine b156_58 ?_
    | (refine b156_69 (fun q => ?_) (fun q => ?_) <;> (try simp (disch := (first | assumption | omega | (unfold i32; omega) | (unfold i64; omega))) only [iZ_add, iZ_sub, iZ_mul, iZ_neg, lZ_add, lZ_sub, lZ_mul, lZ_neg, lZ_i, iZ_l, iZ_nat, Int.toNat_natCast, iZ_bit, iZ_shl, iZ_or, iZ_lt, iZ_le, iZ_eq, iZ_lt0, iZ_le0, iZ_gt0, iZ_ge0, iZ_eq0, cmp_eq0, cmp_lt0, cmp_le0, cmp_ge0, cmp_gt0, tf_0, tf_n0, Decidable.not_not, not_true_eq_false, not_false_eq_true, hs, Int.toNat_natCast, tn16] at q) <;> (try (exfalso; omega)))
    | refine b156_102 (by first | assumption | (repeat' (first | assumption | refine mGs ?_ | refine mGn (by omega) ?_))) ?_
    | refine b156_72 (by first | assumption | (repeat' (first | assumption | refine mGs ?_ | refine mGn (by omega) ?_))) ?_
    | refine b156_106 ?_
    | refine b156_92 (by first | assumption | (repeat' (first | assumption | refine mGs ?_ | refine mGn (by omega) ?_))) ?_
    | refine b156_95 (by first | assumption | (repeat' (first | assumption | refine mGs ?_ | refine mGn (by omega) ?_))) ?_ ?_)
theorem c157 (hr : RV h c kd sz W) (ha : i32 a) (hp : i32 p) (hbb : i32 b) (hq : mkQ h c kd sz W Q (eJoin c sz W a p b)) : mCt mCd 157 [.ref 14, .int (iZ a), .int (iZ p), .int (iZ b)] h Q := by
  obtain ⟨hc, hb, cor, bA, bB, rw_, bo, fk, fs, g, e1, e2, e3, e4, hf⟩ := id hr
  have hs : True := trivial
  unfold eJoin at hq
  by_cases hA : 0 ≤ a ∧ a < c
  · rw [if_pos hA] at hq
    obtain ⟨i, rfl⟩ : ∃ m : Nat, a = m := ⟨a.toNat, by omega⟩
    have hi : i < c := by omega
    have hv := hr.mv hi
    obtain ⟨hi11, ⟨hn1, hn4⟩, hw, -⟩ := id hv
    simp only [Int.toNat_natCast] at hq
    have hs := (hf i hi).2.1
    split at hq
    · next hB =>
      obtain ⟨p, rfl⟩ : ∃ m : Nat, p = m := ⟨p.toNat, by omega⟩
      obtain ⟨b, rfl⟩ : ∃ m : Nat, b = m := ⟨b.toNat, by omega⟩
      simp only [Int.toNat_natCast] at hq
      split at hq
      · have hq := hq.no hr
        repeat' (first
    | refine en157 ?_
    | exact hq
    | refine r138 hr ha ?_
    | refine c143 hv (by assumption) ?_
    | exact iZ_in (by omega) (by omega) (by decide)
    | simp (disch := (first | assumption | omega | (unfold i32; omega) | (unfold i64; omega))) only [iZ_add, iZ_sub, iZ_mul, iZ_neg, lZ_add, lZ_sub, lZ_mul, lZ_neg, lZ_i, iZ_l, iZ_nat, Int.toNat_natCast, iZ_bit, iZ_shl, iZ_or, iZ_lt, iZ_le, iZ_eq, iZ_lt0, iZ_le0, iZ_gt0, iZ_ge0, iZ_eq0, cmp_eq0, cmp_lt0, cmp_le0, cmp_ge0, cmp_gt0, tf_0, tf_n0, Decidable.not_not, not_true_eq_false, not_false_eq_true, hs, Int.toNat_natCast, tn16]
    | refine b157_0 (by first | assumption | (repeat' (first | assumption | refine mGs ?_ | refine mGn (by omega) ?_))) ?_
    | (refine b157_5 (fun q => ?_) (fun q => ?_) <;> (try simp (disch := (first | assumption | omega | (unfold i32; omega) | (unfold i64; omega))) only [iZ_add, iZ_sub, iZ_mul, iZ_neg, lZ_add, lZ_sub, lZ_mul, lZ_neg, lZ_i, iZ_l, iZ_nat, Int.toNat_natCast, iZ_bit, iZ_shl, iZ_or, iZ_lt, iZ_le, iZ_eq, iZ_lt0, iZ_le0, iZ_gt0, iZ_ge0, iZ_eq0, cmp_eq0, cmp_lt0, cmp_le0, cmp_ge0, cmp_gt0, tf_0, tf_n0, Decidable.not_not, not_true_eq_false, not_false_eq_true, hs, Int.toNat_natCast, tn16] at q) <;> (try (exfalso; omega)))
    | refine b157_31 ?_
    | refine b157_8 (by first | assumption | (repeat' (first | assumption | refine mGs ?_ | refine mGn (by omega) ?_))) ?_
    | (refine b157_14 (fun q => ?_) (fun q => ?_) <;> (try simp (disch := (first | assumption | omega | (unfold i32; omega) | (unfold i64; omega))) only [iZ_add, iZ_sub, iZ_mul, iZ_neg, lZ_add, lZ_sub, lZ_mul, lZ_neg, lZ_i, iZ_l, iZ_nat, Int.toNat_natCast, iZ_bit, iZ_shl, iZ_or, iZ_lt, iZ_le, iZ_eq, iZ_lt0, iZ_le0, iZ_gt0, iZ_ge0, iZ_eq0, cmp_eq0, cmp_lt0, cmp_le0, cmp_ge0, cmp_gt0, tf_0, tf_n0, Decidable.not_not, not_true_eq_false, not_false_eq_true, hs, Int.toNat_natCast, tn16] at q) <;> (try (exfalso; omega)))
    | refine b157_17 (by first | assumption | (repeat' (first | assumption | refine mGs ?_ | refine mGn (by omega) ?_))) ?_
    | (refine b157_23 (fun q => ?_) (fun q => ?_) <;> (try simp (disch := (first | assumption | omega | (unfold i32; omega) | (unfold i64; omega))) only [iZ_add, iZ_sub, iZ_mul, iZ_neg, lZ_add, lZ_sub, lZ_mul, lZ_neg, lZ_i, iZ_l, iZ_nat, Int.toNat_natCast, iZ_bit, iZ_shl, iZ_or, iZ_lt, iZ_le, iZ_eq, iZ_lt0, iZ_le0, iZ_gt0, iZ_ge0, iZ_eq0, cmp_eq0, cmp_lt0, cmp_le0, cmp_ge0, cmp_gt0, tf_0, tf_n0, Decidable.not_not, not_true_eq_false, not_false_eq_true, hs, Int.toNat_natCast, tn16] at q) <;> (try (exfalso; omega)))
    | (refine b157_26 (fun q => ?_) (fun q => ?_) <;> (try simp (disch := (first | assumption | omega | (unfold i32; omega) | (unfold i64; omega))) only [iZ_add, iZ_sub, iZ_mul, iZ_neg, lZ_add, lZ_sub, lZ_mul, lZ_neg, lZ_i, iZ_l, iZ_nat, Int.toNat_natCast, iZ_bit, iZ_shl, iZ_or, iZ_lt, iZ_le, iZ_eq, iZ_lt0, iZ_le0, iZ_gt0, iZ_ge0, iZ_eq0, cmp_eq0, cmp_lt0, cmp_le0, cmp_ge0, cmp_gt0, tf_0, tf_n0, Decidable.not_not, not_true_eq_false, not_false_eq_true, hs, Int.toNat_natCast, tn16] at q) <;> (try (exfalso; omega)))
    | (refine b157_34 (by first | assumption | (repeat' (first | assumption | refine mGs ?_ | refine mGn (by omega) ?_))) (fun q => ?_) (fun q => ?_) <;> (try simp (disch := (first | assumption | omega | (unfold i32; omega) | (unfold i64; omega))) only [iZ_add, iZ_sub, iZ_mul, iZ_neg, lZ_add, lZ_sub, lZ_mul, lZ_neg, lZ_i, iZ_l, iZ_nat, Int.toNat_natCast, iZ_bit, iZ_shl, iZ_or, iZ_lt, iZ_le, iZ_eq, iZ_lt0, iZ_le0, iZ_gt0, iZ_ge0, iZ_eq0, cmp_eq0, cmp_lt0, cmp_le0, cmp_ge0, cmp_gt0, tf_0, tf_n0, Decidable.not_not, not_true_eq_false, not_false_eq_true, hs, Int.toNat_natCast, tn16] at q) <;> (try (exfalso; omega)))
    | refine b157_46 (by first | assumption | (repeat' (first | assumption | refine mGs ?_ | refine mGn (by omega) ?_))) (by first | assumption | (repeat' (first | assumption | refine mGs ?_ | refine mGn (by omega) ?_))) ?_ ?_
    | refine b157_43 ?_
    | refine b157_59 ?_
    | (refine b157_72 (fun q => ?_) (fun q => ?_) <;> (try simp (disch := (first | assumption | omega | (unfold i32; omega) | (unfold i64; omega))) only [iZ_add, iZ_sub, iZ_mul, iZ_neg, lZ_add, lZ_sub, lZ_mul, lZ_neg, lZ_i, iZ_l, iZ_nat, Int.toNat_natCast, iZ_bit, iZ_shl, iZ_or, iZ_lt, iZ_le, iZ_eq, iZ_lt0, iZ_le0, iZ_gt0, iZ_ge0, iZ_eq0, cmp_eq0, cmp_lt0, cmp_le0, cmp_ge0, cmp_gt0, tf_0, tf_n0, Decidable.not_not, not_true_eq_false, not_false_eq_true, hs, Int.toNat_natCast, tn16] at q) <;> (try (exfalso; omega)))
    | refine b157_115 (by first | assumption | (repeat' (first | assumption | refine mGs ?_ | refine mGn (by omega) ?_))) ?_
    | refine b157_75 (by first | assumption | (repeat' (first | assumption | refine mGs ?_ | refine mGn (by omega) ?_))) ?_
    | refine b157_119 ?_
    | refine b157_96 (by first | assumption | (repeat' (first | assumption | refine mGs ?_ | refine mGn (by omega) ?_))) ?_
    | refine b157_108 (by first | assumption | (repeat' (first | assumption | refine mGs ?_ | refine mGn (by omega) ?_))) ?_ ?_)
      · have hx1 : (sz i : Int) - 1 = ((sz i - 1 : Nat) : Int) := by omega
        
        repeat' (first
    | refine en157 ?_
    | exact hq
    | refine r138 hr ha ?_
    | refine c143 hv (by assumption) ?_
    | refine c145 (kn := 4) (n := sz i - 1) hr (fun h1 x1 r1 => ?_)
    | exact iZ_in (by omega) (by omega) (by decide)
    | simp (disch := (first | assumption | omega | (unfold i32; omega) | (unfold i64; omega))) only [iZ_add, iZ_sub, iZ_mul, iZ_neg, lZ_add, lZ_sub, lZ_mul, lZ_neg, lZ_i, iZ_l, iZ_nat, Int.toNat_natCast, iZ_bit, iZ_shl, iZ_or, iZ_lt, iZ_le, iZ_eq, iZ_lt0, iZ_le0, iZ_gt0, iZ_ge0, iZ_eq0, cmp_eq0, cmp_lt0, cmp_le0, cmp_ge0, cmp_gt0, tf_0, tf_n0, Decidable.not_not, not_true_eq_false, not_false_eq_true, hs, Int.toNat_natCast, tn16, hx1]
    | refine b157_0 (by first | assumption | (repeat' (first | assumption | refine mGs ?_ | refine mGn (by omega) ?_))) ?_
    | (refine b157_5 (fun q => ?_) (fun q => ?_) <;> (try simp (disch := (first | assumption | omega | (unfold i32; omega) | (unfold i64; omega))) only [iZ_add, iZ_sub, iZ_mul, iZ_neg, lZ_add, lZ_sub, lZ_mul, lZ_neg, lZ_i, iZ_l, iZ_nat, Int.toNat_natCast, iZ_bit, iZ_shl, iZ_or, iZ_lt, iZ_le, iZ_eq, iZ_lt0, iZ_le0, iZ_gt0, iZ_ge0, iZ_eq0, cmp_eq0, cmp_lt0, cmp_le0, cmp_ge0, cmp_gt0, tf_0, tf_n0, Decidable.not_not, not_true_eq_false, not_false_eq_true, hs, Int.toNat_natCast, tn16, hx1] at q) <;> (try (exfalso; omega)))
    | refine b157_31 ?_
    | refine b157_8 (by first | assumption | (repeat' (first | assumption | refine mGs ?_ | refine mGn (by omega) ?_))) ?_
    | (refine b157_14 (fun q => ?_) (fun q => ?_) <;> (try simp (disch := (first | assumption | omega | (unfold i32; omega) | (unfold i64; omega))) only [iZ_add, iZ_sub, iZ_mul, iZ_neg, lZ_add, lZ_sub, lZ_mul, lZ_neg, lZ_i, iZ_l, iZ_nat, Int.toNat_natCast, iZ_bit, iZ_shl, iZ_or, iZ_lt, iZ_le, iZ_eq, iZ_lt0, iZ_le0, iZ_gt0, iZ_ge0, iZ_eq0, cmp_eq0, cmp_lt0, cmp_le0, cmp_ge0, cmp_gt0, tf_0, tf_n0, Decidable.not_not, not_true_eq_false, not_false_eq_true, hs, Int.toNat_natCast, tn16, hx1] at q) <;> (try (exfalso; omega)))
    | refine b157_17 (by first | assumption | (repeat' (first | assumption | refine mGs ?_ | refine mGn (by omega) ?_))) ?_
    | (refine b157_23 (fun q => ?_) (fun q => ?_) <;> (try simp (disch := (first | assumption | omega | (unfold i32; omega) | (unfold i64; omega))) only [iZ_add, iZ_sub, iZ_mul, iZ_neg, lZ_add, lZ_sub, lZ_mul, lZ_neg, lZ_i, iZ_l, iZ_nat, Int.toNat_natCast, iZ_bit, iZ_shl, iZ_or, iZ_lt, iZ_le, iZ_eq, iZ_lt0, iZ_le0, iZ_gt0, iZ_ge0, iZ_eq0, cmp_eq0, cmp_lt0, cmp_le0, cmp_ge0, cmp_gt0, tf_0, tf_n0, Decidable.not_not, not_true_eq_false, not_false_eq_true, hs, Int.toNat_natCast, tn16, hx1] at q) <;> (try (exfalso; omega)))
    | (refine b157_26 (fun q => ?_) (fun q => ?_) <;> (try simp (disch := (first | assumption | omega | (unfold i32; omega) | (unfold i64; omega))) only [iZ_add, iZ_sub, iZ_mul, iZ_neg, lZ_add, lZ_sub, lZ_mul, lZ_neg, lZ_i, iZ_l, iZ_nat, Int.toNat_natCast, iZ_bit, iZ_shl, iZ_or, iZ_lt, iZ_le, iZ_eq, iZ_lt0, iZ_le0, iZ_gt0, iZ_ge0, iZ_eq0, cmp_eq0, cmp_lt0, cmp_le0, cmp_ge0, cmp_gt0, tf_0, tf_n0, Decidable.not_not, not_true_eq_false, not_false_eq_true, hs, Int.toNat_natCast, tn16, hx1] at q) <;> (try (exfalso; omega)))
    | (refine b157_34 (by first | assumption | (repeat' (first | assumption | refine mGs ?_ | refine mGn (by omega) ?_))) (fun q => ?_) (fun q => ?_) <;> (try simp (disch := (first | assumption | omega | (unfold i32; omega) | (unfold i64; omega))) only [iZ_add, iZ_sub, iZ_mul, iZ_neg, lZ_add, lZ_sub, lZ_mul, lZ_neg, lZ_i, iZ_l, iZ_nat, Int.toNat_natCast, iZ_bit, iZ_shl, iZ_or, iZ_lt, iZ_le, iZ_eq, iZ_lt0, iZ_le0, iZ_gt0, iZ_ge0, iZ_eq0, cmp_eq0, cmp_lt0, cmp_le0, cmp_ge0, cmp_gt0, tf_0, tf_n0, Decidable.not_not, not_true_eq_false, not_false_eq_true, hs, Int.toNat_natCast, tn16, hx1] at q) <;> (try (exfalso; omega)))
    | refine b157_46 (by first | assumption | (repeat' (first | assumption | refine mGs ?_ | refine mGn (by omega) ?_))) (by first | assumption | (repeat' (first | assumption | refine mGs ?_ | refine mGn (by omega) ?_))) ?_ ?_
    | refine b157_43 ?_
    | (refine b157_72 (fun q => ?_) (fun q => ?_) <;> (try simp (disch := (first | assumption | omega | (unfold i32; omega) | (unfold i64; omega))) only [iZ_add, iZ_sub, iZ_mul, iZ_neg, lZ_add, lZ_sub, lZ_mul, lZ_neg, lZ_i, iZ_l, iZ_nat, Int.toNat_natCast, iZ_bit, iZ_shl, iZ_or, iZ_lt, iZ_le, iZ_eq, iZ_lt0, iZ_le0, iZ_gt0, iZ_ge0, iZ_eq0, cmp_eq0, cmp_lt0, cmp_le0, cmp_ge0, cmp_gt0, tf_0, tf_n0, Decidable.not_not, not_true_eq_false, not_false_eq_true, hs, Int.toNat_natCast, tn16, hx1] at q) <;> (try (exfalso; omega)))
    | refine b157_115 (by first | assumption | (repeat' (first | assumption | refine mGs ?_ | refine mGn (by omega) ?_))) ?_
    | refine b157_75 (by first | assumption | (repeat' (first | assumption | refine mGs ?_ | refine mGn (by omega) ?_))) ?_
    | refine b157_119 ?_
    | refine b157_96 (by first | assumption | (repeat' (first | assumption | refine mGs ?_ | refine mGn (by omega) ?_))) ?_
    | refine b157_108 (by first | assumption | (repeat' (first | assumption | refine mGs ?_ | refine mGn (by omega) ?_))) ?_ ?_)
        refine b157_59 ?_
        rw [← fillW_1 (joF (W i) p b)] at r1
        have h8 : 2 ^ (sz i - 1) ≤ 2 ^ 3 := Nat.pow_le_pow_right (by decide) (by omega)
        exact l157 (by omega) (by omega) hi (by omega) (by omega) (by omega) hq 1 (Nat.one_le_two_pow) (Nat.le_refl 1) h1 x1 r1
    · have hq := hq.no hr
      
      repeat' (first
    | refine en157 ?_
    | exact hq
    | refine r138 hr ha ?_
    | refine c143 hv (by assumption) ?_
    | exact iZ_in (by omega) (by omega) (by decide)
    | simp (disch := (first | assumption | omega | (unfold i32; omega) | (unfold i64; omega))) only [iZ_add, iZ_sub, iZ_mul, iZ_neg, lZ_add, lZ_sub, lZ_mul, lZ_neg, lZ_i, iZ_l, iZ_nat, Int.toNat_natCast, iZ_bit, iZ_shl, iZ_or, iZ_lt, iZ_le, iZ_eq, iZ_lt0, iZ_le0, iZ_gt0, iZ_ge0, iZ_eq0, cmp_eq0, cmp_lt0, cmp_le0, cmp_ge0, cmp_gt0, tf_0, tf_n0, Decidable.not_not, not_true_eq_false, not_false_eq_true, hs, Int.toNat_natCast, tn16]
    | refine b157_0 (by first | assumption | (repeat' (first | assumption | refine mGs ?_ | refine mGn (by omega) ?_))) ?_
    | (refine b157_5 (fun q => ?_) (fun q => ?_) <;> (try simp (disch := (first | assumption | omega | (unfold i32; omega) | (unfold i64; omega))) only [iZ_add, iZ_sub, iZ_mul, iZ_neg, lZ_add, lZ_sub, lZ_mul, lZ_neg, lZ_i, iZ_l, iZ_nat, Int.toNat_natCast, iZ_bit, iZ_shl, iZ_or, iZ_lt, iZ_le, iZ_eq, iZ_lt0, iZ_le0, iZ_gt0, iZ_ge0, iZ_eq0, cmp_eq0, cmp_lt0, cmp_le0, cmp_ge0, cmp_gt0, tf_0, tf_n0, Decidable.not_not, not_true_eq_false, not_false_eq_true, hs, Int.toNat_natCast, tn16] at q) <;> (try (exfalso; omega)))
    | refine b157_31 ?_
    | refine b157_8 (by first | assumption | (repeat' (first | assumption | refine mGs ?_ | refine mGn (by omega) ?_))) ?_
    | (refine b157_14 (fun q => ?_) (fun q => ?_) <;> (try simp (disch := (first | assumption | omega | (unfold i32; omega) | (unfold i64; omega))) only [iZ_add, iZ_sub, iZ_mul, iZ_neg, lZ_add, lZ_sub, lZ_mul, lZ_neg, lZ_i, iZ_l, iZ_nat, Int.toNat_natCast, iZ_bit, iZ_shl, iZ_or, iZ_lt, iZ_le, iZ_eq, iZ_lt0, iZ_le0, iZ_gt0, iZ_ge0, iZ_eq0, cmp_eq0, cmp_lt0, cmp_le0, cmp_ge0, cmp_gt0, tf_0, tf_n0, Decidable.not_not, not_true_eq_false, not_false_eq_true, hs, Int.toNat_natCast, tn16] at q) <;> (try (exfalso; omega)))
    | refine b157_17 (by first | assumption | (repeat' (first | assumption | refine mGs ?_ | refine mGn (by omega) ?_))) ?_
    | (refine b157_23 (fun q => ?_) (fun q => ?_) <;> (try simp (disch := (first | assumption | omega | (unfold i32; omega) | (unfold i64; omega))) only [iZ_add, iZ_sub, iZ_mul, iZ_neg, lZ_add, lZ_sub, lZ_mul, lZ_neg, lZ_i, iZ_l, iZ_nat, Int.toNat_natCast, iZ_bit, iZ_shl, iZ_or, iZ_lt, iZ_le, iZ_eq, iZ_lt0, iZ_le0, iZ_gt0, iZ_ge0, iZ_eq0, cmp_eq0, cmp_lt0, cmp_le0, cmp_ge0, cmp_gt0, tf_0, tf_n0, Decidable.not_not, not_true_eq_false, not_false_eq_true, hs, Int.toNat_natCast, tn16] at q) <;> (try (exfalso; omega)))
    | (refine b157_26 (fun q => ?_) (fun q => ?_) <;> (try simp (disch := (first | assumption | omega | (unfold i32; omega) | (unfold i64; omega))) only [iZ_add, iZ_sub, iZ_mul, iZ_neg, lZ_add, lZ_sub, lZ_mul, lZ_neg, lZ_i, iZ_l, iZ_nat, Int.toNat_natCast, iZ_bit, iZ_shl, iZ_or, iZ_lt, iZ_le, iZ_eq, iZ_lt0, iZ_le0, iZ_gt0, iZ_ge0, iZ_eq0, cmp_eq0, cmp_lt0, cmp_le0, cmp_ge0, cmp_gt0, tf_0, tf_n0, Decidable.not_not, not_true_eq_false, not_false_eq_true, hs, Int.toNat_natCast, tn16] at q) <;> (try (exfalso; omega)))
    | (refine b157_34 (by first | assumption | (repeat' (first | assumption | refine mGs ?_ | refine mGn (by omega) ?_))) (fun q => ?_) (fun q => ?_) <;> (try simp (disch := (first | assumption | omega | (unfold i32; omega) | (unfold i64; omega))) only [iZ_add, iZ_sub, iZ_mul, iZ_neg, lZ_add, lZ_sub, lZ_mul, lZ_neg, lZ_i, iZ_l, iZ_nat, Int.toNat_natCast, iZ_bit, iZ_shl, iZ_or, iZ_lt, iZ_le, iZ_eq, iZ_lt0, iZ_le0, iZ_gt0, iZ_ge0, iZ_eq0, cmp_eq0, cmp_lt0, cmp_le0, cmp_ge0, cmp_gt0, tf_0, tf_n0, Decidable.not_not, not_true_eq_false, not_false_eq_true, hs, Int.toNat_natCast, tn16] at q) <;> (try (exfalso; omega)))
    | refine b157_46 (by first | assumption | (repeat' (first | assumption | refine mGs ?_ | refine mGn (by omega) ?_))) (by first | assumption | (repeat' (first | assumption | refine mGs ?_ | refine mGn (by omega) ?_))) ?_ ?_
    | refine b157_43 ?_
    | refine b157_59 ?_
    | (refine b157_72 (fun q => ?_) (fun q => ?_) <;> (try simp (disch := (first | assumption | omega | (unfold i32; omega) | (unfold i64; omega))) only [iZ_add, iZ_sub, iZ_mul, iZ_neg, lZ_add, lZ_sub, lZ_mul, lZ_neg, lZ_i, iZ_l, iZ_nat, Int.toNat_natCast, iZ_bit, iZ_shl, iZ_or, iZ_lt, iZ_le, iZ_eq, iZ_lt0, iZ_le0, iZ_gt0, iZ_ge0, iZ_eq0, cmp_eq0, cmp_lt0, cmp_le0, cmp_ge0, cmp_gt0, tf_0, tf_n0, Decidable.not_not, not_true_eq_false, not_false_eq_true, hs, Int.toNat_natCast, tn16] at q) <;> (try (exfalso; omega)))
    | refine b157_115 (by first | assumption | (repeat' (first | assumption | refine mGs ?_ | refine mGn (by omega) ?_))) ?_
    | refine b157_75 (by first | assumption | (repeat' (first | assumption | refine mGs ?_ | refine mGn (by omega) ?_))) ?_
    | refine b157_119 ?_
    | refine b157_96 (by first | assumption | (repeat' (first | assumption | refine mGs ?_ | refine mGn (by omega) ?_))) ?_
    | refine b157_108 (by first | assumption | (repeat' (first | assumption | refine mGs ?_ | refine mGn (by omega) ?_))) ?_ ?_)
  · rw [if_neg hA] at hq
    have hq := hq.no hr
    repeat' (first
    | refine en157 ?_
    | exact hq
    | refine r138 hr ha ?_
    | exact iZ_in (by omega) (by omega) (by decide)
    | simp (disch := (first | assumption | omega | (unfold i32; omega) | (unfold i64; omega))) only [iZ_add, iZ_sub, iZ_mul, iZ_neg, lZ_add, lZ_sub, lZ_mul, lZ_neg, lZ_i, iZ_l, iZ_nat, Int.toNat_natCast, iZ_bit, iZ_shl, iZ_or, iZ_lt, iZ_le, iZ_eq, iZ_lt0, iZ_le0, iZ_gt0, iZ_ge0, iZ_eq0, cmp_eq0, cmp_lt0, cmp_le0, cmp_ge0, cmp_gt0, tf_0, tf_n0, Decidable.not_not, not_true_eq_false, not_false_eq_true, hs, Int.toNat_natCast, tn16]
    | refine b157_0 (by first | assumption | (repeat' (first | assumption | refine mGs ?_ | refine mGn (by omega) ?_))) ?_
    | (refine b157_5 (fun q => ?_) (fun q => ?_) <;> (try simp (disch := (first | assumption | omega | (unfold i32; omega) | (unfold i64; omega))) only [iZ_add, iZ_sub, iZ_mul, iZ_neg, lZ_add, lZ_sub, lZ_mul, lZ_neg, lZ_i, iZ_l, iZ_nat, Int.toNat_natCast, iZ_bit, iZ_shl, iZ_or, iZ_lt, iZ_le, iZ_eq, iZ_lt0, iZ_le0, iZ_gt0, iZ_ge0, iZ_eq0, cmp_eq0, cmp_lt0, cmp_le0, cmp_ge0, cmp_gt0, tf_0, tf_n0, Decidable.not_not, not_true_eq_false, not_false_eq_true, hs, Int.toNat_natCast, tn16] at q) <;> (try (exfalso; omega)))
    | refine b157_31 ?_
    | refine b157_8 (by first | assumption | (repeat' (first | assumption | refine mGs ?_ | refine mGn (by omega) ?_))) ?_
    | (refine b157_14 (fun q => ?_) (fun q => ?_) <;> (try simp (disch := (first | assumption | omega | (unfold i32; omega) | (unfold i64; omega))) only [iZ_add, iZ_sub, iZ_mul, iZ_neg, lZ_add, lZ_sub, lZ_mul, lZ_neg, lZ_i, iZ_l, iZ_nat, Int.toNat_natCast, iZ_bit, iZ_shl, iZ_or, iZ_lt, iZ_le, iZ_eq, iZ_lt0, iZ_le0, iZ_gt0, iZ_ge0, iZ_eq0, cmp_eq0, cmp_lt0, cmp_le0, cmp_ge0, cmp_gt0, tf_0, tf_n0, Decidable.not_not, not_true_eq_false, not_false_eq_true, hs, Int.toNat_natCast, tn16] at q) <;> (try (exfalso; omega)))
    | refine b157_17 (by first | assumption | (repeat' (first | assumption | refine mGs ?_ | refine mGn (by omega) ?_))) ?_
    | (refine b157_23 (fun q => ?_) (fun q => ?_) <;> (try simp (disch := (first | assumption | omega | (unfold i32; omega) | (unfold i64; omega))) only [iZ_add, iZ_sub, iZ_mul, iZ_neg, lZ_add, lZ_sub, lZ_mul, lZ_neg, lZ_i, iZ_l, iZ_nat, Int.toNat_natCast, iZ_bit, iZ_shl, iZ_or, iZ_lt, iZ_le, iZ_eq, iZ_lt0, iZ_le0, iZ_gt0, iZ_ge0, iZ_eq0, cmp_eq0, cmp_lt0, cmp_le0, cmp_ge0, cmp_gt0, tf_0, tf_n0, Decidable.not_not, not_true_eq_false, not_false_eq_true, hs, Int.toNat_natCast, tn16] at q) <;> (try (exfalso; omega)))
    | (refine b157_26 (fun q => ?_) (fun q => ?_) <;> (try simp (disch := (first | assumption | omega | (unfold i32; omega) | (unfold i64; omega))) only [iZ_add, iZ_sub, iZ_mul, iZ_neg, lZ_add, lZ_sub, lZ_mul, lZ_neg, lZ_i, iZ_l, iZ_nat, Int.toNat_natCast, iZ_bit, iZ_shl, iZ_or, iZ_lt, iZ_le, iZ_eq, iZ_lt0, iZ_le0, iZ_gt0, iZ_ge0, iZ_eq0, cmp_eq0, cmp_lt0, cmp_le0, cmp_ge0, cmp_gt0, tf_0, tf_n0, Decidable.not_not, not_true_eq_false, not_false_eq_true, hs, Int.toNat_natCast, tn16] at q) <;> (try (exfalso; omega)))
    | (refine b157_34 (by first | assumption | (repeat' (first | assumption | refine mGs ?_ | refine mGn (by omega) ?_))) (fun q => ?_) (fun q => ?_) <;> (try simp (disch := (first | assumption | omega | (unfold i32; omega) | (unfold i64; omega))) only [iZ_add, iZ_sub, iZ_mul, iZ_neg, lZ_add, lZ_sub, lZ_mul, lZ_neg, lZ_i, iZ_l, iZ_nat, Int.toNat_natCast, iZ_bit, iZ_shl, iZ_or, iZ_lt, iZ_le, iZ_eq, iZ_lt0, iZ_le0, iZ_gt0, iZ_ge0, iZ_eq0, cmp_eq0, cmp_lt0, cmp_le0, cmp_ge0, cmp_gt0, tf_0, tf_n0, Decidable.not_not, not_true_eq_false, not_false_eq_true, hs, Int.toNat_natCast, tn16] at q) <;> (try (exfalso; omega)))
    | refine b157_46 (by first | assumption | (repeat' (first | assumption | refine mGs ?_ | refine mGn (by omega) ?_))) (by first | assumption | (repeat' (first | assumption | refine mGs ?_ | refine mGn (by omega) ?_))) ?_ ?_
    | refine b157_43 ?_
    | refine b157_59 ?_
    | (refine b157_72 (fun q => ?_) (fun q => ?_) <;> (try simp (disch := (first | assumption | omega | (unfold i32; omega) | (unfold i64; omega))) only [iZ_add, iZ_sub, iZ_mul, iZ_neg, lZ_add, lZ_sub, lZ_mul, lZ_neg, lZ_i, iZ_l, iZ_nat, Int.toNat_natCast, iZ_bit, iZ_shl, iZ_or, iZ_lt, iZ_le, iZ_eq, iZ_lt0, iZ_le0, iZ_gt0, iZ_ge0, iZ_eq0, cmp_eq0, cmp_lt0, cmp_le0, cmp_ge0, cmp_gt0, tf_0, tf_n0, Decidable.not_not, not_true_eq_false, not_false_eq_true, hs, Int.toNat_natCast, tn16] at q) <;> (try (exfalso; omega)))
    | refine b157_115 (by first | assumption | (repeat' (first | assumption | refine mGs ?_ | refine mGn (by omega) ?_))) ?_
    | refine b157_75 (by first | assumption | (repeat' (first | assumption | refine mGs ?_ | refine mGn (by omega) ?_))) ?_
    | refine b157_119 ?_
    | refine b157_96 (by first | assumption | (repeat' (first | assumption | refine mGs ?_ | refine mGn (by omega) ?_))) ?_
    | refine b157_108 (by first | assumption | (repeat' (first | assumption | refine mGs ?_ | refine mGn (by omega) ?_))) ?_ ?_)
theorem c158 (hr : RV h c kd sz W) (hd : ∀ i, i < c → wtB (sz i) (otF (W i) (sz i))) (ha : i32 a) (hq : mkQ h c kd sz W Q (eOther c sz W a)) : mCt mCd 158 [.ref 14, .int (iZ a)] h Q := by
  obtain ⟨hc, hb, cor, bA, bB, rw_, bo, fk, fs, g, e1, e2, e3, e4, hf⟩ := id hr
  have hs : True := trivial
  unfold eOther at hq
  by_cases hA : 0 ≤ a ∧ a < c
  · rw [if_pos hA] at hq
    obtain ⟨i, rfl⟩ : ∃ m : Nat, a = m := ⟨a.toNat, by omega⟩
    have hi : i < c := by omega
    have hv := hr.mv hi
    obtain ⟨hi11, ⟨hn1, hn4⟩, hw, -⟩ := id hv
    simp only [Int.toNat_natCast] at hq
    have hs := (hf i hi).2.1
    split at hq
    · have hq := hq.no hr
      repeat' (first
    | refine en158 ?_
    | exact hq
    | refine r138 hr ha ?_
    | exact iZ_in (by omega) (by omega) (by decide)
    | simp (disch := (first | assumption | omega | (unfold i32; omega) | (unfold i64; omega))) only [iZ_add, iZ_sub, iZ_mul, iZ_neg, lZ_add, lZ_sub, lZ_mul, lZ_neg, lZ_i, iZ_l, iZ_nat, Int.toNat_natCast, iZ_bit, iZ_shl, iZ_or, iZ_lt, iZ_le, iZ_eq, iZ_lt0, iZ_le0, iZ_gt0, iZ_ge0, iZ_eq0, cmp_eq0, cmp_lt0, cmp_le0, cmp_ge0, cmp_gt0, tf_0, tf_n0, Decidable.not_not, not_true_eq_false, not_false_eq_true, hs, Int.toNat_natCast, tn16]
    | refine b158_0 (by first | assumption | (repeat' (first | assumption | refine mGs ?_ | refine mGn (by omega) ?_))) ?_
    | (refine b158_5 (fun q => ?_) (fun q => ?_) <;> (try simp (disch := (first | assumption | omega | (unfold i32; omega) | (unfold i64; omega))) only [iZ_add, iZ_sub, iZ_mul, iZ_neg, lZ_add, lZ_sub, lZ_mul, lZ_neg, lZ_i, iZ_l, iZ_nat, Int.toNat_natCast, iZ_bit, iZ_shl, iZ_or, iZ_lt, iZ_le, iZ_eq, iZ_lt0, iZ_le0, iZ_gt0, iZ_ge0, iZ_eq0, cmp_eq0, cmp_lt0, cmp_le0, cmp_ge0, cmp_gt0, tf_0, tf_n0, Decidable.not_not, not_true_eq_false, not_false_eq_true, hs, Int.toNat_natCast, tn16] at q) <;> (try (exfalso; omega)))
    | (refine b158_11 (by first | assumption | (repeat' (first | assumption | refine mGs ?_ | refine mGn (by omega) ?_))) (fun q => ?_) (fun q => ?_) <;> (try simp (disch := (first | assumption | omega | (unfold i32; omega) | (unfold i64; omega))) only [iZ_add, iZ_sub, iZ_mul, iZ_neg, lZ_add, lZ_sub, lZ_mul, lZ_neg, lZ_i, iZ_l, iZ_nat, Int.toNat_natCast, iZ_bit, iZ_shl, iZ_or, iZ_lt, iZ_le, iZ_eq, iZ_lt0, iZ_le0, iZ_gt0, iZ_ge0, iZ_eq0, cmp_eq0, cmp_lt0, cmp_le0, cmp_ge0, cmp_gt0, tf_0, tf_n0, Decidable.not_not, not_true_eq_false, not_false_eq_true, hs, Int.toNat_natCast, tn16] at q) <;> (try (exfalso; omega)))
    | refine b158_8 ?_
    | refine b158_23 (by first | assumption | (repeat' (first | assumption | refine mGs ?_ | refine mGn (by omega) ?_))) (by first | assumption | (repeat' (first | assumption | refine mGs ?_ | refine mGn (by omega) ?_))) ?_ ?_
    | refine b158_20 ?_
    | refine b158_34 ?_
    | (refine b158_43 (fun q => ?_) (fun q => ?_) <;> (try simp (disch := (first | assumption | omega | (unfold i32; omega) | (unfold i64; omega))) only [iZ_add, iZ_sub, iZ_mul, iZ_neg, lZ_add, lZ_sub, lZ_mul, lZ_neg, lZ_i, iZ_l, iZ_nat, Int.toNat_natCast, iZ_bit, iZ_shl, iZ_or, iZ_lt, iZ_le, iZ_eq, iZ_lt0, iZ_le0, iZ_gt0, iZ_ge0, iZ_eq0, cmp_eq0, cmp_lt0, cmp_le0, cmp_ge0, cmp_gt0, tf_0, tf_n0, Decidable.not_not, not_true_eq_false, not_false_eq_true, hs, Int.toNat_natCast, tn16] at q) <;> (try (exfalso; omega)))
    | refine b158_88 (by first | assumption | (repeat' (first | assumption | refine mGs ?_ | refine mGn (by omega) ?_))) ?_
    | refine b158_46 (by first | assumption | (repeat' (first | assumption | refine mGs ?_ | refine mGn (by omega) ?_))) ?_
    | refine b158_92 ?_
    | refine b158_63 (by first | assumption | (repeat' (first | assumption | refine mGs ?_ | refine mGn (by omega) ?_))) ?_
    | refine b158_66 (by first | assumption | (repeat' (first | assumption | refine mGs ?_ | refine mGn (by omega) ?_))) ?_
    | refine b158_73 (by first | assumption | (repeat' (first | assumption | refine mGs ?_ | refine mGn (by omega) ?_))) ?_
    | refine b158_80 (by first | assumption | (repeat' (first | assumption | refine mGs ?_ | refine mGn (by omega) ?_))) ?_ ?_)
    · repeat' (first
    | refine en158 ?_
    | exact hq
    | refine r138 hr ha ?_
    | refine c145 (kn := 4) (n := sz i) hr (fun h1 x1 r1 => ?_)
    | exact iZ_in (by omega) (by omega) (by decide)
    | simp (disch := (first | assumption | omega | (unfold i32; omega) | (unfold i64; omega))) only [iZ_add, iZ_sub, iZ_mul, iZ_neg, lZ_add, lZ_sub, lZ_mul, lZ_neg, lZ_i, iZ_l, iZ_nat, Int.toNat_natCast, iZ_bit, iZ_shl, iZ_or, iZ_lt, iZ_le, iZ_eq, iZ_lt0, iZ_le0, iZ_gt0, iZ_ge0, iZ_eq0, cmp_eq0, cmp_lt0, cmp_le0, cmp_ge0, cmp_gt0, tf_0, tf_n0, Decidable.not_not, not_true_eq_false, not_false_eq_true, hs, Int.toNat_natCast, tn16]
    | refine b158_0 (by first | assumption | (repeat' (first | assumption | refine mGs ?_ | refine mGn (by omega) ?_))) ?_
    | (refine b158_5 (fun q => ?_) (fun q => ?_) <;> (try simp (disch := (first | assumption | omega | (unfold i32; omega) | (unfold i64; omega))) only [iZ_add, iZ_sub, iZ_mul, iZ_neg, lZ_add, lZ_sub, lZ_mul, lZ_neg, lZ_i, iZ_l, iZ_nat, Int.toNat_natCast, iZ_bit, iZ_shl, iZ_or, iZ_lt, iZ_le, iZ_eq, iZ_lt0, iZ_le0, iZ_gt0, iZ_ge0, iZ_eq0, cmp_eq0, cmp_lt0, cmp_le0, cmp_ge0, cmp_gt0, tf_0, tf_n0, Decidable.not_not, not_true_eq_false, not_false_eq_true, hs, Int.toNat_natCast, tn16] at q) <;> (try (exfalso; omega)))
    | (refine b158_11 (by first | assumption | (repeat' (first | assumption | refine mGs ?_ | refine mGn (by omega) ?_))) (fun q => ?_) (fun q => ?_) <;> (try simp (disch := (first | assumption | omega | (unfold i32; omega) | (unfold i64; omega))) only [iZ_add, iZ_sub, iZ_mul, iZ_neg, lZ_add, lZ_sub, lZ_mul, lZ_neg, lZ_i, iZ_l, iZ_nat, Int.toNat_natCast, iZ_bit, iZ_shl, iZ_or, iZ_lt, iZ_le, iZ_eq, iZ_lt0, iZ_le0, iZ_gt0, iZ_ge0, iZ_eq0, cmp_eq0, cmp_lt0, cmp_le0, cmp_ge0, cmp_gt0, tf_0, tf_n0, Decidable.not_not, not_true_eq_false, not_false_eq_true, hs, Int.toNat_natCast, tn16] at q) <;> (try (exfalso; omega)))
    | refine b158_8 ?_
    | refine b158_23 (by first | assumption | (repeat' (first | assumption | refine mGs ?_ | refine mGn (by omega) ?_))) (by first | assumption | (repeat' (first | assumption | refine mGs ?_ | refine mGn (by omega) ?_))) ?_ ?_
    | refine b158_20 ?_
    | (refine b158_43 (fun q => ?_) (fun q => ?_) <;> (try simp (disch := (first | assumption | omega | (unfold i32; omega) | (unfold i64; omega))) only [iZ_add, iZ_sub, iZ_mul, iZ_neg, lZ_add, lZ_sub, lZ_mul, lZ_neg, lZ_i, iZ_l, iZ_nat, Int.toNat_natCast, iZ_bit, iZ_shl, iZ_or, iZ_lt, iZ_le, iZ_eq, iZ_lt0, iZ_le0, iZ_gt0, iZ_ge0, iZ_eq0, cmp_eq0, cmp_lt0, cmp_le0, cmp_ge0, cmp_gt0, tf_0, tf_n0, Decidable.not_not, not_true_eq_false, not_false_eq_true, hs, Int.toNat_natCast, tn16] at q) <;> (try (exfalso; omega)))
    | refine b158_88 (by first | assumption | (repeat' (first | assumption | refine mGs ?_ | refine mGn (by omega) ?_))) ?_
    | refine b158_46 (by first | assumption | (repeat' (first | assumption | refine mGs ?_ | refine mGn (by omega) ?_))) ?_
    | refine b158_92 ?_
    | refine b158_63 (by first | assumption | (repeat' (first | assumption | refine mGs ?_ | refine mGn (by omega) ?_))) ?_
    | refine b158_66 (by first | assumption | (repeat' (first | assumption | refine mGs ?_ | refine mGn (by omega) ?_))) ?_
    | refine b158_73 (by first | assumption | (repeat' (first | assumption | refine mGs ?_ | refine mGn (by omega) ?_))) ?_
    | refine b158_80 (by first | assumption | (repeat' (first | assumption | refine mGs ?_ | refine mGn (by omega) ?_))) ?_ ?_)
      refine b158_34 ?_
      rw [← fillW_1 (otF (W i) (sz i))] at r1
      exact l158 (by omega) (by omega) hi (hd i hi) hq 1 (Nat.one_le_two_pow) (Nat.le_refl 1) h1 x1 r1
  · rw [if_neg hA] at hq
    have hq := hq.no hr
    repeat' (first
    | refine en158 ?_
    | exact hq
    | refine r138 hr ha ?_
    | exact iZ_in (by omega) (by omega) (by decide)
    | simp (disch := (first | assumption | omega | (unfold i32; omega) | (unfold i64; omega))) only [iZ_add, iZ_sub, iZ_mul, iZ_neg, lZ_add, lZ_sub, lZ_mul, lZ_neg, lZ_i, iZ_l, iZ_nat, Int.toNat_natCast, iZ_bit, iZ_shl, iZ_or, iZ_lt, iZ_le, iZ_eq, iZ_lt0, iZ_le0, iZ_gt0, iZ_ge0, iZ_eq0, cmp_eq0, cmp_lt0, cmp_le0, cmp_ge0, cmp_gt0, tf_0, tf_n0, Decidable.not_not, not_true_eq_false, not_false_eq_true, hs, Int.toNat_natCast, tn16]
    | refine b158_0 (by first | assumption | (repeat' (first | assumption | refine mGs ?_ | refine mGn (by omega) ?_))) ?_
    | (refine b158_5 (fun q => ?_) (fun q => ?_) <;> (try simp (disch := (first | assumption | omega | (unfold i32; omega) | (unfold i64; omega))) only [iZ_add, iZ_sub, iZ_mul, iZ_neg, lZ_add, lZ_sub, lZ_mul, lZ_neg, lZ_i, iZ_l, iZ_nat, Int.toNat_natCast, iZ_bit, iZ_shl, iZ_or, iZ_lt, iZ_le, iZ_eq, iZ_lt0, iZ_le0, iZ_gt0, iZ_ge0, iZ_eq0, cmp_eq0, cmp_lt0, cmp_le0, cmp_ge0, cmp_gt0, tf_0, tf_n0, Decidable.not_not, not_true_eq_false, not_false_eq_true, hs, Int.toNat_natCast, tn16] at q) <;> (try (exfalso; omega)))
    | (refine b158_11 (by first | assumption | (repeat' (first | assumption | refine mGs ?_ | refine mGn (by omega) ?_))) (fun q => ?_) (fun q => ?_) <;> (try simp (disch := (first | assumption | omega | (unfold i32; omega) | (unfold i64; omega))) only [iZ_add, iZ_sub, iZ_mul, iZ_neg, lZ_add, lZ_sub, lZ_mul, lZ_neg, lZ_i, iZ_l, iZ_nat, Int.toNat_natCast, iZ_bit, iZ_shl, iZ_or, iZ_lt, iZ_le, iZ_eq, iZ_lt0, iZ_le0, iZ_gt0, iZ_ge0, iZ_eq0, cmp_eq0, cmp_lt0, cmp_le0, cmp_ge0, cmp_gt0, tf_0, tf_n0, Decidable.not_not, not_true_eq_false, not_false_eq_true, hs, Int.toNat_natCast, tn16] at q) <;> (try (exfalso; omega)))
    | refine b158_8 ?_
    | refine b158_23 (by first | assumption | (repeat' (first | assumption | refine mGs ?_ | refine mGn (by omega) ?_))) (by first | assumption | (repeat' (first | assumption | refine mGs ?_ | refine mGn (by omega) ?_))) ?_ ?_
    | refine b158_20 ?_
    | refine b158_34 ?_
    | (refine b158_43 (fun q => ?_) (fun q => ?_) <;> (try simp (disch := (first | assumption | omega | (unfold i32; omega) | (unfold i64; omega))) only [iZ_add, iZ_sub, iZ_mul, iZ_neg, lZ_add, lZ_sub, lZ_mul, lZ_neg, lZ_i, iZ_l, iZ_nat, Int.toNat_natCast, iZ_bit, iZ_shl, iZ_or, iZ_lt, iZ_le, iZ_eq, iZ_lt0, iZ_le0, iZ_gt0, iZ_ge0, iZ_eq0, cmp_eq0, cmp_lt0, cmp_le0, cmp_ge0, cmp_gt0, tf_0, tf_n0, Decidable.not_not, not_true_eq_false, not_false_eq_true, hs, Int.toNat_natCast, tn16] at q) <;> (try (exfalso; omega)))
    | refine b158_88 (by first | assumption | (repeat' (first | assumption | refine mGs ?_ | refine mGn (by omega) ?_))) ?_
    | refine b158_46 (by first | assumption | (repeat' (first | assumption | refine mGs ?_ | refine mGn (by omega) ?_))) ?_
    | refine b158_92 ?_
    | refine b158_63 (by first | assumption | (repeat' (first | assumption | refine mGs ?_ | refine mGn (by omega) ?_))) ?_
    | refine b158_66 (by first | assumption | (repeat' (first | assumption | refine mGs ?_ | refine mGn (by omega) ?_))) ?_
    | refine b158_73 (by first | assumption | (repeat' (first | assumption | refine mGs ?_ | refine mGn (by omega) ?_))) ?_
    | refine b158_80 (by first | assumption | (repeat' (first | assumption | refine mGs ?_ | refine mGn (by omega) ?_))) ?_ ?_)
theorem RV.less (hr : RV h (c + 1) kd sz W) {cor : Int32} {bA bB : Int64} {rw_ bo : Int32} (e : h[14]? = some (oM (iZ (c + 1 : Nat)) cor bA bB rw_ bo)) : RV (h.set 14 (oM (iZ c) cor bA bB rw_ bo)) c kd sz W := by
  obtain ⟨hc, hb, _, _, _, _, _, fk, fs, g, e1, e2, e3, e4, hf⟩ := hr
  exact ⟨by omega, fun i hi => hb i (by omega), cor, bA, bB, rw_, bo, fk, fs, g, mGs e, mGn (by omega) e2, mGn (by omega) e3, mGn (by omega) e4, fun i hi => hf i (by omega)⟩
theorem c159 (hr : RV h c kd sz W) (hq0 : c = 0 → Q (some (.int (iZ (-3)))) h) (hq : c ≠ 0 → ∀ h', Eqx K4 h h' → oMs h h' → RV h' (c - 1) kd sz W → Q (some (.int (iZ (c - 1 : Nat)))) h') : mCt mCd 159 [.ref 14] h Q := by
  obtain ⟨cor, bA, bB, rw_, bo, e1⟩ := hr.o
  have hc := hr.1
  refine en159 (b159_0 e1 (fun q => b159_10 e1 ?_) (fun q => b159_7 ?_))
  · rw [iZ_eq0 (by unfold i32; omega)] at q
    rw [iZ_sub]
    obtain ⟨c, rfl⟩ : ∃ m, c = m + 1 := ⟨c - 1, by omega⟩
    have hx : ((c + 1 : Nat) : Int) - 1 = (c : Nat) := by omega
    rw [hx]
    refine hq (by omega) _ ((Eqx.rf _ h).st _ (by decide)) ?_ (hr.less e1)
    intro v cor' bA' bB' rw' bo' e
    obtain ⟨v', e'⟩ := oMs.rf h v cor' bA' bB' rw' bo' e
    rw [e1] at e
    have e := Option.some.inj e
    simp only [oM, Sum.inr.injEq, Prod.mk.injEq, List.cons.injEq, Value.int.injEq, Value.long.injEq, true_and, and_true] at e
    obtain ⟨-, k1, k2, k3, k4, k5⟩ := e
    subst k1 k2 k3 k4 k5
    exact ⟨_, mGs e1⟩
  · rw [iZ_eq0 (by unfold i32; omega)] at q
    exact hq0 (by omega)
end MM
