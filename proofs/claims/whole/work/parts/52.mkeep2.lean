/-! ===== the reference: keep, its run ===== -/
section MK
variable {H : mH} {Q : Option Value → mH → Prop} {z : Nat → Nat → Int} {n : Nat} {v : Int32} {bA bB : Int64} {rw_ bo : Int32} {p : Nat → Int} {L : List (Nat → Int)}

theorem cmpP_b (p q : Nat → Int) (n : Nat) : ∀ d, -1 ≤ cmpP p q n d ∧ cmpP p q n d ≤ 1
  | 0 => ⟨by unfold cmpP; omega, by unfold cmpP; omega⟩
  | d + 1 => by
    have := cmpP_b p q n d
    unfold cmpP
    split
    · omega
    · split
      · omega
      · exact this
theorem l181w (hn : n ≤ 4) (hL : L.length ≤ 390) {at_ : Nat} (ha : at_ ≤ L.length) {cor : Int32} (hz : smR z n) (hp : ∀ i, i < n → 2 * z i 4 = p i * z i i) {fa fu : Nat → Int64} (e1 : H[14]? = some (oM v cor bA bB rw_ bo)) (e2 : H[18]? = some (aL 20 (zM z))) (e3 : H[19]? = some (aL 1600 fa)) (e4 : H[20]? = some (aL 1600 fu)) (hq : ∀ H', H'[14]? = some (oM v (cor + 1) bA bB rw_ bo) → H'[19]? = some (aL 1600 (sto fa (fun i => lZ (lowZ (p i) 2 0)) (4 * at_) n)) → H'[20]? = some (aL 1600 (sto fu (fun i => lZ (lowZ (p i) 2 1)) (4 * at_) n)) → Eqx [14, 19, 20] H H' → Q none H') : ∀ k, k ≤ n → ∀ H1, H1[14]? = some (oM v cor bA bB rw_ bo) → H1[19]? = some (aL 1600 (sto fa (fun i => lZ (lowZ (p i) 2 0)) (4 * at_) k)) → H1[20]? = some (aL 1600 (sto fu (fun i => lZ (lowZ (p i) 2 1)) (4 * at_) k)) → Eqx [14, 19, 20] H H1 → mWp mCd 181 (95, [some (.ref 14), some (.int (iZ n)), some (.int (iZ at_)), some (.int (iZ k))], [], H1, 0, 0) Q := by
  refine lp_up n ?_ ?_
  · intro H1 d1 d2 d3 d4
    refine b181_95 (fun _ => b181_176 d1 ?_) (fun q => absurd (Int32.le_refl _) q)
    exact hq _ (mGs d1) (mGn (by decide) d2) (mGn (by decide) d3) (d4.st _ (by simp))
  · intro k hk ih H1 d1 d2 d3 d4
    have z4 := zM_at z k 4 (by omega)
    have zk := zM_at z k k (by omega)
    have hs : True := trivial
    have d5 : H1[18]? = some (aL 20 (zM z)) := (d4.2 18 (by decide)).trans e2
    have hzk := hz k hk
    have hin1 : ¬ (iZ 5 * iZ k + iZ 4 < 0 ∨ 20 ≤ (iZ 5 * iZ k + iZ 4).toNatClampNeg) := by
      rw [iZ_mul, iZ_add]
      exact iZ_in (by omega) (by omega) (by decide)
    have hin2 : ¬ (iZ 5 * iZ k + iZ k < 0 ∨ 20 ≤ (iZ 5 * iZ k + iZ k).toNatClampNeg) := by
      rw [iZ_mul, iZ_add]
      exact iZ_in (by omega) (by omega) (by decide)
    have hin3 : ¬ (iZ (4 * (at_ : Int) + k) < 0 ∨ 1600 ≤ (iZ (4 * (at_ : Int) + k)).toNatClampNeg) := iZ_in (by omega) (by omega) (by decide)
    have b4 : bd 4611686018427387903 (z k 4) := ⟨by have := hzk.2.1; omega, by have := hzk.2.2; omega⟩
    have bk : bd 4611686018427387903 (z k k) := ⟨by omega, by omega⟩
    have r0 := lowZ_half (a := z k 4) (b := z k k) (by omega) (hp k hk) 0
    have r1 := lowZ_half (a := z k 4) (b := z k k) (by omega) (hp k hk) 1
    refine b181_95 (fun q => ?_) (fun _ => b181_100 d1 d5 hin1 hin2 ?_)
    · simp (disch := (first | assumption | omega | (unfold i32; omega) | (unfold i64; omega))) only [iZ_add, iZ_sub, iZ_mul, iZ_neg, lZ_add, lZ_sub, lZ_mul, lZ_neg, lZ_i, iZ_l, iZ_nat, Int.toNat_natCast, iZ_bit, iZ_shl, iZ_or, iZ_lt, iZ_le, iZ_eq, iZ_lt0, iZ_le0, iZ_gt0, iZ_ge0, iZ_eq0, cmp_eq0, cmp_lt0, cmp_le0, cmp_ge0, cmp_gt0, tf_0, tf_n0, Decidable.not_not, not_true_eq_false, not_false_eq_true, hs, Int.toNat_natCast, tn5, tn55, tn54, tn4, z4, zk] at q
      omega
    · simp (disch := (first | assumption | omega | (unfold i32; omega) | (unfold i64; omega))) only [iZ_add, iZ_sub, iZ_mul, iZ_neg, lZ_add, lZ_sub, lZ_mul, lZ_neg, lZ_i, iZ_l, iZ_nat, Int.toNat_natCast, iZ_bit, iZ_shl, iZ_or, iZ_lt, iZ_le, iZ_eq, iZ_lt0, iZ_le0, iZ_gt0, iZ_ge0, iZ_eq0, cmp_eq0, cmp_lt0, cmp_le0, cmp_ge0, cmp_gt0, tf_0, tf_n0, Decidable.not_not, not_true_eq_false, not_false_eq_true, hs, Int.toNat_natCast, tn5, tn55, tn54, tn4, z4, zk]
      refine c161 d1 (k := 0) (by decide) b4 bk (by omega) ?_
      rw [r0]
      refine b181_134 d2 hin3 d1 d5 hin1 hin2 ?_
      simp (disch := (first | assumption | omega | (unfold i32; omega) | (unfold i64; omega))) only [iZ_add, iZ_sub, iZ_mul, iZ_neg, lZ_add, lZ_sub, lZ_mul, lZ_neg, lZ_i, iZ_l, iZ_nat, Int.toNat_natCast, iZ_bit, iZ_shl, iZ_or, iZ_lt, iZ_le, iZ_eq, iZ_lt0, iZ_le0, iZ_gt0, iZ_ge0, iZ_eq0, cmp_eq0, cmp_lt0, cmp_le0, cmp_ge0, cmp_gt0, tf_0, tf_n0, Decidable.not_not, not_true_eq_false, not_false_eq_true, hs, Int.toNat_natCast, tn5, tn55, tn54, tn4, z4, zk]
      refine c161 (mGn (by decide) d1) (k := 1) (by decide) b4 bk (by omega) ?_
      rw [r1]
      refine b181_169 (mGn (by decide) d3) hin3 ?_
      simp (disch := (first | assumption | omega | (unfold i32; omega) | (unfold i64; omega))) only [iZ_add, iZ_sub, iZ_mul, iZ_neg, lZ_add, lZ_sub, lZ_mul, lZ_neg, lZ_i, iZ_l, iZ_nat, Int.toNat_natCast, iZ_bit, iZ_shl, iZ_or, iZ_lt, iZ_le, iZ_eq, iZ_lt0, iZ_le0, iZ_gt0, iZ_ge0, iZ_eq0, cmp_eq0, cmp_lt0, cmp_le0, cmp_ge0, cmp_gt0, tf_0, tf_n0, Decidable.not_not, not_true_eq_false, not_false_eq_true, hs, Int.toNat_natCast, tn5, tn55, tn54, tn4, z4, zk]
      refine ih _ (mGn (by decide) (mGn (by decide) d1)) ?_ ?_ ((d4.st _ (by simp)).st _ (by simp))
      · rw [mGn (by decide) (mGs d2), ← sto_s]
      · rw [mGs (mGn (by decide) d3), ← sto_s]

theorem l181s (hn : n ≤ 4) (hL : L.length ≤ 390) {at_ : Nat} (ha : at_ ≤ L.length) {fa fu : Nat → Int64} (e3 : H[19]? = some (aL 1600 fa)) (e4 : H[20]? = some (aL 1600 fu)) (hq : ∀ H', H'[19]? = some (aL 1600 (shf fa (4 * L.length) (4 * at_))) → H'[20]? = some (aL 1600 (shf fu (4 * L.length) (4 * at_))) → Eqx [19, 20] H H' → mWp mCd 181 (93, [some (.ref 14), some (.int (iZ n)), some (.int (iZ at_)), none], [], H', 0, 0) Q) (e1 : H[14]? = some (oM v (iZ L.length) bA bB rw_ bo)) : ∀ d, 4 * at_ + d ≤ 4 * L.length → ∀ H1, H1[19]? = some (aL 1600 (shf fa (4 * L.length) (4 * at_ + d))) → H1[20]? = some (aL 1600 (shf fu (4 * L.length) (4 * at_ + d))) → Eqx [19, 20] H H1 → mWp mCd 181 (52, [some (.ref 14), some (.int (iZ n)), some (.int (iZ at_)), some (.int (iZ (4 * (at_ : Int) + d - 1)))], [], H1, 0, 0) Q := by
  intro d
  induction d with
  | zero =>
    intro _ H1 d1 d2 d3
    refine b181_52 (fun q => hq H1 d1 d2 d3) (fun q => ?_)
    simp (disch := (first | assumption | omega | (unfold i32; omega) | (unfold i64; omega))) only [iZ_add, iZ_sub, iZ_mul, iZ_neg, lZ_add, lZ_sub, lZ_mul, lZ_neg, lZ_i, iZ_l, iZ_nat, Int.toNat_natCast, iZ_bit, iZ_shl, iZ_or, iZ_lt, iZ_le, iZ_eq, iZ_lt0, iZ_le0, iZ_gt0, iZ_ge0, iZ_eq0, cmp_eq0, cmp_lt0, cmp_le0, cmp_ge0, cmp_gt0, tf_0, tf_n0, Decidable.not_not, not_true_eq_false, not_false_eq_true, Int.toNat_natCast] at q
    omega
  | succ d ih =>
    intro hd H1 d1 d2 d3
    have hs : True := trivial
    have d0 : H1[14]? = some (oM v (iZ L.length) bA bB rw_ bo) := (d3.2 14 (by decide)).trans e1
    have hin1 : ¬ (iZ (4 * (at_ : Int) + (d + 1 : Nat) - 1) < 0 ∨ 1600 ≤ (iZ (4 * (at_ : Int) + (d + 1 : Nat) - 1)).toNatClampNeg) := iZ_in (by omega) (by omega) (by decide)
    have hin2 : ¬ (iZ (4 * (at_ : Int) + (d + 1 : Nat) - 1) + iZ 4 < 0 ∨ 1600 ≤ (iZ (4 * (at_ : Int) + (d + 1 : Nat) - 1) + iZ 4).toNatClampNeg) := by
      rw [iZ_add]
      exact iZ_in (by omega) (by omega) (by decide)
    have t1 : (4 * (at_ : Int) + (d + 1 : Nat) - 1).toNat = 4 * at_ + d := by omega
    have t2 : (4 * (at_ : Int) + (d + 1 : Nat) - 1 + 4).toNat = 4 * at_ + d + 4 := by omega
    have t3 : 4 * (at_ : Int) + (d + 1 : Nat) - 1 + -1 = 4 * (at_ : Int) + d - 1 := by omega
    refine b181_52 (fun q => ?_) (fun q => b181_59 d0 d1 hin1 hin2 d2 ?_)
    · simp (disch := (first | assumption | omega | (unfold i32; omega) | (unfold i64; omega))) only [iZ_add, iZ_sub, iZ_mul, iZ_neg, lZ_add, lZ_sub, lZ_mul, lZ_neg, lZ_i, iZ_l, iZ_nat, Int.toNat_natCast, iZ_bit, iZ_shl, iZ_or, iZ_lt, iZ_le, iZ_eq, iZ_lt0, iZ_le0, iZ_gt0, iZ_ge0, iZ_eq0, cmp_eq0, cmp_lt0, cmp_le0, cmp_ge0, cmp_gt0, tf_0, tf_n0, Decidable.not_not, not_true_eq_false, not_false_eq_true, Int.toNat_natCast] at q
      omega
    · rw [iZ_add, iZ_add, iZ_nat (by omega) (by omega), iZ_nat (by omega) (by omega), t1, t2, t3]
      refine ih (by omega) _ ?_ ?_ ((d3.st _ (by simp)).st _ (by simp))
      · rw [mGn (by decide) (mGs d1), ← Nat.add_assoc, shf_s fa (by omega)]
      · rw [mGs (mGn (by decide) d2), ← Nat.add_assoc, shf_s fu (by omega)]
theorem c181 (hn : n ≤ 4) (hL : L.length ≤ 390) (hz : smR z n) (hp : ∀ i, i < n → 2 * z i 4 = p i * z i i) (hb : ∀ i, i < n → bd 2000000000 (p i)) (e2 : H[18]? = some (aL 20 (zM z))) (hr : RC H n L v bA bB rw_ bo) (hq : ∀ H', RC H' n (insL n p L) v bA bB rw_ bo → Eqx [14, 19, 20] H H' → Q none H') : mCt mCd 181 [.ref 14, .int (iZ n)] H Q := by
  have hr0 := hr
  obtain ⟨hbL, fa, fu, e1, e3, e4, hf⟩ := hr
  have ha := pos_le n p L
  have ins : (pos n p L < L.length → cmpP p (L.getD (pos n p L) o0) n n ≠ 0) → mWp mCd 181 (43, [some (.ref 14), some (.int (iZ n)), some (.int (iZ (pos n p L))), none], [], H, 0, 0) Q := by
    intro hne
    obtain ⟨i1, i2⟩ := ins_len n p L hne
    refine b181_43 e1 ?_
    have t0 : iZ 4 * iZ L.length - iZ 1 = iZ (4 * (pos n p L : Int) + ((4 * L.length - 4 * pos n p L : Nat) : Int) - 1) := by
      rw [iZ_mul]
      rw [iZ_sub]
      congr 1
      omega
    rw [t0]
    have t1 : 4 * pos n p L + (4 * L.length - 4 * pos n p L) = 4 * L.length := by omega
    refine l181s hn hL ha e3 e4 ?_ e1 _ (by omega) H ?_ ?_ (Eqx.rf _ _)
    · intro H1 d1 d2 d3
      have d0 : H1[14]? = some (oM v (iZ L.length) bA bB rw_ bo) := (d3.2 14 (by decide)).trans e1
      have d5 : H1[18]? = some (aL 20 (zM z)) := (d3.2 18 (by decide)).trans e2
      refine b181_93 (l181w hn hL ha hz hp d0 d5 d1 d2 ?_ 0 (Nat.zero_le n) H1 d0 (by rw [sto_0]; exact d1) (by rw [sto_0]; exact d2) (Eqx.rf _ _))
      intro H2 g1 g2 g3 g4
      refine hq H2 ⟨?_, _, _, ?_, g2, g3, ?_⟩ ((d3.mo (by simp)).tr g4)
      · intro c hc i hi
        rw [i2 c]
        split
        · exact hbL c (by omega) i hi
        · split
          · exact hb i hi
          · exact hbL (c - 1) (by omega) i hi
      · rw [g1, i1]
        show some (oM v (iZ L.length + iZ 1) bA bB rw_ bo) = _
        rw [iZ_add]
        rfl
      · intro c hc i hi
        rw [i2 c]
        unfold sto shf
        by_cases w1 : c < pos n p L
        · have hf' := hf c (by omega) i hi
          rw [if_neg (by omega), if_neg (by omega), if_pos w1]
          rw [if_neg (by omega), if_neg (by omega)]
          exact hf'
        · rw [if_neg w1]
          by_cases w2 : c = pos n p L
          · rw [if_pos w2, if_pos (by omega), if_pos (by omega), show 4 * c + i - 4 * pos n p L = i by omega]
            exact ⟨rfl, rfl⟩
          · have hf' := hf (c - 1) (by omega) i hi
            rw [if_neg w2, if_neg (by omega), if_pos (by omega), if_neg (by omega), if_pos (by omega), show 4 * c + i - 4 = 4 * (c - 1) + i by omega]
            exact hf'
    · rw [t1, shf_0]; exact e3
    · rw [t1, shf_0]; exact e4
  have lp : ∀ k, k ≤ pos n p L → mWp mCd 181 (2, [some (.ref 14), some (.int (iZ n)), some (.int (iZ k)), none], [], H, 0, 0) Q := by
    refine lp_up _ ?_ ?_
    · by_cases w : pos n p L < L.length
      · have c0 := pos_at n p L w
        have cb := cmpP_b p (L.getD (pos n p L) o0) n n
        refine b181_2 e1 (fun q => ?_) (fun _ => b181_10 e1 (c180 hn (by omega) e1 e2 e3 e4 hz hp (hf _ w) (hbL _ w) (b181_16 (fun _ => b181_25 e1 (fun q => ?_) (fun _ => b181_33 e1 (c180 hn (by omega) e1 e2 e3 e4 hz hp (hf _ w) (hbL _ w) (b181_39 (fun q2 => ins (fun _ q3 => ?_)) (fun q2 => b181_42 ?_))))) (fun q2 => ?_))))
        · simp (disch := (first | assumption | omega | (unfold i32; omega) | (unfold i64; omega))) only [iZ_add, iZ_sub, iZ_mul, iZ_neg, lZ_add, lZ_sub, lZ_mul, lZ_neg, lZ_i, iZ_l, iZ_nat, Int.toNat_natCast, iZ_bit, iZ_shl, iZ_or, iZ_lt, iZ_le, iZ_eq, iZ_lt0, iZ_le0, iZ_gt0, iZ_ge0, iZ_eq0, cmp_eq0, cmp_lt0, cmp_le0, cmp_ge0, cmp_gt0, tf_0, tf_n0, Decidable.not_not, not_true_eq_false, not_false_eq_true, Int.toNat_natCast] at q
          omega
        · simp (disch := (first | assumption | omega | (unfold i32; omega) | (unfold i64; omega))) only [iZ_add, iZ_sub, iZ_mul, iZ_neg, lZ_add, lZ_sub, lZ_mul, lZ_neg, lZ_i, iZ_l, iZ_nat, Int.toNat_natCast, iZ_bit, iZ_shl, iZ_or, iZ_lt, iZ_le, iZ_eq, iZ_lt0, iZ_le0, iZ_gt0, iZ_ge0, iZ_eq0, cmp_eq0, cmp_lt0, cmp_le0, cmp_ge0, cmp_gt0, tf_0, tf_n0, Decidable.not_not, not_true_eq_false, not_false_eq_true, Int.toNat_natCast] at q
          omega
        · rw [q3] at q2
          exact q2 rfl
        · simp (disch := (first | assumption | omega | (unfold i32; omega) | (unfold i64; omega))) only [iZ_add, iZ_sub, iZ_mul, iZ_neg, lZ_add, lZ_sub, lZ_mul, lZ_neg, lZ_i, iZ_l, iZ_nat, Int.toNat_natCast, iZ_bit, iZ_shl, iZ_or, iZ_lt, iZ_le, iZ_eq, iZ_lt0, iZ_le0, iZ_gt0, iZ_ge0, iZ_eq0, cmp_eq0, cmp_lt0, cmp_le0, cmp_ge0, cmp_gt0, tf_0, tf_n0, Decidable.not_not, not_true_eq_false, not_false_eq_true, Int.toNat_natCast] at q2
          have := ins_id n p L w q2
          rw [this] at hq
          exact hq H hr0 (Eqx.rf _ _)
        · simp (disch := (first | assumption | omega | (unfold i32; omega) | (unfold i64; omega))) only [iZ_add, iZ_sub, iZ_mul, iZ_neg, lZ_add, lZ_sub, lZ_mul, lZ_neg, lZ_i, iZ_l, iZ_nat, Int.toNat_natCast, iZ_bit, iZ_shl, iZ_or, iZ_lt, iZ_le, iZ_eq, iZ_lt0, iZ_le0, iZ_gt0, iZ_ge0, iZ_eq0, cmp_eq0, cmp_lt0, cmp_le0, cmp_ge0, cmp_gt0, tf_0, tf_n0, Decidable.not_not, not_true_eq_false, not_false_eq_true, Int.toNat_natCast] at q2
          omega
      · have w0 : pos n p L = L.length := by omega
        refine b181_2 e1 (fun q => b181_25 e1 (fun q => ins (fun y => absurd y w)) (fun q => ?_)) (fun q => ?_)
        · simp (disch := (first | assumption | omega | (unfold i32; omega) | (unfold i64; omega))) only [iZ_add, iZ_sub, iZ_mul, iZ_neg, lZ_add, lZ_sub, lZ_mul, lZ_neg, lZ_i, iZ_l, iZ_nat, Int.toNat_natCast, iZ_bit, iZ_shl, iZ_or, iZ_lt, iZ_le, iZ_eq, iZ_lt0, iZ_le0, iZ_gt0, iZ_ge0, iZ_eq0, cmp_eq0, cmp_lt0, cmp_le0, cmp_ge0, cmp_gt0, tf_0, tf_n0, Decidable.not_not, not_true_eq_false, not_false_eq_true, Int.toNat_natCast] at q
          omega
        · simp (disch := (first | assumption | omega | (unfold i32; omega) | (unfold i64; omega))) only [iZ_add, iZ_sub, iZ_mul, iZ_neg, lZ_add, lZ_sub, lZ_mul, lZ_neg, lZ_i, iZ_l, iZ_nat, Int.toNat_natCast, iZ_bit, iZ_shl, iZ_or, iZ_lt, iZ_le, iZ_eq, iZ_lt0, iZ_le0, iZ_gt0, iZ_ge0, iZ_eq0, cmp_eq0, cmp_lt0, cmp_le0, cmp_ge0, cmp_gt0, tf_0, tf_n0, Decidable.not_not, not_true_eq_false, not_false_eq_true, Int.toNat_natCast] at q
          omega
    · intro k hk ih
      have c0 := pos_lt n p L k hk
      have cb := cmpP_b p (L.getD k o0) n n
      refine b181_2 e1 (fun q => ?_) (fun _ => b181_10 e1 (c180 hn (by omega) e1 e2 e3 e4 hz hp (hf k (by omega)) (hbL k (by omega)) (b181_16 (fun q2 => ?_) (fun q2 => b181_19 ?_))))
      · simp (disch := (first | assumption | omega | (unfold i32; omega) | (unfold i64; omega))) only [iZ_add, iZ_sub, iZ_mul, iZ_neg, lZ_add, lZ_sub, lZ_mul, lZ_neg, lZ_i, iZ_l, iZ_nat, Int.toNat_natCast, iZ_bit, iZ_shl, iZ_or, iZ_lt, iZ_le, iZ_eq, iZ_lt0, iZ_le0, iZ_gt0, iZ_ge0, iZ_eq0, cmp_eq0, cmp_lt0, cmp_le0, cmp_ge0, cmp_gt0, tf_0, tf_n0, Decidable.not_not, not_true_eq_false, not_false_eq_true, Int.toNat_natCast] at q
        omega
      · simp (disch := (first | assumption | omega | (unfold i32; omega) | (unfold i64; omega))) only [iZ_add, iZ_sub, iZ_mul, iZ_neg, lZ_add, lZ_sub, lZ_mul, lZ_neg, lZ_i, iZ_l, iZ_nat, Int.toNat_natCast, iZ_bit, iZ_shl, iZ_or, iZ_lt, iZ_le, iZ_eq, iZ_lt0, iZ_le0, iZ_gt0, iZ_ge0, iZ_eq0, cmp_eq0, cmp_lt0, cmp_le0, cmp_ge0, cmp_gt0, tf_0, tf_n0, Decidable.not_not, not_true_eq_false, not_false_eq_true, Int.toNat_natCast] at q2
        omega
      · have hs : True := trivial
        simp (disch := (first | assumption | omega | (unfold i32; omega) | (unfold i64; omega))) only [iZ_add, iZ_sub, iZ_mul, iZ_neg, lZ_add, lZ_sub, lZ_mul, lZ_neg, lZ_i, iZ_l, iZ_nat, Int.toNat_natCast, iZ_bit, iZ_shl, iZ_or, iZ_lt, iZ_le, iZ_eq, iZ_lt0, iZ_le0, iZ_gt0, iZ_ge0, iZ_eq0, cmp_eq0, cmp_lt0, cmp_le0, cmp_ge0, cmp_gt0, tf_0, tf_n0, Decidable.not_not, not_true_eq_false, not_false_eq_true, Int.toNat_natCast]
        exact ih
  exact en181 (b181_0 (lp 0 (Nat.zero_le _)))
end MK
