/-! ===== the class: proofs ===== -/

/-- rows at r: N of them, f -/
def CP (h : mH) (r N : Nat) (f : Nat → Int64) : Prop := (r = 7 ∨ r = 9) ∧ N ≤ 25 ∧ ∃ g : Nat → Int64, h[r]? = some (oP r (iZ N)) ∧ h[r + 1]? = some (aL 25 g) ∧ ∀ k, k < N → g k = f k
theorem fst1_tail {P : Nat → Option Int} {m : Nat} : ∀ {e : Nat}, m ≤ e → (∀ k, m ≤ k → k < e → P k = none) → fst1 P e = fst1 P m := by
  intro e h
  induction h with
  | refl => intro _; rfl
  | step h ih =>
    intro hp
    show (fst1 P _).or (P _) = _
    rw [hp _ h (Nat.lt_succ_self _), ih (fun k h1 h2 => hp k h1 (by omega))]
    cases fst1 P m <;> rfl
section CP
variable {h h' : mH} {Q : Option Value → mH → Prop} {i n c r N M : Nat} {w : Nat → Int} {kd sz : Nat → Nat} {W : Nat → Nat → Int} {A : Nat → Nat} {a p s y k q : Int} {f F G : Nat → Int64}
theorem CP.eq {K : List Nat} (hp : CP h r N f) (hx : Eqx K h h') (h1 : r ∉ K) (h2 : r + 1 ∉ K) : CP h' r N f := by
  obtain ⟨hr, hN, g, e1, e2, hg⟩ := hp
  exact ⟨hr, hN, g, (hx.2 _ h1).trans e1, (hx.2 _ h2).trans e2, hg⟩
theorem k24 (hp : CP h r N F) (hN : N < 25) {x : Int64} (hx : x = F N) (hq : ∀ h', Eqx [r, r + 1] h h' → CP h' r (N + 1) F → Q none h') : mCt mCd 24 [.ref r, .long x] h Q := by
  obtain ⟨hr, _, g, e1, e2, hg⟩ := hp
  refine en24 (b24_0 e1 (fun z => ?_) (fun _ => b24_7 e1 e2 (fun z => ?_) (fun _ => b24_19 e1 e2 (inZ hN (by decide)) (by omega) ?_)))
  · simp (disch := (first | assumption | omega | (unfold i32; omega) | (unfold i64; omega))) only [iZ_add, iZ_sub, iZ_mul, iZ_neg, lZ_add, lZ_sub, lZ_mul, lZ_neg, lZ_i, iZ_l, iZ_nat, Int.toNat_natCast, iZ_bit, iZ_shl, iZ_or, iZ_lt, iZ_le, iZ_eq, iZ_lt0, iZ_le0, iZ_gt0, iZ_ge0, iZ_eq0, cmp_eq0, cmp_lt0, cmp_le0, cmp_ge0, cmp_gt0, tf_0, tf_n0, Decidable.not_not, not_true_eq_false, not_false_eq_true, Int.toNat_natCast, onat] at z
    omega
  · simp (disch := (first | assumption | omega | (unfold i32; omega) | (unfold i64; omega))) only [iZ_add, iZ_sub, iZ_mul, iZ_neg, lZ_add, lZ_sub, lZ_mul, lZ_neg, lZ_i, iZ_l, iZ_nat, Int.toNat_natCast, iZ_bit, iZ_shl, iZ_or, iZ_lt, iZ_le, iZ_eq, iZ_lt0, iZ_le0, iZ_gt0, iZ_ge0, iZ_eq0, cmp_eq0, cmp_lt0, cmp_le0, cmp_ge0, cmp_gt0, tf_0, tf_n0, Decidable.not_not, not_true_eq_false, not_false_eq_true, Int.toNat_natCast, onat] at z
    omega
  · rw [tnZ hN (by decide), iZ_add]
    refine hq _ (((Eqx.rf _ _).st _ (by simp)).st _ (by simp)) ⟨hr, by omega, _, mGs (mGn (by omega) e1), mGn (by omega) (mGs e2), fun k hk => ?_⟩
    by_cases e : k = N
    · subst e; rw [upd_e]; exact hx
    · rw [upd_n _ _ e]; exact hg k (by omega)
theorem k23 (hp : CP h r N F) (hN : N + 1 < 25) {x y : Int} (bx : bd 4611686018427387903 x) (by_ : bd 4611686018427387903 y) (y0 : 0 < y) (f0 : F N = lZ (lowZ x y 0)) (f1 : F (N + 1) = lZ (lowZ x y 1)) (hq : ∀ h', Eqx [r, r + 1] h h' → CP h' r (N + 1 + 1) F → Q none h') : mCt mCd 23 [.ref r, .long (lZ x), .long (lZ y)] h Q := by
  have hr := hp.1
  obtain ⟨_, _, g, e1, _⟩ := id hp
  have cont : ∀ h1, Eqx [r, r + 1] h h1 → CP h1 r (N + 1) F → mWp mCd 23 (10, [some (.ref r), some (.long (lZ x)), none, some (.long (lZ y)), none], [], h1, 0, 0) Q := by
    intro h1 hx1 hp1
    obtain ⟨_, _, g1, d1, _⟩ := id hp1
    refine b23_10 (k134 (k := 1) bx by_ y0 (by unfold i32; omega) (b23_17 d1 (k24 hp1 hN (by rw [if_pos (by decide)]; exact f1.symm) (fun h2 hx2 hp2 => b23_20 (hq h2 (hx1.tr hx2) hp2)))))
  exact en23 (b23_0 (k134 (k := 0) bx by_ y0 (by unfold i32; omega) (b23_7 e1 (k24 hp (by omega) (by rw [if_pos (by decide)]; exact f0.symm) cont))))
theorem k22 {x ci num : Nat} (hv : CV h x ci num n w) (hl : LN h) (hp : CP h r N f) (hq : ∀ h', Eqx [r, r + 1] h h' → CP h' r (prfN n) (fun k => lZ (prfF n w k)) → Q none h') : mCt mCd 22 [.ref r, .ref x] h Q := by
  have hv0 := hv
  obtain ⟨ha30, hc, ⟨hn1, hn4⟩, hw, fd, f', e1, e2, hf⟩ := hv
  have hal := al_lt hn4
  have hpn := (prfN_b n hn4).1
  have hfc := fac_4 n hn4
  have hr := hp.1
  have cvx : ∀ {h1 : mH}, Eqx [r, r + 1] h h1 → CV h1 x ci num n w := fun hx => hv0.eq hx (by simp; omega) (by simp; omega)
  have e1x : ∀ {h1 : mH}, Eqx [r, r + 1] h h1 → h1[x]? = some (oV ci x (iZ num) (iZ n) fd) := fun hx => (hx.2 x (by simp; omega)).trans e1
  have lnx : ∀ {h1 : mH}, Eqx [r, r + 1] h h1 → LN h1 := fun {h1} hx m hm => by
    obtain ⟨g, g1, g2⟩ := hl m hm
    refine ⟨g, (hx.2 _ ?_).trans g1, g2⟩
    have : leanR m ≤ 4 := by
      unfold leanR
      repeat' split
      all_goals omega
    simp
    omega
  have px : ∀ {h1 : mH} {N : Nat} {F : Nat → Int64}, CP h1 r N F → ∃ s, h1[r]? = some (oP r s) := fun hp => by
    obtain ⟨_, _, g, e, _⟩ := hp
    exact ⟨_, e⟩
  generalize hF : (fun k => lZ (prfF n w k)) = F at *
  have hFk : ∀ k, F k = lZ (prfF n w k) := fun k => by rw [← hF]
  -- the turns
  have l2 : ∀ p : Nat, p ≤ n → ∀ h1, Eqx [r, r + 1] h h1 → CP h1 r (al n + 2 * p) F → mWp mCd 22 (33, [some (.ref r), some (.ref x), some (.int (iZ p)), none], [], h1, 0, 0) Q := by
    refine lp_up _ ?_ ?_
    · intro h1 hx1 hp1
      refine b22_33 hc (e1x hx1) (fun _ => b22_64 hc (e1x hx1) (fun z => b22_92 ?_) (fun z => b22_72 hc (e1x hx1) (k67 (cvx hx1) (lnx hx1) (b22_76 hc (e1x hx1) ?_)))) (fun z => absurd (Int32.le_refl _) z)
      · have z : iZ n ≤ iZ 1 := z
        rw [iZ_le (by unfold i32; omega) (by unfold i32; omega)] at z
        have hN : prfN n = al n + 2 * n := by unfold prfN; rw [if_pos (by omega)]; omega
        rw [hN] at hq
        exact hq h1 hx1 hp1
      · have z : ¬ iZ n ≤ iZ 1 := z
        rw [iZ_le (by unfold i32; omega) (by unfold i32; omega)] at z
        have hln := lean_n hn4 (show 2 ≤ n by omega)
        have hbm : barC n w ∈ leanC n := by
          have := bc_mem n w ((leanC n).length - 1) (by omega)
          rw [show (leanC n).length - 1 + 1 = (leanC n).length by omega] at this
          exact this
        have hb := lean_tot _ hn4 _ hbm
        have hg := lExc_b (n := n) (c := barC n w) hw
        obtain ⟨sz, d1⟩ := px hp1
        refine k68 (cvx hx1) hbm (b22_83 (k133 hn4 hbm (b22_88 d1 ?_)))
        rw [iZ_l (by unfold bd at hg; unfold i32; omega), iZ_l (by unfold i32; omega)]
        refine k23 hp1 (by omega) (by unfold bd at *; omega) (by unfold bd; omega) (by omega) ?_ ?_ (fun h2 hx2 hp2 => b22_92 ?_)
        · rw [hFk]
          unfold prfF
          rw [if_neg (by omega), if_neg (by omega), show al n + 2 * n - al n - 2 * n = 0 by omega]
        · rw [hFk]
          unfold prfF
          rw [if_neg (by omega), if_neg (by omega), show al n + 2 * n + 1 - al n - 2 * n = 1 by omega]
        · have hN : prfN n = al n + 2 * n + 1 + 1 := by unfold prfN; rw [if_neg (by omega)]
          rw [hN] at hq
          exact hq h2 (hx1.tr hx2) hp2
    · intro p hpn' ih h1 hx1 hp1
      have bt := turns_b (p := p) hw hn4
      have bg := getsZ_b hw (way := 0) (p := p) hn4
      have et : getsZ w n 0 p = turnsZ w n p := by unfold getsZ; rw [if_pos rfl]
      have eb : belowZ n 0 = fac n := by unfold belowZ; rw [if_pos rfl]
      obtain ⟨sz, d1⟩ := px hp1
      refine b22_33 hc (e1x hx1) (fun z => ?_) (fun _ => b22_41 hc (e1x hx1) (k60 (y := 0) (cvx hx1) hpn' (by decide) (b22_48 hc (e1x hx1) (k59 (y := 0) (cvx hx1) (by decide) (b22_54 d1 ?_)))))
      · simp (disch := (first | assumption | omega | (unfold i32; omega) | (unfold i64; omega))) only [iZ_add, iZ_sub, iZ_mul, iZ_neg, lZ_add, lZ_sub, lZ_mul, lZ_neg, lZ_i, iZ_l, iZ_nat, Int.toNat_natCast, iZ_bit, iZ_shl, iZ_or, iZ_lt, iZ_le, iZ_eq, iZ_lt0, iZ_le0, iZ_gt0, iZ_ge0, iZ_eq0, cmp_eq0, cmp_lt0, cmp_le0, cmp_ge0, cmp_gt0, tf_0, tf_n0, Decidable.not_not, not_true_eq_false, not_false_eq_true, Int.toNat_natCast, onat] at z
        omega
      · rw [iZ_l (by unfold bd at bg; unfold i32; omega), iZ_l (by rw [eb]; unfold i32; omega), et, eb]
        refine k23 hp1 (by omega) bt (by unfold bd; omega) (by omega) ?_ ?_ (fun h2 hx2 hp2 => b22_58 ?_)
        · rw [hFk]
          unfold prfF
          rw [if_neg (by omega), if_pos (by omega), show (al n + 2 * p - al n) / 2 = p by omega, show (al n + 2 * p - al n) % 2 = 0 by omega]
        · rw [hFk]
          unfold prfF
          rw [if_neg (by omega), if_pos (by omega), show (al n + 2 * p + 1 - al n) / 2 = p by omega, show (al n + 2 * p + 1 - al n) % 2 = 1 by omega]
        · rw [iZ_add]
          exact ih h2 (hx1.tr hx2) hp2
  -- the worths
  have l1 : ∀ s : Nat, s ≤ al n → ∀ h1, Eqx [r, r + 1] h h1 → CP h1 r s F → mWp mCd 22 (7, [some (.ref r), some (.ref x), some (.int (iZ ((s + 1 : Nat) : Int))), none], [], h1, 0, 0) Q := by
    refine lp_up _ ?_ ?_
    · intro h1 hx1 hp1
      refine b22_7 hc (e1x hx1) (k42 (cvx hx1) (b22_12 (fun _ => b22_31 (l2 0 (Nat.zero_le _) h1 hx1 hp1)) (fun z => ?_)))
      simp (disch := (first | assumption | omega | (unfold i32; omega) | (unfold i64; omega))) only [iZ_add, iZ_sub, iZ_mul, iZ_neg, lZ_add, lZ_sub, lZ_mul, lZ_neg, lZ_i, iZ_l, iZ_nat, Int.toNat_natCast, iZ_bit, iZ_shl, iZ_or, iZ_lt, iZ_le, iZ_eq, iZ_lt0, iZ_le0, iZ_gt0, iZ_ge0, iZ_eq0, cmp_eq0, cmp_lt0, cmp_le0, cmp_ge0, cmp_gt0, tf_0, tf_n0, Decidable.not_not, not_true_eq_false, not_false_eq_true, Int.toNat_natCast, onat] at z
      omega
    · intro s hs ih h1 hx1 hp1
      obtain ⟨sz, d1⟩ := px hp1
      refine b22_7 hc (e1x hx1) (k42 (cvx hx1) (b22_12 (fun z => ?_) (fun _ => b22_15 hc (e1x hx1) (k46 (s := s + 1) (cvx hx1) (by omega) (b22_21 d1 ?_)))))
      · simp (disch := (first | assumption | omega | (unfold i32; omega) | (unfold i64; omega))) only [iZ_add, iZ_sub, iZ_mul, iZ_neg, lZ_add, lZ_sub, lZ_mul, lZ_neg, lZ_i, iZ_l, iZ_nat, Int.toNat_natCast, iZ_bit, iZ_shl, iZ_or, iZ_lt, iZ_le, iZ_eq, iZ_lt0, iZ_le0, iZ_gt0, iZ_ge0, iZ_eq0, cmp_eq0, cmp_lt0, cmp_le0, cmp_ge0, cmp_gt0, tf_0, tf_n0, Decidable.not_not, not_true_eq_false, not_false_eq_true, Int.toNat_natCast, onat] at z
        omega
      · rw [iZ_l (w_i hw _)]
        refine k24 hp1 (by omega) ?_ (fun h2 hx2 hp2 => b22_25 ?_)
        · rw [hFk]
          unfold prfF
          rw [if_pos hs]
        · rw [iZ_add]
          exact ih h2 (hx1.tr hx2) hp2
  obtain ⟨_, _, g, d1, d2, _⟩ := hp
  exact en22 (b22_0 d1 (l1 0 (Nat.zero_le _) _ ((Eqx.rf _ _).st _ (by simp)) ⟨hr, by omega, g, mGs d1, mGn (by omega) d2, fun k hk => absurd hk (Nat.not_lt_zero _)⟩))
theorem k25 (hp : CP h r N f) {x : Int} (hx : i32 x) (hq : Q (some (.int (tf (0 ≤ x ∧ x < N)))) h) : mCt mCd 25 [.ref r, .int (iZ x)] h Q := by
  obtain ⟨hr, hN, g, e1, e2, hg⟩ := hp
  repeat' (first
    | refine en25 ?_
    | exact Qi (tf0 (by omega)) hq
    | exact Qi (tf1 (by omega)) hq
    | exact iZ_in (by omega) (by omega) (by decide)
    | simp (disch := (first | assumption | omega | (unfold i32; omega) | (unfold i64; omega))) only [iZ_add, iZ_sub, iZ_mul, iZ_neg, lZ_add, lZ_sub, lZ_mul, lZ_neg, lZ_i, iZ_l, iZ_nat, Int.toNat_natCast, iZ_bit, iZ_shl, iZ_or, iZ_lt, iZ_le, iZ_eq, iZ_lt0, iZ_le0, iZ_gt0, iZ_ge0, iZ_eq0, cmp_eq0, cmp_lt0, cmp_le0, cmp_ge0, cmp_gt0, tf_0, tf_n0, Decidable.not_not, not_true_eq_false, not_false_eq_true, Int.toNat_natCast, onat]
    | (refine b25_0 (fun q => ?_) (fun q => ?_) <;> (try simp (disch := (first | assumption | omega | (unfold i32; omega) | (unfold i64; omega))) only [iZ_add, iZ_sub, iZ_mul, iZ_neg, lZ_add, lZ_sub, lZ_mul, lZ_neg, lZ_i, iZ_l, iZ_nat, Int.toNat_natCast, iZ_bit, iZ_shl, iZ_or, iZ_lt, iZ_le, iZ_eq, iZ_lt0, iZ_le0, iZ_gt0, iZ_ge0, iZ_eq0, cmp_eq0, cmp_lt0, cmp_le0, cmp_ge0, cmp_gt0, tf_0, tf_n0, Decidable.not_not, not_true_eq_false, not_false_eq_true, Int.toNat_natCast, onat] at q) <;> (try (exfalso; omega)))
    | refine b25_25 ?_
    | (refine b25_4 (by first | assumption | (repeat' (first | assumption | refine mGs ?_ | refine mGn (by omega) ?_))) (fun q => ?_) (fun q => ?_) <;> (try simp (disch := (first | assumption | omega | (unfold i32; omega) | (unfold i64; omega))) only [iZ_add, iZ_sub, iZ_mul, iZ_neg, lZ_add, lZ_sub, lZ_mul, lZ_neg, lZ_i, iZ_l, iZ_nat, Int.toNat_natCast, iZ_bit, iZ_shl, iZ_or, iZ_lt, iZ_le, iZ_eq, iZ_lt0, iZ_le0, iZ_gt0, iZ_ge0, iZ_eq0, cmp_eq0, cmp_lt0, cmp_le0, cmp_ge0, cmp_gt0, tf_0, tf_n0, Decidable.not_not, not_true_eq_false, not_false_eq_true, Int.toNat_natCast, onat] at q) <;> (try (exfalso; omega)))
    | (refine b25_12 (by first | assumption | (repeat' (first | assumption | refine mGs ?_ | refine mGn (by omega) ?_))) (by first | assumption | (repeat' (first | assumption | refine mGs ?_ | refine mGn (by omega) ?_))) (fun q => ?_) (fun q => ?_) <;> (try simp (disch := (first | assumption | omega | (unfold i32; omega) | (unfold i64; omega))) only [iZ_add, iZ_sub, iZ_mul, iZ_neg, lZ_add, lZ_sub, lZ_mul, lZ_neg, lZ_i, iZ_l, iZ_nat, Int.toNat_natCast, iZ_bit, iZ_shl, iZ_or, iZ_lt, iZ_le, iZ_eq, iZ_lt0, iZ_le0, iZ_gt0, iZ_ge0, iZ_eq0, cmp_eq0, cmp_lt0, cmp_le0, cmp_ge0, cmp_gt0, tf_0, tf_n0, Decidable.not_not, not_true_eq_false, not_false_eq_true, Int.toNat_natCast, onat] at q) <;> (try (exfalso; omega)))
    | refine b25_21 ?_)
theorem k26 (hp : CP h r N f) {x : Int} (hx : i32 x) (hq : Q (some (.long (sRow N f x))) h) : mCt mCd 26 [.ref r, .int (iZ x)] h Q := by
  have hp0 := hp
  obtain ⟨hr, hN, g, e1, e2, hg⟩ := hp
  unfold sRow at hq
  refine en26 (b26_0 e1 (k25 hp0 hx (b26_5 (fun z => b26_17 ?_) (fun z => b26_8 e1 e2 ?_ ?_))))
  · rw [tf_0] at z
    rw [if_neg z] at hq
    exact hq
  · rw [tf_n0] at z
    exact iZ_in (by omega) (by omega) (by decide)
  · rw [tf_n0] at z
    rw [if_pos z] at hq
    rw [iZ_nat (by omega) (by omega), hg _ (by omega)]
    exact hq
theorem k27 (hp : CP h r N f) {x : Int} {y : Int64} (hx : i32 x) (hr : 0 ≤ x ∧ x < N) (hq : ∀ h', Eqx [r + 1] h h' → CP h' r N (set1 f x.toNat y) → Q none h') : mCt mCd 27 [.ref r, .int (iZ x), .long y] h Q := by
  have hp0 := hp
  obtain ⟨hr7, hN, g, e1, e2, hg⟩ := hp
  refine en27 (b27_0 e1 (k25 hp0 hx (b27_5 (fun z => ?_) (fun z => b27_8 e1 e2 (iZ_in (by omega) (by omega) (by decide)) (by omega) ?_))))
  · rw [tf_0] at z
    exact absurd hr z
  · rw [iZ_nat (by omega) (by omega)]
    refine hq _ ((Eqx.rf _ _).st _ (by simp)) ⟨hr7, hN, _, mGn (by omega) e1, mGs e2, fun k hk => ?_⟩
    unfold set1
    by_cases e : k = x.toNat
    · rw [if_pos e, e, upd_e]
    · rw [if_neg e, upd_n _ _ e]; exact hg k hk
theorem k28 (hp : CP h 7 N f) (hp2 : CP h 9 M G) (hq : Q (some (.int (iZ ((fst1 (fun k => if k < M ∧ k < N ∧ f k = G k then none else some (k : Int)) (max M N)).getD (-1))))) h) : mCt mCd 28 [.ref 7, .ref 9] h Q := by
  have hN := hp.2.1
  have hM := hp2.2.1
  obtain ⟨_, _, _, e1, _⟩ := id hp
  obtain ⟨_, _, _, e2, _⟩ := id hp2
  generalize hP : (fun k : Nat => if k < M ∧ k < N ∧ f k = G k then none else some (k : Int)) = P at hq
  have hPk : ∀ k, P k = if k < M ∧ k < N ∧ f k = G k then none else some (k : Int) := fun k => by rw [← hP]
  have lp : ∀ k, k ≤ 25 → (k ≤ max M N → fst1 P k = none) → (max M N ≤ k → fst1 P (max M N) = none) → mWp mCd 28 (2, [some (.ref 7), some (.ref 9), some (.int (iZ k))], [], h, 0, 0) Q := by
    refine lp_up 25 ?_ ?_
    · intro _ h2
      rw [h2 (by omega)] at hq
      exact b28_2 (fun _ => b28_43 hq) (fun z => absurd (Int32.le_refl _) z)
    · intro k hk ih h1 h2
      have stop : k < max M N → ¬ (k < M ∧ k < N ∧ f k = G k) → mWp mCd 28 (35, [none, none, some (.int (iZ k))], [], h, 0, 0) Q := by
        intro hlt hne
        refine b28_35 ?_
        have : P k = some (k : Int) := by rw [hPk, if_neg hne]
        rw [fst1_at (h1 (by omega)) this hlt] at hq
        exact hq
      have go_ : (k < max M N → k < M ∧ k < N ∧ f k = G k) → mWp mCd 28 (37, [some (.ref 7), some (.ref 9), some (.int (iZ k))], [], h, 0, 0) Q := by
        intro hc
        refine b28_37 ?_
        rw [iZ_add]
        by_cases q : k < max M N
        · have hs := fst1_go (h1 (by omega)) (show P k = none by rw [hPk, if_pos (hc q)])
          refine ih (fun _ => hs) (fun h3 => ?_)
          rw [show max M N = k + 1 by omega]
          exact hs
        · exact ih (fun h3 => by omega) (fun _ => h2 (by omega))
      refine b28_2 (fun z => ?_) (fun _ => b28_8 e1 (k25 hp (x := k) (by unfold i32; omega) (b28_13 e2 (k25 hp2 (x := k) (by unfold i32; omega) (b28_18 (fun z => stop ?_ ?_) (fun z => b28_21 e1 (k26 hp (x := k) (by unfold i32; omega) (b28_26 e2 (k26 hp2 (x := k) (by unfold i32; omega) (b28_31 (fun z2 => go_ ?_) (fun z2 => stop ?_ ?_)))))))))))
      · simp (disch := (first | assumption | omega | (unfold i32; omega) | (unfold i64; omega))) only [iZ_add, iZ_sub, iZ_mul, iZ_neg, lZ_add, lZ_sub, lZ_mul, lZ_neg, lZ_i, iZ_l, iZ_nat, Int.toNat_natCast, iZ_bit, iZ_shl, iZ_or, iZ_lt, iZ_le, iZ_eq, iZ_lt0, iZ_le0, iZ_gt0, iZ_ge0, iZ_eq0, cmp_eq0, cmp_lt0, cmp_le0, cmp_ge0, cmp_gt0, tf_0, tf_n0, Decidable.not_not, not_true_eq_false, not_false_eq_true, Int.toNat_natCast, onat] at z
        omega
      · by_cases q : k < max M N
        · exact q
        · exact absurd ((tf_f (by omega)).trans (tf_f (by omega)).symm) z
      · rintro ⟨q1, q2, _⟩
        exact absurd ((tf_t (by omega)).trans (tf_t (by omega)).symm) z
      · intro q
        rw [lgc0] at z2
        rw [Decidable.not_not] at z
        have hb : k < M ∧ k < N := by
          by_cases qm : k < M
          · by_cases qn : k < N
            · exact ⟨qm, qn⟩
            · rw [tf_f (show ¬ (0 ≤ (k : Int) ∧ (k : Int) < N) by omega), tf_t (show 0 ≤ (k : Int) ∧ (k : Int) < M by omega)] at z
              exact absurd z (by decide)
          · rw [tf_t (show 0 ≤ (k : Int) ∧ (k : Int) < N by omega), tf_f (show ¬ (0 ≤ (k : Int) ∧ (k : Int) < M) by omega)] at z
            exact absurd z (by decide)
        unfold sRow at z2
        rw [if_pos (by omega), if_pos (by omega), Int.toNat_natCast] at z2
        exact ⟨hb.1, hb.2, z2⟩
      · rw [lgc0] at z2
        by_cases q : k < max M N
        · exact q
        · unfold sRow at z2
          rw [if_neg (by omega), if_neg (by omega)] at z2
          exact absurd rfl z2
      · rintro ⟨q1, q2, q3⟩
        rw [lgc0] at z2
        unfold sRow at z2
        rw [if_pos (by omega), if_pos (by omega), Int.toNat_natCast] at z2
        exact z2 q3
  exact en28 (b28_0 (lp 0 (by decide) (fun _ => rfl) (fun h3 => by rw [show max M N = 0 by omega]; rfl)))
end CP
