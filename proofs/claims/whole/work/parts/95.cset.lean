/-! ===== the class: set, lay, close ===== -/

section CS
variable {h h' : mH} {Q : Option Value → mH → Prop} {i n c b N : Nat} {w : Nat → Int} {kd sz : Nat → Nat} {W : Nat → Nat → Int} {A : Nat → Nat} {so : Nat → Int} {it : Nat → Nat} {im : Nat → Nat → Int} {B : Nat → Nat} {a p s y k q u : Int} {m : Nat → Int}
theorem k48x {a ci num n : Nat} {w : Nat → Int} (hv : CX h a ci num n w) {s : Nat} (h1 : 1 ≤ s) (hs : s ≤ al n) {x : Int} (hx : bd 16000 x) (hq : ∀ h', Eqx [a, a + 1] h h' → CX h' a ci num n (set1 w s x) → Q none h') : mCt mCd 48 [.ref a, .int (iZ s), .int (iZ x)] h Q := by
  obtain ⟨cv, hw0, ⟨cc, tw, g, gp, lo, hi, gi, z1, z2, z3, z4, z5, z6⟩, ⟨g2, f2⟩, fd, e1, hor⟩ := hv
  refine k48 cv h1 hs hx (fun h' hxx cv' e => hq h' hxx ?_)
  have f : ∀ j, 2 ≤ j → h'[a + j]? = h[a + j]? := fun j hj => hxx.2 _ (by simp; omega)
  refine ⟨cv', ?_, ⟨cc, tw, g, gp, lo, hi, gi, (f 3 (by omega)).trans z1, (f 4 (by omega)).trans z2, (f 5 (by omega)).trans z3, (f 6 (by omega)).trans z4, (f 7 (by omega)).trans z5, (f 8 (by omega)).trans z6⟩, ⟨g2, (f 2 (by omega)).trans f2⟩, iZ 0, e, Or.inl rfl⟩
  rw [set1_n _ _ (by omega)]
  exact hw0
theorem K2_9 {a : Nat} {h h' : mH} (hx : Eqx [a, a + 1] h h') : Eqx (K9 a) h h' := hx.mo (fun x m => by
  rw [K9_in]
  simp only [List.mem_cons, List.not_mem_nil, or_false] at m
  omega)
/-- venture i with other worths -/
theorem CD.put (hd : CD h c kd sz W A) (hi : i < c) (hx : Eqx (K9 (A i)) h h') {w' : Nat → Int} (hv : CX h' (A i) (ciK (kd i)) i (sz i) w') (h01 : kd i = 1 → ∀ s, s < 2 ^ sz i → w' s = 0 ∨ w' s = 1) : CD h' c kd sz (set1 W i w') A ∧ AskC c A h h' := by
  have ha := (hd.cv hi).1
  refine ⟨⟨hd.1, ?_, fun j hj => ?_, hd.2.2.2⟩, hx.1, fun x hxx => hx.2 x fun m => ?_⟩
  · obtain ⟨g, g1, g2, g3⟩ := hd.2.1
    exact ⟨g, (hx.2 5 (fun m => by rw [K9_in] at m; omega)).trans g1, (hx.2 6 (fun m => by rw [K9_in] at m; omega)).trans g2, g3⟩
  · obtain ⟨k1, k2, k3⟩ := hd.2.2.1 j hj
    by_cases e : j = i
    · subst e
      rw [set1_e]
      exact ⟨k1, hv, h01⟩
    · rw [set1_n _ _ e]
      refine ⟨k1, k2.eq hx (fun x m => ?_), k3⟩
      rw [K9_in] at m
      have := hd.dis hi hj (Ne.symm e)
      omega
  · rw [K9_in] at m
    have := hxx i hi
    omega
theorem j80 {v : Int} (hd : CD h c kd sz W A) (ha : i32 a) (hs : i32 s) (hv' : i32 v) (hq : ∀ h', AskC c A h h' → CD h' c kd sz (sSetW c kd sz W a s v) A → Q (some (.int (iZ (sSet c kd sz a s v)))) h') : mCt mCd 80 [.ref 5, .int (iZ a), .int (iZ s), .int (iZ v)] h Q := by
  have e5 := hd.o
  have no : okSet c kd sz a s v = false → ∀ u, u = sSet c kd sz a s v → Q (some (.int (iZ u))) h := by
    intro h1 u hu
    unfold sSetW at hq
    rw [h1, if_neg (by decide)] at hq
    rw [hu]
    exact hq h (AskC.rf h) hd
  by_cases hA : 0 ≤ a ∧ a < c
  · obtain ⟨i, rfl⟩ : ∃ m : Nat, a = m := ⟨a.toNat, by omega⟩
    have hi : i < c := by omega
    have hcx := hd.cx hi
    have hv := hd.cv hi
    have hkd := hd.2.2.1 i hi
    obtain ⟨ha30, hc, ⟨hn1, hn4⟩, hw, fd, f, e1, e2, hf⟩ := id hv
    have hal := al_lt hn4
    have es : ∀ r, (if (1 ≤ s ∧ s ≤ al (sz i)) ∧ -100 ≤ v ∧ v ≤ 100 then (if kd i = 0 then (1 : Int) else -3) else -2) = r → sSet c kd sz i s v = r := fun r hr => by
      unfold sSet
      rw [if_pos hA]
      exact hr
    have okf : ¬ ((1 ≤ s ∧ s ≤ al (sz i)) ∧ (-100 ≤ v ∧ v ≤ 100) ∧ kd i = 0) → okSet c kd sz i s v = false := fun hh => by
      unfold okSet
      simp only [Int.toNat_natCast]
      refine decide_eq_false (fun hz => hh ?_)
      exact ⟨by omega, by omega, by omega⟩
    refine en80 (b80_0 e5 (k114y hd hi (b80_5_1 hc e1 (k44 hv hs (b80_18 (fun z => b80_29 ?_) (fun z => b80_21 ?_))))))
    · rw [tf_0] at z
      exact no (okf (by omega)) (-2) (es _ (by rw [if_neg (by omega)])).symm
    · rw [tf_n0] at z
      rw [iZ_l hv']
      refine k120 (by unfold i32 at hv'; unfold i64; omega) (b80_26 (fun z2 => b80_32 hc e1 (kd_sel _ hkd.1) (k_kind hkd.1 (b80_37 (fun z3 => b80_43 hc e1 ?_) (fun z3 => b80_40 ?_)))) (fun z2 => b80_29 ?_))
      · rw [tf_n0] at z2
        rw [iZ_eq0 (by unfold i32; omega)] at z3
        obtain ⟨s, rfl⟩ : ∃ m : Nat, s = m := ⟨s.toNat, by omega⟩
        refine k48x hcx (by omega) (by omega) (by unfold bd; omega) (fun h1 hx1 cx1 => b80_50 ?_)
        obtain ⟨hd1, ask⟩ := hd.put hi (K2_9 hx1) cx1 (fun z => by omega)
        have ok : okSet c kd sz i s v = true := by
          unfold okSet
          simp only [Int.toNat_natCast]
          refine decide_eq_true ?_
          refine ⟨?_, ?_, ?_⟩ <;> first | omega | (constructor <;> omega) | (refine ⟨?_, ?_, ?_⟩ <;> omega)
        unfold sSetW at hq
        rw [ok, if_pos rfl, es 1 (by rw [if_pos (by omega), if_pos (by omega)])] at hq
        exact hq h1 ask hd1
      · rw [tf_n0] at z2
        rw [iZ_eq0 (by unfold i32; omega)] at z3
        exact no (okf (by omega)) (-3) (es _ (by rw [if_pos (by omega), if_neg (by omega)])).symm
      · rw [tf_n0] at z2
        exact no (okf (by omega)) (-2) (es _ (by rw [if_neg (by omega)])).symm
  · have h1 : okSet c kd sz a s v = false := by
      unfold okSet
      refine decide_eq_false (fun hz => hA ?_)
      omega
    exact en80 (b80_0 e5 (k114n hd ha hA (b80_5 (no h1 (-2) (by unfold sSet; rw [if_neg hA])))))
theorem j88 (hd : CD h c kd sz W A) (hq0 : c = 0 → Q (some (.int (iZ (-3)))) h) (hq : c ≠ 0 → ∀ h', Eqx [5, 6] h h' → CD h' (c - 1) kd sz W A → Q (some (.int (iZ (c - 1 : Nat)))) h') : mCt mCd 88 [.ref 5] h Q := by
  have hc := hd.1
  obtain ⟨g, g1, g2, g3⟩ := hd.2.1
  refine en88 (b88_0 g1 (fun z => b88_20 ?_) (fun z => b88_8 g1 g2 (fun z2 => b88_23 g1 g2 ?_ ?_) (fun z2 => ?_)))
  · have z : iZ c < iZ 1 := z
    simp (disch := (first | assumption | omega | (unfold i32; omega) | (unfold i64; omega))) only [iZ_add, iZ_sub, iZ_mul, iZ_neg, lZ_add, lZ_sub, lZ_mul, lZ_neg, lZ_i, iZ_l, iZ_nat, Int.toNat_natCast, iZ_bit, iZ_shl, iZ_or, iZ_lt, iZ_le, iZ_eq, iZ_lt0, iZ_le0, iZ_gt0, iZ_ge0, iZ_eq0, cmp_eq0, cmp_lt0, cmp_le0, cmp_ge0, cmp_gt0, tf_0, tf_n0, Decidable.not_not, not_true_eq_false, not_false_eq_true, Int.toNat_natCast, onat] at z
    exact hq0 (by omega)
  · have z : ¬ iZ c < iZ 1 := z
    simp (disch := (first | assumption | omega | (unfold i32; omega) | (unfold i64; omega))) only [iZ_add, iZ_sub, iZ_mul, iZ_neg, lZ_add, lZ_sub, lZ_mul, lZ_neg, lZ_i, iZ_l, iZ_nat, Int.toNat_natCast, iZ_bit, iZ_shl, iZ_or, iZ_lt, iZ_le, iZ_eq, iZ_lt0, iZ_le0, iZ_gt0, iZ_ge0, iZ_eq0, cmp_eq0, cmp_lt0, cmp_le0, cmp_ge0, cmp_gt0, tf_0, tf_n0, Decidable.not_not, not_true_eq_false, not_false_eq_true, Int.toNat_natCast, onat] at z
    rw [iZ_sub]
    exact iZ_in (by omega) (by omega) (by decide)
  · have z : ¬ iZ c < iZ 1 := z
    simp (disch := (first | assumption | omega | (unfold i32; omega) | (unfold i64; omega))) only [iZ_add, iZ_sub, iZ_mul, iZ_neg, lZ_add, lZ_sub, lZ_mul, lZ_neg, lZ_i, iZ_l, iZ_nat, Int.toNat_natCast, iZ_bit, iZ_shl, iZ_or, iZ_lt, iZ_le, iZ_eq, iZ_lt0, iZ_le0, iZ_gt0, iZ_ge0, iZ_eq0, cmp_eq0, cmp_lt0, cmp_le0, cmp_ge0, cmp_gt0, tf_0, tf_n0, Decidable.not_not, not_true_eq_false, not_false_eq_true, Int.toNat_natCast, onat] at z
    have t : iZ c - iZ 1 = iZ ((c - 1 : Nat) : Int) := by rw [iZ_sub]; congr 1; omega
    rw [t, tnZ (show c - 1 < 10 by omega) (by decide)]
    have hx : Eqx [5, 6] h ((h.set 5 (oJ (iZ ((c - 1 : Nat) : Int)))).set 6 (aR 2 10 (va_up g (c - 1) none))) := ((Eqx.rf _ _).st _ (by simp)).st _ (by simp)
    refine hq (by omega) _ hx ⟨by omega, ⟨_, mGn (by decide) (mGs g1), mGs (mGn (by decide) g2), fun i hi => ?_⟩, fun j hj => ?_, fun i j h1 h2 => hd.2.2.2 i j h1 (by omega)⟩
    · rw [va_up_ne _ _ (by omega)]
      exact g3 i (by omega)
    · obtain ⟨k1, k2, k3⟩ := hd.2.2.1 j (by omega)
      have := k2.1.1
      exact ⟨k1, k2.eq hx (fun x m => by simp only [List.mem_cons, List.not_mem_nil, or_false] at m; omega), k3⟩
  · simp (disch := (first | assumption | omega | (unfold i32; omega) | (unfold i64; omega))) only [iZ_add, iZ_sub, iZ_mul, iZ_neg, lZ_add, lZ_sub, lZ_mul, lZ_neg, lZ_i, iZ_l, iZ_nat, Int.toNat_natCast, iZ_bit, iZ_shl, iZ_or, iZ_lt, iZ_le, iZ_eq, iZ_lt0, iZ_le0, iZ_gt0, iZ_ge0, iZ_eq0, cmp_eq0, cmp_lt0, cmp_le0, cmp_ge0, cmp_gt0, tf_0, tf_n0, Decidable.not_not, not_true_eq_false, not_false_eq_true, Int.toNat_natCast, onat] at z2
    omega
theorem k118 (hs : S1 h b u N m) (hN : N ≤ 40) (hm : ∀ k, i32 (m k)) {x n : Nat} (hx : x + n ≤ N) (hq : Q (some (.int (iZ (bZ (allB (tldB (fun t => m (x + t))) n))))) h) : mCt mCd 118 [.ref b, .int (iZ x), .int (iZ n)] h Q := by
  have hs0 := hs
  obtain ⟨hb, e1, f, e2, hf⟩ := hs
  have lp : ∀ k, k ≤ n → allB (tldB (fun t => m (x + t))) k = true → mWp mCd 118 (2, [some (.ref b), some (.int (iZ x)), some (.int (iZ n)), some (.int (iZ k))], [], h, 0, 0) Q := by
    refine lp_up _ ?_ ?_
    · intro hb
      rw [hb] at hq
      exact b118_2 (fun _ => b118_28 hq) (fun z => absurd (Int32.le_refl _) z)
    · intro k hk ih hb
      have hmk := hm (x + k)
      refine b118_2 (fun z => ?_) (fun _ => b118_7 e1 ?_)
      · simp (disch := (first | assumption | omega | (unfold i32; omega) | (unfold i64; omega))) only [iZ_add, iZ_sub, iZ_mul, iZ_neg, lZ_add, lZ_sub, lZ_mul, lZ_neg, lZ_i, iZ_l, iZ_nat, Int.toNat_natCast, iZ_bit, iZ_shl, iZ_or, iZ_lt, iZ_le, iZ_eq, iZ_lt0, iZ_le0, iZ_gt0, iZ_ge0, iZ_eq0, cmp_eq0, cmp_lt0, cmp_le0, cmp_ge0, cmp_gt0, tf_0, tf_n0, Decidable.not_not, not_true_eq_false, not_false_eq_true, Int.toNat_natCast, onat] at z
        omega
      · rw [iZ_add]
        refine k35 (x := x + k) hs0 hN (by omega) (b118_14 (k120 (by unfold i32 at hmk; unfold i64; omega) (b118_17 (fun z => b118_22 ?_) (fun z => b118_20 ?_))))
        · rw [tf_n0] at z
          rw [iZ_add]
          exact ih (allB_s hb (decide_eq_true z))
        · rw [tf_n0] at z
          have hd : tldB (fun t => m (x + t)) k = false := decide_eq_false z
          rw [allB_f hd hk] at hq
          exact hq
  exact en118 (b118_0 (lp 0 (Nat.zero_le _) rfl))
theorem j111 {x v : Int} (hd : CD h c kd sz W A) (hs : CSh h so it im B) (hdis : ∀ s, s < 4 → 0 ≤ so s → ∀ i, i < c → A i + 9 ≤ B s ∨ B s + 2 ≤ A i) (ha : i32 a) (hx : i32 x) (hk : i32 k) (hv' : i32 v) (hq : ∀ h', AskC c A h h' → CD h' c kd sz (sLayW c kd sz W so it im a x k v) A → Q (some (.int (iZ (sLay c kd sz so it im a x k v)))) h') : mCt mCd 111 [.ref 5, .int (iZ a), .int (iZ x), .int (iZ k), .int (iZ v)] h Q := by
  have e5 := hd.o
  have hs0 := hs
  obtain ⟨hb, ⟨g, g1, hg⟩, _⟩ := hs
  have no : ∀ u, u ≠ 1 → u = sLay c kd sz so it im a x k v → Q (some (.int (iZ u))) h := by
    intro u h1 hu
    unfold sLayW at hq
    rw [← hu, if_neg h1] at hq
    exact hq h (AskC.rf h) hd
  by_cases hA : 0 ≤ a ∧ a < c
  · obtain ⟨i, rfl⟩ : ∃ m : Nat, a = m := ⟨a.toNat, by omega⟩
    have hi : i < c := by omega
    have hcx := hd.cx hi
    have hv := hd.cv hi
    have hkd := hd.2.2.1 i hi
    obtain ⟨ha30, hc, ⟨hn1, hn4⟩, hw, fd, f, e1, e2, hf⟩ := id hv
    have hal := al_lt hn4
    refine en111 (b111_0 e5 (k114y hd hi (b111_5_1 e5 (k123 hx e5 g1 (b111_17 (fun z => b111_27 ?_) (fun z => b111_20 (k124 hk (b111_24 (fun z2 => b111_30 hc e1 (kd_sel _ hkd.1) (k_kind hkd.1 (b111_35 (fun z3 => ?_) (fun z3 => b111_38 ?_)))) (fun z2 => b111_27 ?_)))))))))
    · rw [tf_0] at z
      exact no (-2) (by decide) (by unfold sLay; rw [if_neg (by omega)])
    · rw [tf_n0] at z z2
      rw [iZ_eq0 (by unfold i32; omega)] at z3
      obtain ⟨s, rfl⟩ : ∃ m : Nat, x = m := ⟨x.toNat, by omega⟩
      have s4 : s < 4 := by omega
      have es : ∀ r, (if so s < 0 then (-11 : Int) else if so s ≠ k then -13 else if v < 0 ∨ v > it s - al (sz i) then -12 else if allB (tldB (layF im s v)) (al (sz i)) = true then 1 else -2) = r → sLay c kd sz so it im i s k v = r := fun r hr => by
        unfold sLay
        simp only [Int.toNat_natCast]
        rw [if_pos ⟨hA, by omega, by omega⟩, if_pos (by omega)]
        exact hr
      have hbs := hb s s4
      by_cases a1 : so s < 0
      · exact b111_41n e5 g1 (inZ s4 (by decide)) (by rw [tnZ s4 (by decide)]; exact (hg s s4).1 a1) (b111_66 (no (-11) (by decide) (es _ (by rw [if_pos a1])).symm))
      · obtain ⟨k1, k2⟩ := (hg s s4).2 (by omega)
        have k20 := k2
        obtain ⟨b1, d1, f1, d2, hf1⟩ := k2
        refine b111_41r e5 g1 (inZ s4 (by decide)) (by rw [tnZ s4 (by decide)]; exact k1) d1 (fun z4 => b111_66_1 hc e1 (k42 hv (b111_83 d1 (k34 k20 hbs.2.1 hv' (by unfold i32; omega) (b111_86 (fun z5 => b111_92 hc e1 (k42 hv (b111_101 ?_))) (fun z5 => b111_89 ?_)))))) (fun z4 => b111_63 ?_)
        · rw [iZ_eq (by unfold i32; omega) hk] at z4
          rw [tf_n0] at z5
          obtain ⟨v, rfl⟩ : ∃ m : Nat, v = m := ⟨v.toNat, by omega⟩
          have hlf : layF im s v = fun t => im s (v + t) := by
            funext t
            unfold layF
            simp only [Int.toNat_natCast]
          refine k118 k20 hbs.2.1 hbs.2.2 (by omega) ?_
          rw [← hlf]
          cases hall : allB (tldB (layF im s v)) (al (sz i)) with
          | false =>
            refine b111_104 (fun z6 => absurd rfl z6) (fun _ => b111_107 (no (-2) (by decide) (es _ ?_).symm))
            rw [if_neg a1, if_neg (by omega), if_neg (by omega), hall, if_neg (by decide)]
          | true =>
            refine b111_104 (fun _ => b111_110 ?_) (fun z6 => absurd (by decide) z6)
            have hbd := (allB_iff _ _).mp hall
            have lp : ∀ t, t ≤ al (sz i) → ∀ h1, Eqx (K9 (A i)) h h1 → CX h1 (A i) (ciK (kd i)) i (sz i) (layW (W i) (layF im s v) t) → mWp mCd 111 (113, [none, none, none, none, some (.int (iZ v)), some (.ref (A i)), some (.ref (B s)), some (.int (iZ ((t + 1 : Nat) : Int)))], [], h1, 0, 0) Q := by
              refine lp_up _ ?_ ?_
              · intro h1 hx1 cx1
                have hv1 := cx1.1
                obtain ⟨_, hc1, _, _, fd1, f9, e11, _⟩ := id hv1
                refine b111_113 hc1 e11 (k42 hv1 (b111_120 (fun _ => b111_149 ?_) (fun z6 => ?_)))
                · obtain ⟨hd1, ask⟩ := hd.put hi hx1 cx1 (fun z => by omega)
                  have e9 := es 1 (by rw [if_neg a1, if_neg (by omega), if_neg (by omega), hall, if_pos rfl])
                  unfold sLayW at hq
                  rw [e9, if_pos rfl] at hq
                  exact hq h1 ask hd1
                · simp (disch := (first | assumption | omega | (unfold i32; omega) | (unfold i64; omega))) only [iZ_add, iZ_sub, iZ_mul, iZ_neg, lZ_add, lZ_sub, lZ_mul, lZ_neg, lZ_i, iZ_l, iZ_nat, Int.toNat_natCast, iZ_bit, iZ_shl, iZ_or, iZ_lt, iZ_le, iZ_eq, iZ_lt0, iZ_le0, iZ_gt0, iZ_ge0, iZ_eq0, cmp_eq0, cmp_lt0, cmp_le0, cmp_ge0, cmp_gt0, tf_0, tf_n0, Decidable.not_not, not_true_eq_false, not_false_eq_true, Int.toNat_natCast, onat] at z6
                  omega
              · intro t ht ih h1 hx1 cx1
                have hv1 := cx1.1
                obtain ⟨_, hc1, _, _, fd1, f9, e11, _⟩ := id hv1
                have hdd := hdis s s4 (by omega) i hi
                have s1 : S1 h1 (B s) (so s) (it s) (im s) := k20.eq hx1 (fun m => by rw [K9_in] at m; omega) (fun m => by rw [K9_in] at m; omega)
                obtain ⟨_, d1', _⟩ := id s1
                have hbt := of_decide_eq_true (hbd t ht)
                have elf : layF im s v t = im s (v + t) := by rw [hlf]
                refine b111_113 hc1 e11 (k42 hv1 (b111_120 (fun z6 => ?_) (fun _ => b111_123 d1' ?_)))
                · simp (disch := (first | assumption | omega | (unfold i32; omega) | (unfold i64; omega))) only [iZ_add, iZ_sub, iZ_mul, iZ_neg, lZ_add, lZ_sub, lZ_mul, lZ_neg, lZ_i, iZ_l, iZ_nat, Int.toNat_natCast, iZ_bit, iZ_shl, iZ_or, iZ_lt, iZ_le, iZ_eq, iZ_lt0, iZ_le0, iZ_gt0, iZ_ge0, iZ_eq0, cmp_eq0, cmp_lt0, cmp_le0, cmp_ge0, cmp_gt0, tf_0, tf_n0, Decidable.not_not, not_true_eq_false, not_false_eq_true, Int.toNat_natCast, onat] at z6
                  omega
                · have et : iZ v + iZ ((t + 1 : Nat) : Int) - iZ 1 = iZ ((v + t : Nat) : Int) := by rw [iZ_add, iZ_sub]; congr 1; omega
                  rw [et]
                  refine k35 (x := v + t) s1 hbs.2.1 (by omega) (b111_139 hc1 e11 ?_)
                  rw [lZ_i]
                  refine k48x (s := t + 1) cx1 (by omega) (by omega) (by rw [← elf]; unfold bd; omega) (fun h2 hx2 cx2 => b111_143 ?_)
                  rw [iZ_add]
                  rw [← elf, layW_s] at cx2
                  exact ih h2 (hx1.tr (K2_9 hx2)) cx2
            refine lp 0 (Nat.zero_le _) h (Eqx.rf _ _) ?_
            rw [layW_0]
            exact hcx
        · rw [iZ_eq (by unfold i32; omega) hk] at z4
          rw [tf_n0] at z5
          exact no (-12) (by decide) (es _ (by rw [if_neg a1, if_neg (by omega), if_pos (by omega)])).symm
        · rw [iZ_eq (by unfold i32; omega) hk] at z4
          exact no (-13) (by decide) (es _ (by rw [if_neg a1, if_pos (by omega)])).symm
    · rw [tf_n0] at z z2
      rw [iZ_eq0 (by unfold i32; omega)] at z3
      exact no (-3) (by decide) (by unfold sLay; rw [if_pos ⟨hA, by omega, by omega⟩]; simp only [Int.toNat_natCast]; rw [if_neg (by omega)])
    · rw [tf_n0] at z2
      exact no (-2) (by decide) (by unfold sLay; rw [if_neg (by omega)])
  · exact en111 (b111_0 e5 (k114n hd ha hA (b111_5 (no (-2) (by decide) (by unfold sLay; rw [if_neg (by omega)])))))
end CS
