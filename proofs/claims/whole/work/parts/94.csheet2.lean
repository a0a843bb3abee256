/-! ===== the class: sheets made, copied, laid ===== -/

/-- cells from a to b stay -/
def Sub (h h' : mH) (a b : Nat) : Prop := ∀ x e, a ≤ x → x < b → h[x]? = some e → h'[x]? = some e
theorem Sub.rf (h : mH) (a b : Nat) : Sub h h a b := fun _ _ _ _ e => e
theorem Sub.tr {h h1 h2 : mH} {a b : Nat} (x : Sub h h1 a b) (y : Sub h1 h2 a b) : Sub h h2 a b := fun z e h1 h2 q => y z e h1 h2 (x z e h1 h2 q)
theorem Eqx.sub {K : List Nat} {h h' : mH} {a b : Nat} (hx : Eqx K h h') (hk : ∀ x, x ∈ K → x < a ∨ b ≤ x) : Sub h h' a b := fun x e h1 h2 q => (hx.2 x (fun m => by have := hk x m; omega)).trans q
/-- old cells stay, but those of K; new ones may come -/
def Gr (K : List Nat) (h h' : mH) : Prop := h.length ≤ h'.length ∧ ∀ x e, x ∉ K → h[x]? = some e → h'[x]? = some e
theorem Gr.sub {K : List Nat} {h h' : mH} {a b : Nat} (hx : Gr K h h') (hk : ∀ x, x ∈ K → x < a ∨ b ≤ x) : Sub h h' a b := fun x e h1 h2 q => hx.2 x e (fun m => by have := hk x m; omega) q
theorem Eqx.gr {K : List Nat} {h h' : mH} (hx : Eqx K h h') : Gr K h h' := ⟨by rw [hx.1]; exact Nat.le_refl _, fun x e hk q => (hx.2 x hk).trans q⟩
theorem mltS {h : mH} {x : Nat} {e : mE} (q : h[x]? = some e) : x < h.length := (List.getElem?_eq_some_iff.mp q).1
theorem mAl {h : mH} {x : Nat} {e : mE} (l : mH) (q : h[x]? = some e) : (h ++ l)[x]? = some e := by rw [List.getElem?_append_left (mltS q)]; exact q
theorem mAr (h : mH) (e : mE) : (h ++ [e])[h.length]? = some e := by rw [List.getElem?_append_right (Nat.le_refl _), Nat.sub_self]; rfl
section CS
variable {h h' : mH} {Q : Option Value → mH → Prop} {i n c b N : Nat} {w : Nat → Int} {kd sz : Nat → Nat} {W : Nat → Nat → Int} {A : Nat → Nat} {so : Nat → Int} {it : Nat → Nat} {im : Nat → Nat → Int} {B : Nat → Nat} {a p s y k q u : Int} {m : Nat → Int}
theorem S1.sub (hs : S1 h b u N m) (hx : Sub h h' b (b + 2)) : S1 h' b u N m := by
  obtain ⟨hb, e1, f, e2, hf⟩ := hs
  exact ⟨hb, hx _ _ (by omega) (by omega) e1, f, hx _ _ (by omega) (by omega) e2, hf⟩
theorem k33 {n : Nat} (hn : n ≤ 40) {so : Int32} (hb : 30 ≤ b) (e1 : h[b]? = some (.inr (5, [.int 0, .null]))) (hl : h.length = b + 1) (hq : ∀ h', Gr [b] h h' → h'[b]? = some (oS b so) → h'[b + 1]? = some (aL n (fun _ => 0)) → h'.length = b + 2 → Q none h') : mCt mCd 33 [.ref b, .int so, .int (iZ n)] h Q := by
  refine en33 (b33_0 e1 rfl rfl (k219 (b := 0) (by unfold i32; omega) (by unfold i32; omega) ?_))
  rw [show max (n : Int) 0 = (n : Int) by omega]
  refine b33_15 ?_ ?_ ?_ ?_
  · rw [iZ_lt0 (by unfold i32; omega)]
    omega
  · rw [tnZ (show n < 41 by omega) (by decide)]
    exact Nat.ble_eq.mpr (by omega)
  · rw [tnZ (show n < 41 by omega) (by decide)]
    exact Nat.ble_eq.mpr (by omega)
  · rw [tnZ (show n < 41 by omega) (by decide)]
    have d1 : (h.set b (.inr (5, [Value.int 0, Value.null].set 0 (.int so))))[b]? = some (.inr (5, [.int so, .null])) := mGs e1
    refine b33_17 (mAl _ d1) rfl rfl rfl (Nat.ble_eq.mpr (by omega)) ?_
    have hlen : (h.set b (.inr (5, [Value.int 0, Value.null].set 0 (.int so)))).length = b + 1 := by rw [List.length_set]; exact hl
    have ar := mAr (h.set b (.inr (5, [Value.int 0, Value.null].set 0 (.int so)))) (aL n (fun _ => 0))
    rw [hlen] at ar ⊢
    refine hq _ ⟨?_, fun x e hx q => ?_⟩ (mGs (mAl _ d1)) (mGn (by omega) ar) ?_
    · rw [List.length_set, List.length_append, List.length_set]
      omega
    · have hne : b ≠ x := fun z => hx (by rw [z]; simp)
      exact mGn hne (mAl _ (mGn hne q))
    · rw [List.length_set, List.length_append, hlen]
      rfl
theorem j109 (hd : CD h c kd sz W A) (hs : CSh h so it im B) {v : Int} (ha : i32 a) (hk : i32 k) (hn : i32 v) (hl : 30 ≤ h.length) (hq : ∀ h' B', Gr [13] h h' → (∀ s, s < 4 → 0 ≤ (if okSheet a k v = true then set1 so a.toNat k else so) s → (B' s = B s ∧ 0 ≤ so s) ∨ h.length ≤ B' s) → CSh h' (if okSheet a k v = true then set1 so a.toNat k else so) (if okSheet a k v = true then set1 it a.toNat (if k < 0 then 0 else v.toNat) else it) (if okSheet a k v = true then set1 im a.toNat (fun _ => 0) else im) B' → Q (some (.int (iZ (sSheet a k v)))) h') : mCt mCd 109 [.ref 5, .int (iZ a), .int (iZ k), .int (iZ v)] h Q := by
  have e5 := hd.o
  have hs0 := hs
  obtain ⟨hb, ⟨g, g1, hg⟩, hdis⟩ := hs
  have no : okSheet a k v = false → sSheet a k v = -2 ∨ sSheet a k v = -14 → ∀ x, x = sSheet a k v → Q (some (.int (iZ x))) h := by
    intro h1 _ x hx
    simp only [h1, if_neg (show ¬ (false = true) by decide)] at hq
    rw [hx]
    exact hq h B (Eqx.rf [13] h).gr (fun _ _ h0 => Or.inl ⟨rfl, h0⟩) hs0
  have okf : ¬ ((0 ≤ a ∧ a ≤ 3) ∧ (-1 ≤ k ∧ k ≤ 2) ∧ (k < 0 ∨ (0 ≤ v ∧ v ≤ 40))) → okSheet a k v = false := fun hh => decide_eq_false hh
  refine en109 (b109_0 e5 (k123 ha e5 g1 (b109_5 (fun z => b109_20 ?_) (fun z => ?_))))
  · rw [tf_0] at z
    have e : sSheet a k v = -2 := by unfold sSheet; rw [if_neg (by omega)]
    exact no (okf (by omega)) (Or.inl e) (-2) e.symm
  · rw [tf_n0] at z
    obtain ⟨s, rfl⟩ : ∃ m : Nat, a = m := ⟨a.toNat, by omega⟩
    have h4 : s < 4 := by omega
    simp only [Int.toNat_natCast] at hq
    refine b109_8 (fun z2 => b109_23 (fun z3 => absurd z2 z3) (fun _ => b109_28 e5 g1 (inZ h4 (by decide)) ?_)) (fun z2 => b109_13 (k124 hk (b109_17 (fun z3 => b109_23 (fun _ => b109_37 (fun z4 => b109_46 (fun z5 => b109_53 e5 (b109_61 ?_)) (fun z5 => b109_50 ?_)) (fun z4 => b109_43 ?_)) (fun z4 => absurd z2 z4)) (fun z3 => b109_20 ?_))))
    · rw [iZ_eq hk (by unfold i32; omega)] at z2
      subst z2
      have ok : okSheet s (-1) v = true := decide_eq_true ⟨z, by omega, Or.inl (by omega)⟩
      have es : sSheet s (-1) v = 1 := by
        unfold sSheet
        rw [if_pos ⟨z, by omega, Or.inl (by omega)⟩, if_neg (by omega)]
      simp only [ok, if_true, if_pos (show (-1 : Int) < 0 by decide)] at hq
      rw [es] at hq
      rw [tnZ h4 (by decide)]
      have hx : Eqx [13] h (h.set 13 (aR 3 4 (va_up g s none))) := (Eqx.rf _ _).st _ (by simp)
      refine hq _ B hx.gr (fun t _ h0 => Or.inl ⟨rfl, ?_⟩) ⟨fun t ht => ?_, ⟨_, mGs g1, fun t ht => ?_⟩, fun t t' h1 h2 h3 h5 h6 => ?_⟩
      · by_cases e : t = s
        · rw [e, set1_e] at h0; omega
        · rw [set1_n _ _ e] at h0; exact h0
      · by_cases e : t = s
        · subst e
          rw [set1_e, set1_e, set1_e]
          exact ⟨by omega, by omega, fun k => by unfold i32; omega⟩
        · rw [set1_n _ _ e, set1_n _ _ e, set1_n _ _ e]
          exact hb t ht
      · by_cases e : t = s
        · subst e
          rw [set1_e, va_up_self]
          exact ⟨fun _ => rfl, fun hh => absurd hh (by decide)⟩
        · rw [set1_n _ _ e, set1_n _ _ e, set1_n _ _ e, va_up_ne _ _ e]
          refine ⟨(hg t ht).1, fun h0 => ⟨((hg t ht).2 h0).1, ((hg t ht).2 h0).2.eq hx ?_ ?_⟩⟩
          · have := ((hg t ht).2 h0).2.1
            simp; omega
          · have := ((hg t ht).2 h0).2.1
            simp; omega
      · have e1 : t ≠ s := fun e => by rw [e, set1_e] at h5; omega
        have e2 : t' ≠ s := fun e => by rw [e, set1_e] at h6; omega
        rw [set1_n _ _ e1] at h5
        rw [set1_n _ _ e2] at h6
        exact hdis t t' h1 h2 h3 h5 h6
    · rw [iZ_eq hk (by unfold i32; omega)] at z2
      rw [tf_n0] at z3
      simp (disch := (first | assumption | omega | (unfold i32; omega) | (unfold i64; omega))) only [iZ_add, iZ_sub, iZ_mul, iZ_neg, lZ_add, lZ_sub, lZ_mul, lZ_neg, lZ_i, iZ_l, iZ_nat, Int.toNat_natCast, iZ_bit, iZ_shl, iZ_or, iZ_lt, iZ_le, iZ_eq, iZ_lt0, iZ_le0, iZ_gt0, iZ_ge0, iZ_eq0, cmp_eq0, cmp_lt0, cmp_le0, cmp_ge0, cmp_gt0, tf_0, tf_n0, Decidable.not_not, not_true_eq_false, not_false_eq_true, Int.toNat_natCast, onat] at z4
      simp (disch := (first | assumption | omega | (unfold i32; omega) | (unfold i64; omega))) only [iZ_add, iZ_sub, iZ_mul, iZ_neg, lZ_add, lZ_sub, lZ_mul, lZ_neg, lZ_i, iZ_l, iZ_nat, Int.toNat_natCast, iZ_bit, iZ_shl, iZ_or, iZ_lt, iZ_le, iZ_eq, iZ_lt0, iZ_le0, iZ_gt0, iZ_ge0, iZ_eq0, cmp_eq0, cmp_lt0, cmp_le0, cmp_ge0, cmp_gt0, tf_0, tf_n0, Decidable.not_not, not_true_eq_false, not_false_eq_true, Int.toNat_natCast, onat] at z5
      obtain ⟨n, rfl⟩ : ∃ m : Nat, v = m := ⟨v.toNat, by omega⟩
      have ok : okSheet s k n = true := decide_eq_true ⟨z, by omega, Or.inr (by omega)⟩
      have es : sSheet s k n = 1 := by
        unfold sSheet
        rw [if_pos ⟨z, by omega, Or.inr (by omega)⟩, if_neg (by omega)]
      simp only [ok, if_true, if_neg (show ¬ k < 0 by omega)] at hq
      rw [es] at hq
      simp only [Int.toNat_natCast] at hq
      refine k33 (n := n) (by omega) hl (mAr h _) (by rw [List.length_append]; rfl) (fun h1 gr d1 d2 hlen => b109_67 (gr.2 13 _ (by simp; omega) (mAl _ g1)) (inZ h4 (by decide)) d1 rfl ?_)
      rw [tnZ h4 (by decide)]
      have f13 := gr.2 13 _ (by simp; omega) (mAl [.inr (5, [.int 0, .null])] g1)
      have old : ∀ x e, x ≠ 13 → h[x]? = some e → (h1.set 13 (aR 3 4 (va_up g s (some h.length))))[x]? = some e := fun x e hx q => mGn (by omega) (gr.2 x e (by have := mltS q; simp; omega) (mAl _ q))
      refine hq _ (set1 B s h.length) ⟨?_, fun x e hx q => old x e (by simpa using hx) q⟩ (fun t ht h0 => ?_) ⟨fun t ht => ?_, ⟨_, mGs f13, fun t ht => ?_⟩, fun t t' h1 h2 h3 h5 h6 => ?_⟩
      · rw [List.length_set, hlen]
        omega
      · by_cases e : t = s
        · rw [e, set1_e]
          exact Or.inr (Nat.le_refl _)
        · rw [set1_n _ _ e] at h0 ⊢
          exact Or.inl ⟨rfl, h0⟩
      · by_cases e : t = s
        · subst e
          rw [set1_e, set1_e, set1_e]
          exact ⟨by omega, by omega, fun k => by unfold i32; omega⟩
        · rw [set1_n _ _ e, set1_n _ _ e, set1_n _ _ e]
          exact hb t ht
      · by_cases e : t = s
        · subst e
          rw [set1_e, set1_e, set1_e, set1_e, va_up_self]
          exact ⟨fun hh => by omega, fun _ => ⟨rfl, hl, mGn (by omega) d1, _, mGn (by omega) d2, fun k _ => rfl⟩⟩
        · rw [set1_n _ _ e, set1_n _ _ e, set1_n _ _ e, set1_n _ _ e, va_up_ne _ _ e]
          refine ⟨(hg t ht).1, fun h0 => ⟨((hg t ht).2 h0).1, ((hg t ht).2 h0).2.sub (fun x e h1 h2 q => old x e ?_ q)⟩⟩
          have := ((hg t ht).2 h0).2.1
          omega
      · have key : ∀ t, t < 4 → t ≠ s → 0 ≤ so t → B t + 2 ≤ h.length := by
          intro t ht e h0
          obtain ⟨_, _, f, q, _⟩ := ((hg t ht).2 h0).2
          have := mltS q
          omega
        by_cases e1 : t = s
        · have e2 : t' ≠ s := fun e => h3 (e1.trans e.symm)
          rw [set1_n _ _ e2] at h6
          rw [e1, set1_e, set1_n _ _ e2]
          exact Or.inr (key t' h2 e2 h6)
        · rw [set1_n _ _ e1] at h5
          by_cases e2 : t' = s
          · rw [e2, set1_e, set1_n _ _ e1]
            exact Or.inl (key t h1 e1 h5)
          · rw [set1_n _ _ e2] at h6
            rw [set1_n _ _ e1, set1_n _ _ e2]
            exact hdis t t' h1 h2 h3 h5 h6
    · rw [iZ_eq hk (by unfold i32; omega)] at z2
      rw [tf_n0] at z3
      simp (disch := (first | assumption | omega | (unfold i32; omega) | (unfold i64; omega))) only [iZ_add, iZ_sub, iZ_mul, iZ_neg, lZ_add, lZ_sub, lZ_mul, lZ_neg, lZ_i, iZ_l, iZ_nat, Int.toNat_natCast, iZ_bit, iZ_shl, iZ_or, iZ_lt, iZ_le, iZ_eq, iZ_lt0, iZ_le0, iZ_gt0, iZ_ge0, iZ_eq0, cmp_eq0, cmp_lt0, cmp_le0, cmp_ge0, cmp_gt0, tf_0, tf_n0, Decidable.not_not, not_true_eq_false, not_false_eq_true, Int.toNat_natCast, onat] at z4
      simp (disch := (first | assumption | omega | (unfold i32; omega) | (unfold i64; omega))) only [iZ_add, iZ_sub, iZ_mul, iZ_neg, lZ_add, lZ_sub, lZ_mul, lZ_neg, lZ_i, iZ_l, iZ_nat, Int.toNat_natCast, iZ_bit, iZ_shl, iZ_or, iZ_lt, iZ_le, iZ_eq, iZ_lt0, iZ_le0, iZ_gt0, iZ_ge0, iZ_eq0, cmp_eq0, cmp_lt0, cmp_le0, cmp_ge0, cmp_gt0, tf_0, tf_n0, Decidable.not_not, not_true_eq_false, not_false_eq_true, Int.toNat_natCast, onat] at z5
      have e : sSheet s k v = -14 := by unfold sSheet; rw [if_pos ⟨z, by omega, Or.inr (by omega)⟩, if_pos (by omega)]
      exact no (okf (by omega)) (Or.inr e) (-14) e.symm
    · rw [iZ_eq hk (by unfold i32; omega)] at z2
      rw [tf_n0] at z3
      simp (disch := (first | assumption | omega | (unfold i32; omega) | (unfold i64; omega))) only [iZ_add, iZ_sub, iZ_mul, iZ_neg, lZ_add, lZ_sub, lZ_mul, lZ_neg, lZ_i, iZ_l, iZ_nat, Int.toNat_natCast, iZ_bit, iZ_shl, iZ_or, iZ_lt, iZ_le, iZ_eq, iZ_lt0, iZ_le0, iZ_gt0, iZ_ge0, iZ_eq0, cmp_eq0, cmp_lt0, cmp_le0, cmp_ge0, cmp_gt0, tf_0, tf_n0, Decidable.not_not, not_true_eq_false, not_false_eq_true, Int.toNat_natCast, onat] at z4
      have e : sSheet s k v = -2 := by unfold sSheet; rw [if_neg (by omega)]
      exact no (okf (by omega)) (Or.inl e) (-2) e.symm
    · rw [iZ_eq hk (by unfold i32; omega)] at z2
      rw [tf_n0] at z3
      have e : sSheet s k v = -2 := by unfold sSheet; rw [if_neg (by omega)]
      exact no (okf (by omega)) (Or.inl e) (-2) e.symm
theorem j112 (hd : CD h c kd sz W A) (hs : CSh h so it im B) {x o j v : Int} (hx : i32 x) (hi : i32 y) (ho : i32 o) (hj : i32 j) (hn : i32 v) (hq : ∀ h', (h' = h ∨ ∃ s, s < 4 ∧ 0 ≤ so s ∧ Eqx [B s + 1] h h') → CSh h' so it (sCopyM so it im x y o j v) B → Q (some (.int (iZ (sCopy so it x y o j v)))) h') : mCt mCd 112 [.ref 5, .int (iZ x), .int (iZ y), .int (iZ o), .int (iZ j), .int (iZ v)] h Q := by
  have e5 := hd.o
  have hs0 := hs
  obtain ⟨hb, ⟨g, g1, hg⟩, hdis⟩ := hs
  have no : okCopy so it x y o j v = false → ∀ u, u = sCopy so it x y o j v → Q (some (.int (iZ u))) h := by
    intro h1 u hu
    unfold sCopyM at hq
    rw [h1, if_neg (by decide)] at hq
    rw [hu]
    exact hq h (Or.inl rfl) hs0
  have okf : ¬ (((0 ≤ x ∧ x ≤ 3) ∧ 0 ≤ o ∧ o ≤ 3) ∧ (0 ≤ so x.toNat ∧ so x.toNat = so o.toNat) ∧ 0 ≤ v ∧ 0 ≤ y ∧ 0 ≤ j ∧ y ≤ it x.toNat - v ∧ j ≤ it o.toNat - v) → okCopy so it x y o j v = false := fun hh => decide_eq_false hh
  refine en112 (b112_0 e5 (k123 hx e5 g1 (b112_5 (fun z => b112_16 ?_) (fun z => b112_8 e5 (k123 ho e5 g1 (b112_13 (fun z2 => ?_) (fun z2 => b112_16 ?_)))))))
  · rw [tf_0] at z
    exact no (okf (by omega)) (-2) (by unfold sCopy; rw [if_neg (by omega)])
  · rw [tf_n0] at z z2
    obtain ⟨s, rfl⟩ : ∃ m : Nat, x = m := ⟨x.toNat, by omega⟩
    obtain ⟨t, rfl⟩ : ∃ m : Nat, o = m := ⟨o.toNat, by omega⟩
    simp only [Int.toNat_natCast] at okf
    have s4 : s < 4 := by omega
    have t4 : t < 4 := by omega
    have es : ∀ r, (if so s < 0 ∨ so t < 0 then (-11 : Int) else if so s ≠ so t then -13 else if v < 0 ∨ y < 0 ∨ j < 0 ∨ y > it s - v ∨ j > it t - v then -12 else v) = r → sCopy so it s y t j v = r := fun r hr => by
      unfold sCopy
      simp only [Int.toNat_natCast]
      rw [if_pos (by omega)]
      exact hr
    have hbs := hb s s4
    have hbt := hb t t4
    by_cases a1 : so s < 0
    · by_cases a2 : so t < 0
      · exact b112_19nn e5 g1 (inZ s4 (by decide)) (by rw [tnZ s4 (by decide)]; exact (hg s s4).1 a1) (inZ t4 (by decide)) (by rw [tnZ t4 (by decide)]; exact (hg t t4).1 a2) (no (okf (by omega)) (-11) (es _ (by rw [if_pos (by omega)])).symm)
      · exact b112_19nr e5 g1 (inZ s4 (by decide)) (by rw [tnZ s4 (by decide)]; exact (hg s s4).1 a1) (inZ t4 (by decide)) (by rw [tnZ t4 (by decide)]; exact ((hg t t4).2 (by omega)).1) (no (okf (by omega)) (-11) (es _ (by rw [if_pos (by omega)])).symm)
    · obtain ⟨k1, k2⟩ := (hg s s4).2 (by omega)
      by_cases a2 : so t < 0
      · exact b112_19rn e5 g1 (inZ s4 (by decide)) (by rw [tnZ s4 (by decide)]; exact k1) (inZ t4 (by decide)) (by rw [tnZ t4 (by decide)]; exact (hg t t4).1 a2) (no (okf (by omega)) (-11) (es _ (by rw [if_pos (by omega)])).symm)
      · obtain ⟨k3, k4⟩ := (hg t t4).2 (by omega)
        obtain ⟨b1, d1, f1, d2, hf1⟩ := id k2
        obtain ⟨b2, d3, f2, d4, hf2⟩ := id k4
        refine b112_19rr e5 g1 (inZ s4 (by decide)) (by rw [tnZ s4 (by decide)]; exact k1) (inZ t4 (by decide)) (by rw [tnZ t4 (by decide)]; exact k3) d1 d3 (fun z3 => b112_64 d1 (k34 k2 hbs.2.1 hi hn (b112_72 (fun z4 => b112_87 ?_) (fun z4 => b112_75 d3 (k34 k4 hbt.2.1 hj hn (b112_84 (fun z5 => b112_90 d1 d3 d2 d4 (by omega) (by omega) ?_ ?_) (fun z5 => b112_87 ?_))))))) (fun z3 => b112_61 ?_)
        · rw [iZ_eq (by unfold i32; omega) (by unfold i32; omega)] at z3
          rw [tf_0] at z4
          exact no (okf (by omega)) (-12) (es _ (by rw [if_neg (by omega), if_neg (by omega), if_pos (by omega)])).symm
        · rw [tf_n0] at z4 z5
          rw [iZ_nat (by omega) (by omega), iZ_nat (by omega) (by omega), iZ_nat (by omega) (by omega), iZ_lt0 hi, iZ_lt0 hj, iZ_lt0 hn]
          omega
        · rw [iZ_eq (by unfold i32; omega) (by unfold i32; omega)] at z3
          rw [tf_n0] at z4 z5
          rw [iZ_nat (by omega) (by omega), iZ_nat (by omega) (by omega), iZ_nat (by omega) (by omega)]
          have ok : okCopy so it s y t j v = true := by
            unfold okCopy
            simp only [Int.toNat_natCast]
            exact decide_eq_true ⟨by omega, by omega, by omega, by omega, by omega, by omega, by omega⟩
          have esv := es v (by rw [if_neg (by omega), if_neg (by omega), if_neg (by omega)])
          unfold sCopyM at hq
          rw [ok, if_pos rfl, esv] at hq
          simp only [Int.toNat_natCast] at hq
          have hxx : Eqx [B t + 1] h (h.set (B t + 1) (aL (it t) (va_cpy f1 f2 y.toNat j.toNat v.toNat))) := (Eqx.rf _ _).st _ (by simp)
          refine hq _ (Or.inr ⟨t, t4, by omega, hxx⟩) (hs0.put t4 (by omega) (fun k => ?_) hxx ⟨b2, mGn (by omega) d3, _, mGs d4, fun k hk => ?_⟩)
          · unfold cpy
            split
            · exact hbs.2.2 _
            · exact hbt.2.2 _
          · unfold va_cpy cpy
            split
            · exact hf1 _ (by omega)
            · exact hf2 k hk
        · rw [iZ_eq (by unfold i32; omega) (by unfold i32; omega)] at z3
          rw [tf_n0] at z4 z5
          exact no (okf (by omega)) (-12) (es _ (by rw [if_neg (by omega), if_neg (by omega), if_pos (by omega)])).symm
        · rw [iZ_eq (by unfold i32; omega) (by unfold i32; omega)] at z3
          exact no (okf (by omega)) (-13) (es _ (by rw [if_neg (by omega), if_pos (by omega)])).symm
  · rw [tf_n0] at z2
    exact no (okf (by omega)) (-2) (by unfold sCopy; rw [if_neg (by omega)])
end CS
