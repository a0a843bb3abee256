/-! ===== the reference: the small system ===== -/

def zM (z : Nat → Nat → Int) : Nat → Int64 := fun j => lZ (z (j / 5) (j % 5))
theorem zM_at (z : Nat → Nat → Int) (r k : Nat) (hk : k < 5) : zM z (5 * r + k) = lZ (z r k) := by
  unfold zM
  rw [show (5 * r + k) / 5 = r by omega, show (5 * r + k) % 5 = k by omega]
theorem zM_up (z : Nat → Nat → Int) (r k : Nat) (hk : k < 5) (x : Int) : vp_updL (zM z) (5 * r + k) (lZ x) = zM (set1 z r (set1 (z r) k x)) := by
  funext j
  unfold vp_updL zM
  by_cases q : j = 5 * r + k
  · rw [if_pos q, show j / 5 = r by omega, show j % 5 = k by omega, set1_e, set1_e]
  · rw [if_neg q]
    by_cases q1 : j / 5 = r
    · rw [q1, set1_e, set1_n _ _ (by omega)]
    · rw [set1_n _ _ q1]
theorem tn5 (r k : Nat) : ((5 : Int) * (r : Int) + (k : Int)).toNat = 5 * r + k := by omega
theorem tn54 (r : Nat) : ((5 : Int) * (r : Int) + 4).toNat = 5 * r + 4 := by omega
/-- the small system's heap -/
def mm (h : mH) (z : Nat → Nat → Int) : mH := h.set 18 (aL 20 (zM z))
theorem mm_18 {h : mH} {x : mE} (e : h[18]? = some x) (z : Nat → Nat → Int) : (mm h z)[18]? = some (aL 20 (zM z)) := mGs e
theorem mm_n {h : mH} {a : Nat} {x : Option mE} (hn : 18 ≠ a) (e : h[a]? = x) (z : Nat → Nat → Int) : (mm h z)[a]? = x := mGn hn e
theorem mm_s (h : mH) (z z' : Nat → Nat → Int) : (mm h z).set 18 (aL 20 (zM z')) = mm h z' := List.set_set _
def mix (k : Nat) (f g : Nat → Int) : Nat → Int := fun c => if c < k then f c else g c
theorem mix_0 (f g : Nat → Int) : mix 0 f g = g := by
  funext c; unfold mix; rw [if_neg (by omega)]
theorem mix_s (k : Nat) (f g : Nat → Int) : set1 (mix k f g) k (f k) = mix (k + 1) f g := by
  funext c
  unfold set1 mix
  by_cases q : c = k
  · subst q; rw [if_pos rfl, if_pos (by omega)]
  · rw [if_neg q]
    by_cases q2 : c < k
    · rw [if_pos q2, if_pos (by omega)]
    · rw [if_neg q2, if_neg (by omega)]
theorem mix_at (k : Nat) (f g : Nat → Int) : mix k f g k = g k := if_neg (by omega)
theorem set1_id {α : Type} (f : Nat → α) (c : Nat) : set1 f c (f c) = f := by
  funext i
  unfold set1
  split
  · next q => rw [q]
  · rfl
theorem set1_cm {α : Type} (f : Nat → α) {a b : Nat} (h : a ≠ b) (x y : α) : set1 (set1 f a x) b y = set1 (set1 f b y) a x := by
  funext i
  unfold set1
  by_cases q : i = a
  · rw [if_pos q, if_neg (by omega), if_pos q]
  · rw [if_neg q]
    by_cases q2 : i = b
    · rw [if_pos q2, if_neg q]
    · rw [if_neg q2, if_neg q]
section ME
variable {h : mH} {Q : Option Value → mH → Prop} {z : Nat → Nat → Int} {v cor : Int32} {bA bB : Int64} {rw_ bo : Int32} {x18 : mE}
/-- clear -/
def clrN (z : Nat → Nat → Int) (k : Nat) : Nat → Nat → Int := fun r c => if 5 * r + c < k ∧ c < 5 then 0 else z r c
theorem clrN_s (z : Nat → Nat → Int) (r c : Nat) (hc : c < 5) : set1 (clrN z (5 * r + c)) r (set1 (clrN z (5 * r + c) r) c 0) = clrN z (5 * r + c + 1) := by
  funext r' c'
  by_cases q : r' = r
  · subst q
    rw [set1_e]
    by_cases q2 : c' = c
    · subst q2
      rw [set1_e]
      unfold clrN
      rw [if_pos (by omega)]
    · rw [set1_n _ _ q2]
      unfold clrN
      by_cases q3 : 5 * r' + c' < 5 * r' + c ∧ c' < 5
      · rw [if_pos q3, if_pos (by omega)]
      · rw [if_neg q3, if_neg (by omega)]
  · rw [set1_n _ _ q]
    unfold clrN
    by_cases q3 : 5 * r' + c' < 5 * r + c ∧ c' < 5
    · rw [if_pos q3, if_pos (by omega)]
    · rw [if_neg q3, if_neg (by omega)]
theorem l177 (e1 : h[14]? = some (oM v cor bA bB rw_ bo)) (e2 : h[18]? = some x18) (hq : Q none (mm h (clrN z 20))) : ∀ k : Nat, k ≤ 20 → mWp mCd 177 (2, [some (.ref 14), some (.int (iZ k))], [], mm h (clrN z k), 0, 0) Q := by
  have hs : True := trivial
  refine lp_up 20 ?_ ?_
  · exact b177_2 (fun _ => b177_21 hq) (fun q => absurd (Int32.le_refl _) q)
  · intro k hk ih
    refine b177_2 (fun q => ?_) (fun _ => b177_8 (mm_n (by omega) e1 _) (mm_18 e2 _) (iZ_in (by omega) (by omega) (by decide)) ?_)
    · simp (disch := (first | assumption | omega | (unfold i32; omega) | (unfold i64; omega))) only [iZ_add, iZ_sub, iZ_mul, iZ_neg, lZ_add, lZ_sub, lZ_mul, lZ_neg, lZ_i, iZ_l, iZ_nat, Int.toNat_natCast, iZ_bit, iZ_shl, iZ_or, iZ_lt, iZ_le, iZ_eq, iZ_lt0, iZ_le0, iZ_gt0, iZ_ge0, iZ_eq0, cmp_eq0, cmp_lt0, cmp_le0, cmp_ge0, cmp_gt0, tf_0, tf_n0, Decidable.not_not, not_true_eq_false, not_false_eq_true, hs, Int.toNat_natCast, tn5, tn54, zM_at, zM_up] at q
      omega
    · obtain ⟨r, c, hc, rfl⟩ : ∃ r c, c < 5 ∧ k = 5 * r + c := ⟨k / 5, k % 5, by omega, by omega⟩
      simp (disch := (first | assumption | omega | (unfold i32; omega) | (unfold i64; omega))) only [iZ_add, iZ_sub, iZ_mul, iZ_neg, lZ_add, lZ_sub, lZ_mul, lZ_neg, lZ_i, iZ_l, iZ_nat, Int.toNat_natCast, iZ_bit, iZ_shl, iZ_or, iZ_lt, iZ_le, iZ_eq, iZ_lt0, iZ_le0, iZ_gt0, iZ_ge0, iZ_eq0, cmp_eq0, cmp_lt0, cmp_le0, cmp_ge0, cmp_gt0, tf_0, tf_n0, Decidable.not_not, not_true_eq_false, not_false_eq_true, hs, Int.toNat_natCast, tn5, tn54, zM_at, zM_up]
      rw [clrN_s z r c hc, mm_s]
      exact ih
theorem c177 (e1 : h[14]? = some (oM v cor bA bB rw_ bo)) (e2 : h[18]? = some x18) (hq : Q none (mm h (clrN z 20))) : mCt mCd 177 [.ref 14] (mm h z) Q := by
  refine en177 (b177_0 ?_)
  have := l177 (z := z) e1 e2 hq 0 (by omega)
  rwa [show clrN z 0 = z from by funext r c; unfold clrN; rw [if_neg (by omega)]] at this
/-- exchange -/
def exc (z : Nat → Nat → Int) (a b k : Nat) : Nat → Nat → Int := set1 (set1 z a (mix k (z b) (z a))) b (mix k (z a) (z b))
theorem exc_s (z : Nat → Nat → Int) (a b k : Nat) : set1 (set1 (exc z a b k) a (set1 (exc z a b k a) k (exc z a b k b k))) b (set1 (set1 (exc z a b k) a (set1 (exc z a b k a) k (exc z a b k b k)) b) k (exc z a b k a k)) = exc z a b (k + 1) := by
  by_cases q : a = b
  · subst q
    have e : ∀ k, exc z a a k = z := fun k => by
      unfold exc
      rw [set1_s, show mix k (z a) (z a) = z a from by funext c; unfold mix; split <;> rfl]
      exact set1_id z a
    rw [e, e]
    rw [set1_id (z a) k, set1_id z a, set1_id (z a) k, set1_id z a]
  · have ea : exc z a b k a = mix k (z b) (z a) := by unfold exc; rw [set1_n _ _ q, set1_e]
    have eb : exc z a b k b = mix k (z a) (z b) := by unfold exc; rw [set1_e]
    rw [ea, eb, mix_at, mix_at, set1_n _ _ (Ne.symm q), eb, mix_s, mix_s]
    unfold exc
    rw [set1_cm _ (Ne.symm q), set1_s, set1_s]
theorem l175 {a b : Nat} (ha : a < 4) (hb : b < 4) (e1 : h[14]? = some (oM v cor bA bB rw_ bo)) (e2 : h[18]? = some x18) (hq : Q none (mm h (exc z a b 5))) : ∀ k : Nat, k ≤ 5 → mWp mCd 175 (2, [some (.ref 14), some (.int (iZ a)), some (.int (iZ b)), some (.int (iZ k)), none, none], [], mm h (exc z a b k), 0, 0) Q := by
  have hs : True := trivial
  refine lp_up 5 ?_ ?_
  · exact b175_2 (fun _ => b175_57 hq) (fun q => absurd (Int32.le_refl _) q)
  · intro k hk ih
    refine b175_2 (fun q => ?_) (fun _ => b175_7 (mm_n (by omega) e1 _) (mm_18 e2 _) ?_ ?_ ?_)
    · simp (disch := (first | assumption | omega | (unfold i32; omega) | (unfold i64; omega))) only [iZ_add, iZ_sub, iZ_mul, iZ_neg, lZ_add, lZ_sub, lZ_mul, lZ_neg, lZ_i, iZ_l, iZ_nat, Int.toNat_natCast, iZ_bit, iZ_shl, iZ_or, iZ_lt, iZ_le, iZ_eq, iZ_lt0, iZ_le0, iZ_gt0, iZ_ge0, iZ_eq0, cmp_eq0, cmp_lt0, cmp_le0, cmp_ge0, cmp_gt0, tf_0, tf_n0, Decidable.not_not, not_true_eq_false, not_false_eq_true, hs, Int.toNat_natCast, tn5, tn54, zM_at, zM_up] at q
      omega
    · rw [iZ_mul, iZ_add]
      exact iZ_in (by omega) (by omega) (by decide)
    · rw [iZ_mul, iZ_add]
      exact iZ_in (by omega) (by omega) (by decide)
    · simp (disch := (first | assumption | omega | (unfold i32; omega) | (unfold i64; omega))) only [iZ_add, iZ_sub, iZ_mul, iZ_neg, lZ_add, lZ_sub, lZ_mul, lZ_neg, lZ_i, iZ_l, iZ_nat, Int.toNat_natCast, iZ_bit, iZ_shl, iZ_or, iZ_lt, iZ_le, iZ_eq, iZ_lt0, iZ_le0, iZ_gt0, iZ_ge0, iZ_eq0, cmp_eq0, cmp_lt0, cmp_le0, cmp_ge0, cmp_gt0, tf_0, tf_n0, Decidable.not_not, not_true_eq_false, not_false_eq_true, hs, Int.toNat_natCast, tn5, tn54, zM_at, zM_up]
      rw [exc_s, List.set_set, mm_s]
      exact ih
theorem c175 {a b : Nat} (ha : a < 4) (hb : b < 4) (e1 : h[14]? = some (oM v cor bA bB rw_ bo)) (e2 : h[18]? = some x18) (hq : Q none (mm h (exc z a b 5))) : mCt mCd 175 [.ref 14, .int (iZ a), .int (iZ b)] (mm h z) Q := by
  refine en175 (b175_0 ?_)
  have := l175 (z := z) ha hb e1 e2 hq 0 (by omega)
  have e : exc z a b 0 = z := by
    unfold exc
    rw [mix_0, mix_0, set1_id]
    exact set1_id z b
  rwa [e] at this
end ME
