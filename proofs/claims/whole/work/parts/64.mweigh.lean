/-! ===== the reference: weigh ===== -/
def zB (z : Nat → Nat → Int) (m : Nat) : Int := prd (fun k => z k k) m
def wtF (z : Nat → Nat → Int) (m k : Nat) : Int := z k 4 * (zB z m).tdiv (z k k)
def smW (z : Nat → Nat → Int) (m : Nat) : Prop := ∀ k, k < m → (1 ≤ z k k ∧ z k k ≤ 6) ∧ 1 ≤ z k 4 ∧ z k 4 ≤ 6
def wSum (z : Nat → Nat → Int) (w : Nat → Int) (n m : Nat) (S : List Nat) (k : Nat) : Int := - w (al n) * zB z m + sumTo (fun j => wtF z m j * w (S.getD j 0)) k
def wTot (z : Nat → Nat → Int) (m k : Nat) : Int := sumTo (wtF z m) k
theorem chs_get (ch : Nat) : ∀ {s N : Nat}, s < N → bt ch s = 1 → (chs ch N).getD (chs ch s).length 0 = s + 1 := by
  intro s N h hb
  have e0 : chs ch (s + 1) = chs ch s ++ [s + 1] := if_pos hb
  induction N with
  | zero => exact absurd h (Nat.not_lt_zero _)
  | succ N ih =>
    by_cases q : s = N
    · subst q
      rw [e0, List.getD_eq_getElem?_getD, List.getElem?_append_right (Nat.le_refl _), Nat.sub_self]
      rfl
    · have hm := chs_mono ch (show s + 1 ≤ N by omega)
      rw [e0, List.length_append, List.length_singleton] at hm
      have e : chs ch (N + 1) = if bt ch N = 1 then chs ch N ++ [N + 1] else chs ch N := rfl
      rw [e]
      split
      · rw [List.getD_eq_getElem?_getD, List.getElem?_append_left (by omega), ← List.getD_eq_getElem?_getD]
        exact ih (by omega)
      · exact ih (by omega)
theorem zB_b {z : Nat → Nat → Int} {m : Nat} (h : smW z m) : ∀ k, k ≤ m → 1 ≤ prd (fun k => z k k) k ∧ prd (fun k => z k k) k ≤ 6 ^ k
  | 0, _ => ⟨Int.le_refl 1, Int.le_refl 1⟩
  | k + 1, hk => by
    have ih := zB_b h k (by omega)
    have hf := (h k (by omega)).1
    unfold prd
    refine ⟨?_, ?_⟩
    · have := Int.mul_le_mul ih.1 hf.1 (by omega) (by omega)
      omega
    · rw [Int.pow_succ]
      exact Int.mul_le_mul ih.2 hf.2 (by omega) (by omega)
theorem zB_4 {z : Nat → Nat → Int} {m : Nat} (h : smW z m) (hm : m ≤ 4) : 1 ≤ zB z m ∧ zB z m ≤ 1296 := by
  have h1 := zB_b h m (Nat.le_refl m)
  have h2 : ∀ m, m ≤ 4 → (6 : Int) ^ m ≤ 1296 := by decide +kernel
  have := h2 m hm
  unfold zB
  omega
theorem wtF_b {z : Nat → Nat → Int} {m k : Nat} (h : smW z m) (hm : m ≤ 4) (hk : k < m) : 1 ≤ wtF z m k ∧ wtF z m k ≤ 7776 := by
  have h1 := zB_4 h hm
  have h2 := h k hk
  have hd : z k k ∣ zB z m := prd_dvd (fun k => z k k) hk
  have h3 := Int.mul_tdiv_cancel' hd
  unfold wtF
  have h4 : 1 ≤ (zB z m).tdiv (z k k) := by
    by_cases q : (zB z m).tdiv (z k k) ≤ 0
    · have := Int.mul_nonneg (show 0 ≤ z k k by omega) (show 0 ≤ - (zB z m).tdiv (z k k) by omega)
      rw [Int.mul_neg] at this
      omega
    · omega
  have h5 := bd_tdiv (z k k) (show bd 1296 (zB z m) from ⟨by omega, by omega⟩)
  have h6 := bd_mul (show bd 6 (z k 4) from ⟨by omega, by omega⟩) h5
  have h7 := Int.mul_le_mul h2.2.1 h4 (by omega) (by omega)
  unfold bd at h6
  omega
theorem wTot_b {z : Nat → Nat → Int} {m : Nat} (h : smW z m) (hm : m ≤ 4) : ∀ k, k ≤ m → (k : Int) ≤ wTot z m k ∧ wTot z m k ≤ 7776 * k
  | 0, _ => ⟨Int.le_refl 0, Int.le_refl 0⟩
  | k + 1, hk => by
    have ih := wTot_b h hm k (by omega)
    have := wtF_b h hm (show k < m by omega)
    unfold wTot at *
    unfold sumTo
    omega
theorem wSum_b {z : Nat → Nat → Int} {w : Nat → Int} {n m : Nat} (h : smW z m) (hm : m ≤ 4) (hw : ∀ s, bd 16000 (w s)) (S : List Nat) {k : Nat} (hk : k ≤ m) : bd 1000000000 (wSum z w n m S k) := by
  have h1 := zB_4 h hm
  have h2 := bd_mul (hw (al n)) (show bd 1296 (zB z m) from ⟨by omega, by omega⟩)
  have h3 := sumTo_b (f := fun j => wtF z m j * w (S.getD j 0)) (B := 7776 * 16000) (n := k) (fun j hj => by
    have g := wtF_b h hm (show j < m by omega)
    exact bd_mul (show bd 7776 (wtF z m j) from ⟨by omega, by omega⟩) (hw _))
  unfold wSum
  rw [Int.neg_mul]
  unfold bd at *
  omega
section MW
variable {H : mH} {Q : Option Value → mH → Prop} {i n m : Nat} {w : Nat → Int} {v cor : Int32} {bA bB : Int64} {rw_ bo : Int32} {z : Nat → Nat → Int} {ch : Nat} {x18 : mE}

theorem c185n (hm : m ≤ 4) (e1 : H[14]? = some (oM v cor bA bB rw_ bo)) (e2 : H[18]? = some x18) (hb : ∀ k, k < m → bd 524288000 (z k 4)) (hex : ∃ j, j < m ∧ z j 4 ≤ 0) (hq : Q none (mm H z)) : mCt mCd 185 [.ref 14, .int (iZ i), .int (iZ ch), .int (iZ m)] (mm H z) Q := by
  have hs : True := trivial
  have e1' := mm_n (h := H) (show 18 ≠ 14 by decide) e1 z
  have e2' := mm_18 (h := H) e2 z
  have lp : ∀ d k : Nat, ∀ y : Int64, k + d = m → (∃ j, k ≤ j ∧ j < m ∧ z j 4 ≤ 0) → mWp mCd 185 (6, [some (.ref 14), some (.int (iZ i)), some (.int (iZ ch)), some (.int (iZ m)), some (.long y), none, some (.int (iZ k)), none, none, none, none, none, none, none], [], mm H z, 0, 0) Q := by
    intro d
    induction d with
    | zero =>
      intro k y hk ⟨j, h1, h2, _⟩
      omega
    | succ d ih =>
      intro k y hk ⟨j, h1, h2, h3⟩
      have hin1 : ¬ (iZ 5 * iZ k + iZ 4 < 0 ∨ 20 ≤ (iZ 5 * iZ k + iZ 4).toNatClampNeg) := by
        rw [iZ_mul, iZ_add]
        exact iZ_in (by omega) (by omega) (by decide)
      have hin2 : ¬ (iZ 5 * iZ k + iZ k < 0 ∨ 20 ≤ (iZ 5 * iZ k + iZ k).toNatClampNeg) := by
        rw [iZ_mul, iZ_add]
        exact iZ_in (by omega) (by omega) (by decide)
      have z4 := zM_at z k 4 (by omega)
      have hbk := hb k (by omega)
      have li : i64 (z k 4) := by unfold bd at hbk; unfold i64; omega
      have l0 : i64 0 := ⟨by omega, by omega⟩
      refine b185_6 (fun q => ?_) (fun _ => b185_12 e1' e2' hin1 (fun q => b185_29 e1' e2' hin2 ?_) (fun q => b185_28 hq))
      · simp (disch := (first | assumption | omega | (unfold i32; omega) | (unfold i64; omega))) only [iZ_add, iZ_sub, iZ_mul, iZ_neg, lZ_add, lZ_sub, lZ_mul, lZ_neg, lZ_i, iZ_l, iZ_nat, Int.toNat_natCast, iZ_bit, iZ_shl, iZ_or, iZ_lt, iZ_le, iZ_eq, iZ_lt0, iZ_le0, iZ_gt0, iZ_ge0, iZ_eq0, cmp_eq0, cmp_lt0, cmp_le0, cmp_ge0, cmp_gt0, tf_0, tf_n0, Decidable.not_not, not_true_eq_false, not_false_eq_true, Int.toNat_natCast, tn5, tn55, tn54, zM_at, hs] at q
        omega
      · simp (disch := (first | assumption | omega | (unfold i32; omega) | (unfold i64; omega))) only [iZ_add, iZ_sub, iZ_mul, iZ_neg, lZ_add, lZ_sub, lZ_mul, lZ_neg, lZ_i, iZ_l, iZ_nat, Int.toNat_natCast, iZ_bit, iZ_shl, iZ_or, iZ_lt, iZ_le, iZ_eq, iZ_lt0, iZ_le0, iZ_gt0, iZ_ge0, iZ_eq0, cmp_eq0, cmp_lt0, cmp_le0, cmp_ge0, cmp_gt0, tf_0, tf_n0, Decidable.not_not, not_true_eq_false, not_false_eq_true, Int.toNat_natCast, tn5, tn55, tn54, zM_at, hs, z4] at q
        rw [iZ_add]
        refine ih (k + 1) _ (by omega) ⟨j, ?_, h2, h3⟩
        by_cases e : j = k
        · subst e; omega
        · omega
  obtain ⟨j, h1, h2⟩ := hex
  exact en185 (b185_0 (lp m 0 _ (by omega) ⟨j, Nat.zero_le _, h1, h2⟩))
/-- the weights laid down -/
theorem l185w (hv : MV H i n w) (hm : m ≤ 4) (hsm : smW z m) (hch : ch < 16384) (hl : (chs ch (al n - 1)).length = m) {fa fb : Nat → Int64} (hz : H[18]? = some (aL 20 (zM z))) (f1 : H[21]? = some (aL 16 fa)) (f2 : H[22]? = some (aL 16 fb)) (hq : ∀ H' fa' fb', Eqx [21, 22] H H' → H'[21]? = some (aL 16 fa') → H'[22]? = some (aL 16 fb') → (∀ s, s < al n - 1 → fa' (s + 1) = lZ (if bt ch s = 1 then lowZ (z (chs ch s).length 4) (z (chs ch s).length (chs ch s).length) 0 else 0) ∧ fb' (s + 1) = lZ (if bt ch s = 1 then lowZ (z (chs ch s).length 4) (z (chs ch s).length (chs ch s).length) 1 else 1)) → Q none H') : ∀ s, s ≤ al n - 1 → ∀ H1 fa fb, Eqx [21, 22] H H1 → H1[21]? = some (aL 16 fa) → H1[22]? = some (aL 16 fb) → (∀ t, t < s → fa (t + 1) = lZ (if bt ch t = 1 then lowZ (z (chs ch t).length 4) (z (chs ch t).length (chs ch t).length) 0 else 0) ∧ fb (t + 1) = lZ (if bt ch t = 1 then lowZ (z (chs ch t).length 4) (z (chs ch t).length (chs ch t).length) 1 else 1)) → mWp mCd 185 (221, [some (.ref 14), some (.int (iZ i)), some (.int (iZ ch)), none, none, none, none, none, none, none, some (.int (iZ (chs ch s).length)), some (.int (iZ ((s + 1 : Nat) : Int))), none, none], [], H1, 0, 0) Q := by
  have hn4 := hv.2.1.2
  have hal1 : 1 ≤ al n := by
    have := p2_lt (show 0 < n by have := hv.2.1.1; omega)
    unfold al; omega
  have hal := al_lt hn4
  obtain ⟨_, _, _, v, cor, bA, bB, rw_, bo, _, _, e1, _⟩ := id hv
  refine lp_up _ ?_ ?_
  · intro H1 fa fb hx g1 g2 hf
    have d1 := (hx.2 14 (by decide)).trans e1
    refine b185_221 d1 (c139 (hv.eqx d1 hx (by decide) (by decide)) (b185_228 (fun _ => b185_340 (hq H1 fa fb hx g1 g2 hf)) (fun q => ?_)))
    rw [iZ_le (by unfold i32; omega) (by unfold i32; omega)] at q
    omega
  · intro s hs ih H1 fa fb hx g1 g2 hf
    have d1 := (hx.2 14 (by decide)).trans e1
    have d18 := (hx.2 18 (by decide)).trans hz
    have hlen := chs_len ch s
    have hle := chs_mono ch (show s + 1 ≤ al n - 1 by omega)
    have es : chs ch (s + 1) = if bt ch s = 1 then chs ch s ++ [s + 1] else chs ch s := rfl
    have hin : ¬ (iZ ((s + 1 : Nat) : Int) < 0 ∨ 16 ≤ (iZ ((s + 1 : Nat) : Int)).toNatClampNeg) := iZ_in (by omega) (by omega) (by decide)
    have tn : (iZ ((s + 1 : Nat) : Int)).toNatClampNeg = s + 1 := by rw [iZ_nat (by omega) (by omega)]; omega
    have sb : iZ ((s + 1 : Nat) : Int) - iZ 1 = iZ s := by rw [iZ_sub]; congr 1; omega
    have upd : ∀ (f : Nat → Int64) (x : Int64) t, vp_updL f (s + 1) x (t + 1) = if t = s then x else f (t + 1) := fun f x t => by
      unfold vp_updL
      by_cases q : t = s
      · rw [if_pos q, if_pos (by omega)]
      · rw [if_neg q, if_neg (by omega)]
    refine b185_221 d1 (c139 (hv.eqx d1 hx (by decide) (by decide)) (b185_228 (fun q => ?_) (fun _ => b185_231 d1 g1 hin g2 (fun q => ?_) (fun q => b185_258 (b185_334 ?_)))))
    · rw [iZ_le (by unfold i32; omega) (by unfold i32; omega)] at q
      omega
    · rw [sb, iZ_bitN (by omega) (by omega)] at q
      have hb : bt ch s = 1 := by
        have := bt_01 ch s
        rcases this with y | y
        · rw [y] at q; exact absurd rfl q
        · exact y
      rw [if_pos hb] at es
      rw [es, List.length_append, List.length_singleton] at hle
      have hk : (chs ch s).length < m := by omega
      generalize hkk : (chs ch s).length = k at *
      have hzk := hsm k hk
      have hin1 : ¬ (iZ 5 * iZ k + iZ 4 < 0 ∨ 20 ≤ (iZ 5 * iZ k + iZ 4).toNatClampNeg) := by
        rw [iZ_mul, iZ_add]
        exact iZ_in (by omega) (by omega) (by decide)
      have hin2 : ¬ (iZ 5 * iZ k + iZ k < 0 ∨ 20 ≤ (iZ 5 * iZ k + iZ k).toNatClampNeg) := by
        rw [iZ_mul, iZ_add]
        exact iZ_in (by omega) (by omega) (by decide)
      have z4 := zM_at z k 4 (by omega)
      have zk := zM_at z k k (by omega)
      have t1 : (iZ 5 * iZ k + iZ 4).toNatClampNeg = 5 * k + 4 := by rw [iZ_mul, iZ_add, iZ_nat (by omega) (by omega)]; omega
      have t2 : (iZ 5 * iZ k + iZ k).toNatClampNeg = 5 * k + k := by rw [iZ_mul, iZ_add, iZ_nat (by omega) (by omega)]; omega
      have b4 : bd 4611686018427387903 (z k 4) := ⟨by omega, by omega⟩
      have bk : bd 4611686018427387903 (z k k) := ⟨by omega, by omega⟩
      rw [tn]
      refine b185_261 (mGn (by decide) (mGn (by decide) d1)) (mGn (by decide) (mGn (by decide) d18)) hin1 hin2 ?_
      rw [t1, t2, z4, zk]
      refine c161 (mGn (by decide) (mGn (by decide) d1)) (k := 0) (by decide) b4 bk (by omega) ?_
      refine b185_295 (mGn (by decide) (mGs g1)) hin (mGn (by decide) (mGn (by decide) d1)) (mGn (by decide) (mGn (by decide) d18)) hin1 hin2 ?_
      rw [t1, t2, z4, zk, tn]
      refine c161 (mGn (by decide) (mGn (by decide) (mGn (by decide) d1))) (k := 1) (by decide) b4 bk (by omega) ?_
      refine b185_330 (mGn (by decide) (mGs (mGn (by decide) g2))) hin ?_
      rw [tn]
      refine b185_334 ?_
      rw [iZ_add, iZ_add]
      rw [es, List.length_append, hkk] at ih
      refine ih _ _ _ ((((hx.st _ (by simp)).st _ (by simp)).st _ (by simp)).st _ (by simp)) (mGn (by decide) (mGs (mGn (by decide) (mGs g1)))) (mGs (mGn (by decide) (mGs (mGn (by decide) g2)))) (fun t ht => ?_)
      · rw [upd, upd, upd, upd]
        by_cases q : t = s
        · subst q
          rw [if_pos rfl, if_pos rfl, if_pos hb, if_pos hb, hkk]
          exact ⟨rfl, rfl⟩
        · rw [if_neg q, if_neg q, if_neg q, if_neg q]
          exact hf t (by omega)
    · rw [sb, iZ_bitN (by omega) (by omega)] at q
      have hb : ¬ bt ch s = 1 := by
        intro y
        rw [y] at q
        exact q (by decide)
      rw [if_neg hb] at es
      rw [tn, iZ_add]
      rw [es] at ih
      refine ih _ _ _ ((hx.st _ (by simp)).st _ (by simp)) (mGn (by decide) (mGs g1)) (mGs (mGn (by decide) g2)) (fun t ht => ?_)
      · rw [upd, upd]
        by_cases q : t = s
        · subst q
          rw [if_pos rfl, if_pos rfl, if_neg hb, if_neg hb]
          exact ⟨rfl, rfl⟩
        · rw [if_neg q, if_neg q]
          exact hf t (by omega)
end MW
