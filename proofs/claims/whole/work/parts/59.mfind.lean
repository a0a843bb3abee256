/-! ===== the reference: findCorners, what it needs ===== -/
theorem iZ_bitN {s k : Nat} (hs : s < 2147483648) (hk : k < 31) : (iZ (s : Nat) >>> (iZ (k : Nat) &&& 31)) &&& iZ 1 = iZ ((bt s k : Nat) : Int) := by
  have hk2 : ∀ k, k < 32 → ((iZ (k : Nat) &&& 31).toBitVec.smod 32) = BitVec.ofNat 32 k := by decide +kernel
  have e1 : (iZ (s : Nat)).toBitVec = BitVec.ofNat 32 s := by
    show BitVec.ofInt 32 (s : Int) = _
    rw [BitVec.ofInt_natCast]
  have e2 : (iZ (s : Nat) >>> (iZ (k : Nat) &&& 31)).toBitVec = (BitVec.ofNat 32 s) >>> k := by
    show (iZ (s : Nat)).toBitVec.sshiftRight ((iZ (k : Nat) &&& 31).toBitVec.smod 32).toNat = _
    rw [hk2 k (by omega), e1, BitVec.sshiftRight_eq_of_msb_false, BitVec.toNat_ofNat, Nat.mod_eq_of_lt (by omega)]
    rw [BitVec.msb_eq_false_iff_two_mul_lt, BitVec.toNat_ofNat, Nat.mod_eq_of_lt (by omega)]
    omega
  refine Int32.toBitVec_inj.mp ?_
  show (iZ (s : Nat) >>> (iZ (k : Nat) &&& 31)).toBitVec &&& (iZ 1).toBitVec = BitVec.ofInt 32 ((bt s k : Nat) : Int)
  rw [e2, BitVec.ofInt_natCast]
  refine BitVec.eq_of_toNat_eq ?_
  rw [BitVec.toNat_and, BitVec.toNat_ushiftRight, BitVec.toNat_ofNat, BitVec.toNat_ofNat, Nat.mod_eq_of_lt (show s < 2 ^ 32 by omega), Nat.shiftRight_eq_div_pow]
  show s / 2 ^ k &&& 1 = _
  rw [Nat.and_one_is_mod]
  have := bt_lt s k
  rw [Nat.mod_eq_of_lt (show bt s k < 2 ^ 32 by omega)]
  rfl
theorem prd_dvd (f : Nat → Int) : ∀ {k i : Nat}, i < k → f i ∣ prd f k
  | 0, _, h => absurd h (Nat.not_lt_zero _)
  | k + 1, i, h => by
    unfold prd
    by_cases q : i = k
    · subst q; exact Int.dvd_mul_left _ _
    · exact Int.dvd_mul_of_dvd_left (prd_dvd f (by omega))
theorem sumTo_cm (c : Int) (f : Nat → Int) : ∀ n, c * sumTo f n = sumTo (fun i => c * f i) n
  | 0 => Int.mul_zero c
  | n + 1 => by
    unfold sumTo
    rw [Int.mul_add, sumTo_cm c f n]
theorem cs_dot {z : Nat → Nat → Int} {n s : Nat} {w p : Nat → Int} (hz : smR z n) (hn : n ≤ 4) (hs : s ≤ al n) (hp : ∀ i, i < n → 2 * z i 4 = p i * z i i) : 2 * csZ z w s n = cbZ z s n * (dot s p - 2 * w s) := by
  rw [← dot_n hn hs p]
  have e : ∀ i, i < n → 2 * csF z s n i = cbZ z s n * ((bt s i : Int) * p i) := by
    intro i hi
    unfold csF
    by_cases q : bt s i = 1
    · rw [if_pos q, q]
      have hd : z i i ∣ cbZ z s n := by
        have := prd_dvd (cbF z s) hi
        unfold cbF at this
        rw [if_pos q] at this
        exact this
      have h2 := Int.mul_tdiv_cancel' hd
      have h3 := hp i hi
      generalize (cbZ z s n).tdiv (z i i) = y at *
      grind
    · have : bt s i = 0 := by have := bt_01 s i; omega
      rw [if_neg q, this]
      simp
  have e2 : 2 * sumTo (csF z s n) n = cbZ z s n * sumTo (fun k => (bt s k : Int) * p k) n := by
    rw [sumTo_cm, sumTo_cm]
    exact sumTo_congr e
  unfold csZ
  generalize sumTo (csF z s n) n = y at *
  grind
theorem allB_congr {P R : Nat → Bool} : ∀ {e : Nat}, (∀ k, k < e → P k = R k) → allB P e = allB R e
  | 0, _ => rfl
  | e + 1, h => by
    show (allB P e && P e) = (allB R e && R e)
    rw [allB_congr (fun k hk => h k (by omega)), h e (by omega)]
theorem cor_cB {z : Nat → Nat → Int} {n : Nat} {w p : Nat → Int} (hz : smR z n) (hn : n ≤ 4) (hp : ∀ i, i < n → 2 * z i 4 = p i * z i i) : allB (corB z w n) (al n) = cB n w p := by
  refine allB_congr fun s hs => ?_
  unfold corB
  refine decide_eq_decide.mpr (or_congr Iff.rfl ?_)
  have e := cs_dot (w := w) hz hn (show s ≤ al n by omega) hp
  have hc := cb3 hz hn s
  constructor
  · intro h
    have h1 : 0 ≤ cbZ z s n * (dot s p - 2 * w s) := by omega
    have := Int.nonneg_of_mul_nonneg_right h1 (by omega)
    omega
  · intro h
    have := Int.mul_nonneg (show 0 ≤ cbZ z s n by omega) (show 0 ≤ dot s p - 2 * w s by omega)
    omega
/-- rows of sets laid into an empty matrix -/
def rz (z : Nat → Nat → Int) (n : Nat) (w : Nat → Int) (S : List Nat) : Nat → Nat → Int := fun r => if r < S.length then rowF n (S.getD r 0) w (z r) else z r
theorem rz_nil (z : Nat → Nat → Int) (n : Nat) (w : Nat → Int) : rz z n w [] = z := by
  funext r
  unfold rz
  rw [if_neg (by simp)]
theorem rz_s (z : Nat → Nat → Int) (n : Nat) (w : Nat → Int) (S : List Nat) (s : Nat) : set1 (rz z n w S) S.length (rowF n s w (rz z n w S S.length)) = rz z n w (S ++ [s]) := by
  funext r
  unfold set1 rz
  rw [if_neg (Nat.lt_irrefl _)]
  by_cases q : r = S.length
  · subst q
    rw [if_pos rfl, if_pos (by simp)]
    congr 1
    rw [List.getD_eq_getElem?_getD, List.getElem?_append_right (Nat.le_refl _), Nat.sub_self]
    rfl
  · rw [if_neg q]
    by_cases q2 : r < S.length
    · rw [if_pos q2, if_pos (by rw [List.length_append]; omega)]
      congr 1
      rw [List.getD_eq_getElem?_getD, List.getD_eq_getElem?_getD, List.getElem?_append_left q2]
    · rw [if_neg q2, if_neg (by rw [List.length_append, List.length_singleton]; omega)]
theorem clr_0 (z : Nat → Nat → Int) {r c : Nat} (hr : r < 4) (hc : c < 5) : clrN z 20 r c = 0 := if_pos ⟨by omega, hc⟩
theorem row_at {n s c : Nat} {w : Nat → Int} {f : Nat → Int} (hn : n ≤ 4) (hc : c < 4) (hf : f c = 0) (hs : s ≤ al n) : rowF n s w f c = (bt s c : Int) := by
  unfold rowF
  rw [set1_n _ _ (by omega)]
  unfold mix
  split
  · rfl
  · rw [hf, bt_hi n hn s hs c hc (by omega)]; rfl
theorem row_4 (n s : Nat) (w f : Nat → Int) : rowF n s w f 4 = w s := set1_e _ _ _
theorem bt_ex : ∀ s, s < 16 → 1 ≤ s → bt s 0 = 1 ∨ bt s 1 = 1 ∨ bt s 2 = 1 ∨ bt s 3 = 1 := by decide +kernel
theorem row_pr {n s : Nat} {w : Nat → Int} {f : Nat → Int} (hn : n ≤ 4) (hf : ∀ c, c < 5 → f c = 0) (h1 : 1 ≤ s) (hs : s ≤ al n) (hw : bd 16000 (w s)) : prim (rowF n s w f) ∧ bdR 1 (rowF n s w f) ∧ ∀ c, n ≤ c → c < 4 → rowF n s w f c = 0 := by
  have ha : ∀ c, c < 4 → rowF n s w f c = (bt s c : Int) := fun c hc => row_at hn hc (hf c (by omega)) hs
  refine ⟨Or.inl ?_, ⟨fun c hc => ?_, ?_⟩, fun c h1 h2 => ?_⟩
  · have : ∃ c, c < 4 ∧ bt s c = 1 := by
      rcases bt_ex s (by have := al_lt hn; omega) h1 with q | q | q | q
      · exact ⟨0, by decide, q⟩
      · exact ⟨1, by decide, q⟩
      · exact ⟨2, by decide, q⟩
      · exact ⟨3, by decide, q⟩
    obtain ⟨c, hc, hb⟩ := this
    have hd := gR_d (f := rowF n s w f) (k := 5) (c := c) (by omega)
    rw [ha c hc, hb] at hd
    have := Int.natCast_dvd_natCast.mp hd
    exact Nat.dvd_one.mp this
  · rw [ha c hc]
    have := bt_lt s c
    unfold bd; omega
  · rw [row_4]
    unfold bd at *; omega
  · rw [ha c h2, bt_hi n hn s hs c h2 h1]; rfl
theorem rz_ev {z : Nat → Nat → Int} {n : Nat} {w : Nat → Int} {S : List Nat} (hn : n ≤ 4) (hz : ∀ r c, r < 4 → c < 5 → z r c = 0) {r : Nat} (hr : r < S.length) (hr4 : r < 4) (hs : S.getD r 0 ≤ al n) (x : Nat → Int) (t : Int) : ev (rz z n w S) n r x t = dot (S.getD r 0) x - w (S.getD r 0) * t := by
  unfold ev rz
  rw [if_pos hr, row_4, ← dot_n hn hs x]
  congr 1
  refine sumTo_congr fun k hk => ?_
  rw [row_at hn (by omega) (hz r k hr4 (by omega)) hs]
theorem rz_sol {z : Nat → Nat → Int} {n : Nat} {w : Nat → Int} {S : List Nat} (hn : n ≤ 4) (hz : ∀ r c, r < 4 → c < 5 → z r c = 0) (hl : S.length = n) (hs : ∀ s, s ∈ S → s ≤ al n) (x : Nat → Int) (t : Int) : Sol (rz z n w S) n n x t ↔ ∀ s, s ∈ S → dot s x = w s * t := by
  have g : ∀ r, r < S.length → S.getD r 0 ∈ S := fun r hr => by
    rw [List.getD_eq_getElem?_getD, List.getElem?_eq_getElem hr]
    exact List.getElem_mem hr
  constructor
  · intro h s hm
    obtain ⟨r, hr, e⟩ := List.mem_iff_getElem.mp hm
    have h1 := h r (by omega)
    have e2 : S.getD r 0 = s := by
      rw [List.getD_eq_getElem?_getD, List.getElem?_eq_getElem hr]
      exact e
    rw [rz_ev hn hz hr (by omega) (hs _ (g r hr)), e2] at h1
    omega
  · intro h r hr
    have hr2 : r < S.length := by omega
    rw [rz_ev hn hz hr2 (by omega) (hs _ (g r hr2)), h _ (g r hr2)]
    omega
theorem exZ (g : Nat → Int64) : ∃ z, zM z = g := by
  refine ⟨fun r c => (g (5 * r + c)).toInt, ?_⟩
  funext j
  unfold zM
  show lZ (g (5 * (j / 5) + j % 5)).toInt = _
  rw [show 5 * (j / 5) + j % 5 = j by omega]
  exact Int64.ofInt_toInt _
theorem mm_id {h : mH} {z : Nat → Nat → Int} (e : h[18]? = some (aL 20 (zM z))) : mm h z = h := by
  unfold mm
  obtain ⟨h1, h2⟩ := List.getElem?_eq_some_iff.mp e
  rw [← h2]
  exact List.set_getElem_self h1
theorem MV.eqx {h h1 : mH} {i n : Nat} {w : Nat → Int} {K : List Nat} (hv : MV h i n w) {v cor : Int32} {bA bB : Int64} {rw_ bo : Int32} (e : h1[14]? = some (oM v cor bA bB rw_ bo)) (hx : Eqx K h h1) (h16 : 16 ∉ K) (h17 : 17 ∉ K) : MV h1 i n w := by
  obtain ⟨hi, hn, hw, _, _, _, _, _, _, sz, g, e1, e2, e3, hs, hg⟩ := hv
  exact ⟨hi, hn, hw, v, cor, bA, bB, rw_, bo, sz, g, e, (hx.2 16 h16).trans e2, (hx.2 17 h17).trans e3, hs, hg⟩
theorem chs_mono (ch : Nat) : ∀ {k m : Nat}, k ≤ m → (chs ch k).length ≤ (chs ch m).length := by
  intro k m h
  induction h with
  | refl => exact Nat.le_refl _
  | step h ih =>
    refine Nat.le_trans ih ?_
    show _ ≤ (if bt ch _ = 1 then chs ch _ ++ [_] else chs ch _).length
    split
    · rw [List.length_append]; omega
    · exact Nat.le_refl _
