/-! ===== the reference: findBar, its matrix ===== -/
theorem chs_srt (ch : Nat) : ∀ N, (chs ch N).Pairwise (fun a b => a < b)
  | 0 => List.Pairwise.nil
  | N + 1 => by
    have ih := chs_srt ch N
    have e : chs ch (N + 1) = if bt ch N = 1 then chs ch N ++ [N + 1] else chs ch N := rfl
    rw [e]
    split
    · rw [List.pairwise_append]
      refine ⟨ih, List.pairwise_singleton _ _, fun a ha b hb => ?_⟩
      have := chs_b ch N a ha
      have := List.mem_singleton.mp hb
      omega
    · exact ih
theorem bar_S {n : Nat} (h2 : 2 ≤ n) (h4 : n ≤ 4) {S : List Nat} (hs : S.Pairwise (fun a b => a < b)) (hb : ∀ s, s ∈ S → 1 ≤ s ∧ s ≤ al n - 1) (h1 : 1 ≤ S.length) (hn : S.length ≤ n) : barOK n S = true := by
  have e4 : al 4 - 1 = 14 := rfl
  have e3 : al 3 - 1 = 6 := rfl
  have e2 : al 2 - 1 = 2 := rfl
  rcases S with _ | ⟨a, _ | ⟨b, _ | ⟨c, _ | ⟨d, _ | ⟨e, S⟩⟩⟩⟩⟩
  · simp at h1
  · have ha := hb a (by simp)
    have : n = 2 ∨ n = 3 ∨ n = 4 := by omega
    rcases this with q | q | q <;> subst q
    · exact bar21 a (by omega) ha.1
    · exact bar31 a (by omega) ha.1
    · exact bar41 a (by omega) ha.1
  · have ha := hb a (by simp)
    have hbb := hb b (by simp)
    have hab : a < b := by simpa using hs
    have : n = 2 ∨ n = 3 ∨ n = 4 := by omega
    rcases this with q | q | q <;> subst q
    · exact bar22 b (by omega) a hab ha.1
    · exact bar32 b (by omega) a hab ha.1
    · exact bar42 b (by omega) a hab ha.1
  · have ha := hb a (by simp)
    have hcc := hb c (by simp)
    simp only [List.length_cons, List.length_nil] at hn
    have hp : (a < b ∧ a < c) ∧ b < c := by simpa using hs
    have : n = 3 ∨ n = 4 := by omega
    rcases this with q | q <;> subst q
    · exact bar33 c (by omega) b hp.2 a hp.1.1 ha.1
    · exact bar43 c (by omega) b hp.2 a hp.1.1 ha.1
  · have ha := hb a (by simp)
    have hdd := hb d (by simp)
    simp only [List.length_cons, List.length_nil] at hn
    have hp : (a < b ∧ a < c ∧ a < d) ∧ (b < c ∧ b < d) ∧ c < d := by simpa using hs
    have : n = 4 := by omega
    subst this
    exact bar44 d (by omega) c hp.2.2 b hp.2.1.1 a hp.1.1 ha.1
  · simp only [List.length_cons] at hn
    omega
/-- columns of sets laid into an empty matrix -/
def cz (z : Nat → Nat → Int) (n : Nat) (S : List Nat) : Nat → Nat → Int := fun r c => if r < n ∧ c < S.length then (bt (S.getD c 0) r : Int) else z r c
def czp (z : Nat → Nat → Int) (n : Nat) (S : List Nat) (s i : Nat) : Nat → Nat → Int := fun r c => if c = S.length ∧ r < i then (bt s r : Int) else cz z n S r c
def czr (z : Nat → Nat → Int) (n : Nat) (S : List Nat) (i : Nat) : Nat → Nat → Int := fun r c => if c = 4 ∧ r < i then 1 else cz z n S r c
theorem cz_nil (z : Nat → Nat → Int) (n : Nat) : cz z n [] = z := by
  funext r c
  unfold cz
  rw [if_neg (by simp)]
theorem czp_0 (z : Nat → Nat → Int) (n : Nat) (S : List Nat) (s : Nat) : czp z n S s 0 = cz z n S := by
  funext r c
  unfold czp
  rw [if_neg (by omega)]
theorem czr_0 (z : Nat → Nat → Int) (n : Nat) (S : List Nat) : czr z n S 0 = cz z n S := by
  funext r c
  unfold czr
  rw [if_neg (by omega)]
theorem czp_n (z : Nat → Nat → Int) (n : Nat) (S : List Nat) (s : Nat) : czp z n S s n = cz z n (S ++ [s]) := by
  funext r c
  unfold czp cz
  rw [List.length_append, List.length_singleton]
  by_cases q : c = S.length ∧ r < n
  · rw [if_pos q, if_pos (by omega)]
    obtain ⟨rfl, _⟩ := q
    rw [List.getD_eq_getElem?_getD, List.getElem?_append_right (Nat.le_refl _), Nat.sub_self]
    rfl
  · rw [if_neg q]
    by_cases q2 : r < n ∧ c < S.length
    · rw [if_pos q2, if_pos (by omega), List.getD_eq_getElem?_getD, List.getD_eq_getElem?_getD, List.getElem?_append_left q2.2]
    · rw [if_neg q2, if_neg (by omega)]
theorem czp_s (z : Nat → Nat → Int) (n : Nat) (S : List Nat) (s i : Nat) : set1 (czp z n S s i) i (set1 (czp z n S s i i) S.length (bt s i : Int)) = czp z n S s (i + 1) := by
  funext r c
  by_cases q : r = i
  · subst q
    rw [set1_e]
    by_cases q2 : c = S.length
    · subst q2
      rw [set1_e]
      unfold czp
      rw [if_pos (by omega)]
    · rw [set1_n _ _ q2]
      unfold czp
      rw [if_neg (by omega), if_neg (by omega)]
  · rw [set1_n _ _ q]
    unfold czp
    by_cases q2 : c = S.length ∧ r < i
    · rw [if_pos q2, if_pos (by omega)]
    · rw [if_neg q2, if_neg (by omega)]
theorem czr_s (z : Nat → Nat → Int) (n : Nat) (S : List Nat) (i : Nat) : set1 (czr z n S i) i (set1 (czr z n S i i) 4 1) = czr z n S (i + 1) := by
  funext r c
  by_cases q : r = i
  · subst q
    rw [set1_e]
    by_cases q2 : c = 4
    · subst q2
      rw [set1_e]
      unfold czr
      rw [if_pos (by omega)]
    · rw [set1_n _ _ q2]
      unfold czr
      rw [if_neg (by omega), if_neg (by omega)]
  · rw [set1_n _ _ q]
    unfold czr
    by_cases q2 : c = 4 ∧ r < i
    · rw [if_pos q2, if_pos (by omega)]
    · rw [if_neg q2, if_neg (by omega)]
theorem czr_row {z : Nat → Nat → Int} {n : Nat} {S : List Nat} (hn : n ≤ 4) (hl : S.length ≤ n) (hz : ∀ r c, r < 4 → c < 5 → z r c = 0) {r : Nat} (hr : r < n) : prim (czr z n S n r) ∧ bdR 1 (czr z n S n r) ∧ ∀ c, S.length ≤ c → c < 4 → czr z n S n r c = 0 := by
  have a4 : czr z n S n r 4 = 1 := by unfold czr; rw [if_pos (by omega)]
  have ac : ∀ c, c < 4 → czr z n S n r c = if c < S.length then (bt (S.getD c 0) r : Int) else 0 := by
    intro c hc
    unfold czr cz
    rw [if_neg (by omega)]
    by_cases q : c < S.length
    · rw [if_pos q, if_pos (by omega)]
    · rw [if_neg q, if_neg (by omega), hz r c (by omega) (by omega)]
  refine ⟨Or.inl ?_, ⟨fun c hc => ?_, ?_⟩, fun c h1 h2 => ?_⟩
  · have hd := gR_d (f := czr z n S n r) (k := 5) (c := 4) (by omega)
    rw [a4] at hd
    exact Nat.dvd_one.mp (Int.natCast_dvd_natCast.mp hd)
  · rw [ac c hc]
    have := bt_lt (S.getD c 0) r
    unfold bd
    split <;> omega
  · rw [a4]; unfold bd; omega
  · rw [ac c h2, if_neg (by omega)]
theorem czr_sol {z : Nat → Nat → Int} {n : Nat} {S : List Nat} (hn : n ≤ 4) (hl : S.length ≤ n) (x : Nat → Int) (t : Int) : Sol (czr z n S n) S.length n x t ↔ ∀ i, i < n → csum S x i = t := by
  have e : ∀ r, r < n → ev (czr z n S n) S.length r x t = csum S x r - t := by
    intro r hr
    unfold ev
    rw [show czr z n S n r 4 = 1 from by unfold czr; rw [if_pos (by omega)], ← csum_s (by omega) x r, Int.one_mul]
    congr 1
    refine sumTo_congr fun k hk => ?_
    unfold czr cz
    rw [if_neg (by omega), if_pos (by omega)]
  constructor
  · intro h i hi
    have := h i hi
    rw [e i hi] at this
    omega
  · intro h r hr
    rw [e r hr, h r hr]
    omega
section MF
variable {H : mH} {Q : Option Value → mH → Prop} {i n : Nat} {w : Nat → Int} {v cor : Int32} {bA bB : Int64} {rw_ bo : Int32} {z : Nat → Nat → Int} {ch : Nat} {x18 : mE}
theorem l186c (hn4 : n ≤ 4) (hch : ch < 16384) {H1 : mH} (hk : mWp mCd 186 (61, [some (.ref 14), some (.int (iZ i)), some (.int (iZ n)), some (.int (iZ ((al n - 1 : Nat) : Int))), some (.int (iZ ch)), some (.int (iZ (chs ch (al n - 1)).length)), none, none, none], [], H1, 0, 0) Q) : ∀ k : Nat, k ≤ al n - 1 → mWp mCd 186 (37, [some (.ref 14), some (.int (iZ i)), some (.int (iZ n)), some (.int (iZ ((al n - 1 : Nat) : Int))), some (.int (iZ ch)), some (.int (iZ (chs ch k).length)), some (.int (iZ k)), none, none], [], H1, 0, 0) Q := by
  have ha := al_n1 n hn4
  refine lp_up _ ?_ ?_
  · exact b186_37 (fun _ => hk) (fun q => absurd (Int32.le_refl _) q)
  · intro k hkk ih
    refine b186_37 (fun q => ?_) (fun _ => b186_43 ?_)
    · rw [iZ_le (by unfold i32; omega) (by unfold i32; omega)] at q
      omega
    · rw [iZ_bitN (by omega) (by omega), iZ_add, iZ_add]
      have e : ((chs ch k).length : Int) + (bt ch k : Nat) = (chs ch (k + 1)).length := by
        show _ = (((if bt ch k = 1 then chs ch k ++ [k + 1] else chs ch k).length : Nat) : Int)
        have := bt_01 ch k
        split
        · next q => rw [q, List.length_append]; rfl
        · next q => rw [show bt ch k = 0 by omega]; rfl
      rw [e]
      exact ih
theorem l186m (hn4 : n ≤ 4) (hch : ch < 16384) (hl : (chs ch (al n - 1)).length ≤ n) (e1 : H[14]? = some (oM v cor bA bB rw_ bo)) (e2 : H[18]? = some x18) (hk : mWp mCd 186 (145, [some (.ref 14), some (.int (iZ i)), some (.int (iZ n)), some (.int (iZ ((al n - 1 : Nat) : Int))), some (.int (iZ ch)), some (.int (iZ (chs ch (al n - 1)).length)), none, none, none], [], mm H (cz z n (chs ch (al n - 1))), 0, 0) Q) : ∀ k : Nat, k ≤ al n - 1 → mWp mCd 186 (80, [some (.ref 14), some (.int (iZ i)), some (.int (iZ n)), some (.int (iZ ((al n - 1 : Nat) : Int))), some (.int (iZ ch)), some (.int (iZ (chs ch (al n - 1)).length)), some (.int (iZ (chs ch k).length)), some (.int (iZ k)), none], [], mm H (cz z n (chs ch k)), 0, 0) Q := by
  have ha := al_n1 n hn4
  refine lp_up _ ?_ ?_
  · exact b186_80 (fun _ => hk) (fun q => absurd (Int32.le_refl _) q)
  · intro k hkk ih
    have hle2 := chs_mono ch (show k + 1 ≤ al n - 1 by omega)
    have es : chs ch (k + 1) = if bt ch k = 1 then chs ch k ++ [k + 1] else chs ch k := rfl
    refine b186_80 (fun q => ?_) (fun _ => b186_86 (fun q => b186_99 ?_) (fun q => b186_96 (b186_139 ?_)))
    · rw [iZ_le (by unfold i32; omega) (by unfold i32; omega)] at q
      omega
    · rw [iZ_bitN (by omega) (by omega)] at q
      have hb : bt ch k = 1 := by
        have := bt_01 ch k
        rcases this with y | y
        · rw [y] at q; exact absurd rfl q
        · exact y
      rw [if_pos hb] at es
      rw [es, List.length_append, List.length_singleton] at hle2
      rw [es, List.length_append, List.length_singleton] at ih
      have hcl : (chs ch k).length < 4 := by omega
      have lp : ∀ r : Nat, r ≤ n → mWp mCd 186 (102, [some (.ref 14), some (.int (iZ i)), some (.int (iZ n)), some (.int (iZ ((al n - 1 : Nat) : Int))), some (.int (iZ ch)), some (.int (iZ (chs ch (al n - 1)).length)), some (.int (iZ (chs ch k).length)), some (.int (iZ k)), some (.int (iZ r))], [], mm H (czp z n (chs ch k) (k + 1) r), 0, 0) Q := by
        refine lp_up _ ?_ ?_
        · refine b186_102 (fun _ => b186_136 (b186_139 ?_)) (fun q => absurd (Int32.le_refl _) q)
          rw [iZ_add, iZ_add, czp_n]
          exact ih
        · intro r hr ihr
          have hin : ¬ (iZ 5 * iZ r + iZ (chs ch k).length < 0 ∨ 20 ≤ (iZ 5 * iZ r + iZ (chs ch k).length).toNatClampNeg) := by
            rw [iZ_mul, iZ_add]
            exact iZ_in (by omega) (by omega) (by decide)
          have tn : (iZ 5 * iZ r + iZ (chs ch k).length).toNatClampNeg = 5 * r + (chs ch k).length := by
            rw [iZ_mul, iZ_add, iZ_nat (by omega) (by omega)]; omega
          refine b186_102 (fun q => ?_) (fun _ => b186_108 (mm_n (by decide) e1 _) (mm_18 e2 _) hin ?_)
          · rw [iZ_le (by unfold i32; omega) (by unfold i32; omega)] at q
            omega
          · rw [tn, show iZ (k : Int) + iZ 1 = iZ ((k + 1 : Nat) : Int) from by rw [iZ_add]; rfl, iZ_bitN (by omega) (by omega), iZ_l (by have := bt_lt (k + 1) r; unfold i32; omega), zM_up _ _ _ (by omega), mm_s, czp_s, iZ_add]
            exact ihr
      have := lp 0 (Nat.zero_le _)
      rw [czp_0] at this
      exact this
    · rw [iZ_bitN (by omega) (by omega)] at q
      have hb : ¬ bt ch k = 1 := by
        intro y
        rw [y] at q
        exact q (by decide)
      rw [if_neg hb] at es
      rw [es] at ih
      rw [iZ_add]
      exact ih
theorem l186r (hn4 : n ≤ 4) {S : List Nat} {x3 x4 x5 : Int32} (e1 : H[14]? = some (oM v cor bA bB rw_ bo)) (e2 : H[18]? = some x18) (hk : mWp mCd 186 (172, [some (.ref 14), some (.int (iZ i)), some (.int (iZ n)), some (.int x3), some (.int x4), some (.int x5), none, none, none], [], mm H (czr z n S n), 0, 0) Q) : ∀ r : Nat, r ≤ n → mWp mCd 186 (148, [some (.ref 14), some (.int (iZ i)), some (.int (iZ n)), some (.int x3), some (.int x4), some (.int x5), none, some (.int (iZ r)), none], [], mm H (czr z n S r), 0, 0) Q := by
  refine lp_up _ ?_ ?_
  · exact b186_148 (fun _ => hk) (fun q => absurd (Int32.le_refl _) q)
  · intro r hr ih
    have hin : ¬ (iZ 5 * iZ r + iZ 4 < 0 ∨ 20 ≤ (iZ 5 * iZ r + iZ 4).toNatClampNeg) := by
      rw [iZ_mul, iZ_add]
      exact iZ_in (by omega) (by omega) (by decide)
    have tn : (iZ 5 * iZ r + iZ 4).toNatClampNeg = 5 * r + 4 := by
      rw [iZ_mul, iZ_add, iZ_nat (by omega) (by omega)]; omega
    refine b186_148 (fun q => ?_) (fun _ => b186_154 (mm_n (by decide) e1 _) (mm_18 e2 _) hin ?_)
    · rw [iZ_le (by unfold i32; omega) (by unfold i32; omega)] at q
      omega
    · rw [tn, zM_up _ _ _ (by omega), mm_s, czr_s, iZ_add]
      exact ih
end MF
