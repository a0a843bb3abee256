/-! ===== the reference: prove, write, check ===== -/

def prfN (n : Nat) : Nat := al n + 2 * n + (if n = 1 then 0 else 2)
def prfF (n : Nat) (w : Nat → Int) (k : Nat) : Int := if k < al n then w (k + 1) else if k < al n + 2 * n then lowZ (turnsZ w n ((k - al n) / 2)) (fac n) ((k - al n) % 2) else lowZ (lExc w n (barC n w)) (lTot (barC n w)) (k - al n - 2 * n)
theorem prfN_b : ∀ n, n ≤ 4 → al n + 2 * n + 2 ≤ 25 ∧ prfN n ≤ 25 := by decide +kernel
theorem turns_b {w : Nat → Int} {n p : Nat} (hw : ∀ s, bd 16000 (w s)) (hn : n ≤ 4) : bd 4611686018427387903 (turnsZ w n p) := by
  have := getsZ_b hw (way := 0) (p := p) hn
  unfold getsZ at this
  rw [if_pos rfl] at this
  exact bd_mono (by decide) this
theorem fac_4 : ∀ n, n ≤ 4 → 1 ≤ fac n ∧ fac n ≤ 24 := by decide +kernel
section MQ
variable {h h' : mH} {Q : Option Value → mH → Prop} {i n c r : Nat} {w : Nat → Int} {kd sz : Nat → Nat} {W : Nat → Nat → Int} {a p s y k q : Int} {f : Nat → Int64}
theorem upd_e (f : Nat → Int64) (k : Nat) (x : Int64) : vp_updL f k x k = x := if_pos rfl
theorem upd_n (f : Nat → Int64) {k j : Nat} (x : Int64) (hj : j ≠ k) : vp_updL f k x j = f j := if_neg hj
theorem c195 (hv : MV h i n w) {v cor : Int32} {bA bB : Int64} {rw_ bo : Int32} (e1 : h[14]? = some (oM v cor bA bB rw_ bo)) (hx : RX h) (hq : ∀ h' pf, AskS h h' → h'[24]? = some (aL 32 pf) → (∀ k, k < prfN n → pf k = lZ (prfF n w k)) → Q (some (.int (iZ (prfN n)))) h') : mCt mCd 195 [.ref 14, .int (iZ i)] h Q := by
  have hi := hv.1
  have hn1 := hv.2.1.1
  have hn4 := hv.2.1.2
  have hwb := hv.2.2.1
  have hal := al_lt hn4
  have hpn := (prfN_b n hn4).1
  have hfc := fac_4 n hn4
  have hv0 := hv
  obtain ⟨_, _, _, _, _, _, _, _, _, sz, _, _, e16, _, hsz, _⟩ := hv
  obtain ⟨g0, fa0, fu0, wa0, wb0, pf0, x1, x2, x3, x4, x5, x6⟩ := hx
  have hin : ¬ (iZ i < 0 ∨ 11 ≤ (iZ i).toNatClampNeg) := iZ_in (by omega) (by omega) (by decide)
  have tn : (iZ i).toNatClampNeg = i := by rw [iZ_nat (by omega) (by omega)]; omega
  have inK : ∀ k : Nat, k < 32 → ¬ (iZ k < 0 ∨ 32 ≤ (iZ k).toNatClampNeg) := fun k hk => iZ_in (by omega) (by omega) (by decide)
  have tnK : ∀ k : Nat, k < 32 → (iZ k).toNatClampNeg = k := fun k hk => by rw [iZ_nat (by omega) (by omega)]; omega
  have st : ∀ {h1 : mH} {pf : Nat → Int64}, Eqx [24] h h1 → h1[24]? = some (aL 32 pf) → RX h1 := fun {h1 pf} hx1 g1 => ⟨g0, fa0, fu0, wa0, wb0, pf, (hx1.2 18 (by decide)).trans x1, (hx1.2 19 (by decide)).trans x2, (hx1.2 20 (by decide)).trans x3, (hx1.2 21 (by decide)).trans x4, (hx1.2 22 (by decide)).trans x5, g1⟩
  have ask : ∀ {h1 : mH} {pf : Nat → Int64}, Eqx [24] h h1 → h1[24]? = some (aL 32 pf) → AskS h h1 := fun {h1 pf} hx1 g1 => ⟨hx1.mo (by decide), st hx1 g1, fun v' cor' bA' bB' rw' bo' e => ⟨cor', bA', bB', (hx1.2 14 (by decide)).trans e⟩⟩
  -- the turns
  have l2 : ∀ p : Nat, p ≤ n → ∀ h1 pf, Eqx [24] h h1 → h1[24]? = some (aL 32 pf) → (∀ k, k < al n + 2 * p → pf k = lZ (prfF n w k)) → mWp mCd 195 (36, [some (.ref 14), some (.int (iZ i)), some (.int (iZ ((al n + 2 * p : Nat) : Int))), some (.int (iZ p))], [], h1, 0, 0) Q := by
    refine lp_up n ?_ ?_
    · intro h1 pf hx1 g1 hf
      have d1 := (hx1.2 14 (by decide)).trans e1
      have d16 := (hx1.2 16 (by decide)).trans e16
      refine b195_36 d1 d16 hin (fun _ => b195_111 d1 d16 hin (fun q => b195_123 d1 ?_) (fun q => b195_121 ?_)) (fun q => ?_)
      · rw [tn, hsz, iZ_eq (by unfold i32; omega) (by unfold i32; omega)] at q
        refine c186 (by omega) (hv0.eqx d1 hx1 (by decide) (by decide)) d1 (st hx1 g1) (fun h2 ask2 hx2 hb => ?_)
        obtain ⟨x, y, fa, fb, d1', d2, d3, _, d5⟩ := hb
        obtain ⟨p1, p2, _⟩ := d5 (lean_n hn4 (by omega))
        obtain ⟨g9, fa9, fu9, wa9, wb9, pf9, y1, y2, y3, y4, y5, y6⟩ := ask2.2.1
        have g2 : h2[24]? = some (aL 32 pf) := (hx2.2 24 (by decide)).trans g1
        have hN : prfN n = al n + 2 * n + 2 := by unfold prfN; rw [if_neg (by omega)]
        have t1 : iZ ((al n + 2 * n : Nat) : Int) + iZ 1 = iZ ((al n + 2 * n + 1 : Nat) : Int) := by rw [iZ_add]; rfl
        refine b195_128 d1' g2 (inK _ (by omega)) ?_ ?_
        · rw [t1]; exact inK _ (by omega)
        · rw [t1, tnK _ (by omega), tnK _ (by omega), iZ_add]
          have := hq ((h2.set 24 (aL 32 (vp_updL pf (al n + 2 * n) (lZ x)))).set 24 (aL 32 (vp_updL (vp_updL pf (al n + 2 * n) (lZ x)) (al n + 2 * n + 1) (lZ y)))) _ ?_ (mGs (mGs g2)) ?_
          · rw [hN] at this
            exact this
          · refine (ask hx1 g1).tr ⟨(ask2.1.st _ (by decide)).st _ (by decide), ⟨g9, fa9, fu9, wa9, wb9, _, mGn (by decide) (mGn (by decide) y1), mGn (by decide) (mGn (by decide) y2), mGn (by decide) (mGn (by decide) y3), mGn (by decide) (mGn (by decide) y4), mGn (by decide) (mGn (by decide) y5), mGs (mGs y6)⟩, fun v' cor' bA' bB' rw' bo' e => ?_⟩
            obtain ⟨c9, b9, b10, e9⟩ := ask2.2.2 _ _ _ _ _ _ e
            exact ⟨c9, b9, b10, mGn (by decide) (mGn (by decide) e9)⟩
          · intro k hk
            rw [hN] at hk
            by_cases k1 : k = al n + 2 * n + 1
            · subst k1
              rw [upd_e, p2]
              unfold prfF barC
              rw [if_neg (by omega), if_neg (by omega), show al n + 2 * n + 1 - al n - 2 * n = 1 by omega]
            · rw [upd_n _ _ k1]
              by_cases k2 : k = al n + 2 * n
              · subst k2
                rw [upd_e, p1]
                unfold prfF barC
                rw [if_neg (by omega), if_neg (by omega), show al n + 2 * n - al n - 2 * n = 0 by omega]
              · rw [upd_n _ _ k2]
                exact hf k (by omega)
      · rw [tn, hsz, iZ_eq (by unfold i32; omega) (by unfold i32; omega), Decidable.not_not] at q
        have hn : n = 1 := by omega
        have := hq h1 pf (ask hx1 g1) g1 (by unfold prfN; rw [if_pos hn]; exact hf)
        unfold prfN at this
        rw [if_pos hn] at this
        exact this
      · rw [tn, hsz] at q
        exact absurd (Int32.le_refl _) q
    · intro p hp ih h1 pf hx1 g1 hf
      have d1 := (hx1.2 14 (by decide)).trans e1
      have d16 := (hx1.2 16 (by decide)).trans e16
      have hv1 := hv0.eqx d1 hx1 (by decide) (by decide)
      have bt := turns_b (p := p) hwb hn4
      have bf : bd 4611686018427387903 (fac n) := ⟨by omega, by omega⟩
      have t1 : iZ ((al n + 2 * p : Nat) : Int) + iZ 1 = iZ ((al n + 2 * p + 1 : Nat) : Int) := by rw [iZ_add]; rfl
      refine b195_36 d1 d16 hin (fun q => ?_) (fun _ => b195_46 d1 (c166 hv1 hp (b195_58 d1 d16 hin ?_)))
      · rw [tn, hsz, iZ_le (by unfold i32; omega) (by unfold i32; omega)] at q
        omega
      · rw [tn, hsz]
        refine c165 hn4 (b195_68 d1 (c161 d1 (k := 0) (by decide) bt bf (by omega) (b195_72 g1 (inK _ (by omega)) d1 ?_)))
        rw [tnK _ (by omega), t1]
        have hx2 : Eqx [24] h (h1.set 24 (aL 32 (vp_updL pf (al n + 2 * p) (lZ (lowZ (turnsZ w n p) (fac n) 0))))) := hx1.st _ (by simp)
        have d1' := mGn (b := 24) (y := aL 32 (vp_updL pf (al n + 2 * p) (lZ (lowZ (turnsZ w n p) (fac n) 0)))) (show 24 ≠ 14 by decide) d1
        have d16' := mGn (b := 24) (y := aL 32 (vp_updL pf (al n + 2 * p) (lZ (lowZ (turnsZ w n p) (fac n) 0)))) (show 24 ≠ 16 by decide) d16
        refine c166 (hv0.eqx d1' hx2 (by decide) (by decide)) hp (b195_87 d1' d16' hin ?_)
        rw [tn, hsz]
        refine c165 hn4 (b195_97 d1' (c161 d1' (k := 1) (by decide) bt bf (by omega) (b195_101 (mGs g1) (inK _ (by omega)) ?_)))
        rw [tnK _ (by omega), iZ_add, iZ_add]
        refine ih _ _ (hx2.st _ (by simp)) (mGs (mGs g1)) (fun k hk => ?_)
        by_cases k1 : k = al n + 2 * p + 1
        · subst k1
          rw [upd_e]
          unfold prfF
          rw [if_neg (by omega), if_pos (by omega), show (al n + 2 * p + 1 - al n) / 2 = p by omega, show (al n + 2 * p + 1 - al n) % 2 = 1 by omega]
        · rw [upd_n _ _ k1]
          by_cases k2 : k = al n + 2 * p
          · subst k2
            rw [upd_e]
            unfold prfF
            rw [if_neg (by omega), if_pos (by omega), show (al n + 2 * p - al n) / 2 = p by omega, show (al n + 2 * p - al n) % 2 = 0 by omega]
          · rw [upd_n _ _ k2]
            exact hf k (by omega)
  -- the worths
  have l1 : ∀ s : Nat, s ≤ al n → ∀ h1 pf, Eqx [24] h h1 → h1[24]? = some (aL 32 pf) → (∀ k, k < s → pf k = lZ (prfF n w k)) → mWp mCd 195 (4, [some (.ref 14), some (.int (iZ i)), some (.int (iZ s)), some (.int (iZ ((s + 1 : Nat) : Int)))], [], h1, 0, 0) Q := by
    refine lp_up _ ?_ ?_
    · intro h1 pf hx1 g1 hf
      have d1 := (hx1.2 14 (by decide)).trans e1
      refine b195_4 d1 (c139 (hv0.eqx d1 hx1 (by decide) (by decide)) (b195_10 (fun _ => b195_34 (l2 0 (Nat.zero_le _) h1 pf hx1 g1 hf)) (fun q => ?_)))
      rw [iZ_lt (by unfold i32; omega) (by unfold i32; omega)] at q
      omega
    · intro s hs ih h1 pf hx1 g1 hf
      have d1 := (hx1.2 14 (by decide)).trans e1
      have hv1 := hv0.eqx d1 hx1 (by decide) (by decide)
      refine b195_4 d1 (c139 hv1 (b195_10 (fun q => ?_) (fun _ => b195_13 d1 (c144 hv1 (by omega) (b195_24 g1 (inK _ (by omega)) ?_)))))
      · rw [iZ_lt (by unfold i32; omega) (by unfold i32; omega)] at q
        omega
      · rw [tnK _ (by omega), iZ_add, iZ_add]
        refine ih _ _ (hx1.st _ (by simp)) (mGs g1) (fun k hk => ?_)
        by_cases k1 : k = s
        · subst k1
          rw [upd_e]
          unfold prfF
          rw [if_pos (by omega)]
        · rw [upd_n _ _ k1]
          exact hf k (by omega)
  exact en195 (b195_0 (l1 0 (Nat.zero_le _) h pf0 (Eqx.rf _ _) x6 (fun k hk => absurd hk (Nat.not_lt_zero _))))
end MQ
