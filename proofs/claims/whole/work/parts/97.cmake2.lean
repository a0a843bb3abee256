/-! ===== the class: ventures made and entered ===== -/

section CM
variable {h h' g : mH} {Q : Option Value → mH → Prop} {i n c a ci num : Nat} {w f : Nat → Int} {kd sz : Nat → Nat} {W : Nat → Nat → Int} {A : Nat → Nat}
theorem CX.sub (hv : CX h a ci num n w) (hx : Sub h h' a (a + 9)) : CX h' a ci num n w := by
  obtain ⟨⟨ha, hc, hn, hw, fd', f, q1, q2, hf⟩, hw0, ⟨cc, tw, g, gp, lo, hi, gi, z1, z2, z3, z4, z5, z6⟩, ⟨g2, f2⟩, fd, e1, hor⟩ := hv
  refine ⟨⟨ha, hc, hn, hw, fd', f, hx _ _ (by omega) (by omega) q1, hx _ _ (by omega) (by omega) q2, hf⟩, hw0, ⟨cc, tw, g, gp, lo, hi, gi, hx _ _ (by omega) (by omega) z1, hx _ _ (by omega) (by omega) z2, hx _ _ (by omega) (by omega) z3, hx _ _ (by omega) (by omega) z4, hx _ _ (by omega) (by omega) z5, hx _ _ (by omega) (by omega) z6⟩, ⟨g2, hx _ _ (by omega) (by omega) f2⟩, fd, hx _ _ (by omega) (by omega) e1, hor.imp id ?_⟩
  rintro ⟨tw, hr, hb, gg, d1, d2, hg⟩
  exact ⟨tw, hr, hb, gg, hx _ _ (by omega) (by omega) d1, hx _ _ (by omega) (by omega) d2, hg⟩
theorem CX.top (hv : CX h a ci num n w) : a + 9 ≤ h.length := by
  obtain ⟨_, _, ⟨cc, tw, g, gp, lo, hi, gi, z1, z2, z3, z4, z5, z6⟩, _⟩ := hv
  have := mltS z6
  omega
/-- a venture at a, made on h, its worths being filled in -/
def Bld (h g : mH) (a ci num n : Nat) (w : Nat → Int) : Prop := a = h.length ∧ Gr [] h g ∧ CX g a ci num n w
theorem NV.cx {h1 : mH} (hv : NV h1 g a ci (iZ num) (iZ n)) (ha : 30 ≤ a) (hc : [1, 2, 4, 6, 8].contains ci = true) (hn : 1 ≤ n ∧ n ≤ 4) : CX g a ci num n (fun _ => 0) := by
  obtain ⟨hl, ⟨z0, z1, z2, z3, z4, z5, z6, z7, z8⟩, _⟩ := hv
  exact ⟨⟨ha, hc, hn, fun _ => (show bd 16000 0 from ⟨by decide, by decide⟩), iZ 0, _, z0, z1, fun s _ => rfl⟩, rfl, ⟨_, _, _, _, _, _, _, z3, z4, z5, z6, z7, z8⟩, ⟨_, z2⟩, iZ 0, z0, Or.inl rfl⟩
/-- new Told -/
theorem kNew (hl : 30 ≤ h.length) (hc : [1, 2, 4, 6, 8].contains ci = true) (hn : 1 ≤ n ∧ n ≤ 4) (hq : ∀ g, Bld h g h.length ci num n (fun _ => 0) → Q none g) : mCt mCd 37 [.ref h.length, .int (iZ num), .int (iZ n)] (h ++ [.inr (ci, [.int 0, .int 0, .null, .null, .null, .int 0])]) Q := by
  refine k37 hc ⟨by rw [List.length_append]; rfl, mAr h _, fun j e q => absurd q (by simp), fun _ _ _ q => q⟩ (fun g hv => hq g ⟨rfl, ⟨?_, fun x e _ q => hv.2.2 x e ?_ (mAl _ q)⟩, hv.cx hl hc hn⟩)
  · rw [hv.1]; omega
  · have := mltS q; omega
theorem Bld.put (hb : Bld h g a ci num n w) {s : Nat} (h1 : 1 ≤ s) (hs : s ≤ al n) {x : Int} (hx : bd 16000 x) (hq : ∀ g', Bld h g' a ci num n (set1 w s x) → Q none g') : mCt mCd 48 [.ref a, .int (iZ s), .int (iZ x)] g Q := by
  obtain ⟨ha, hg, hv⟩ := hb
  refine k48x hv h1 hs hx (fun g' hxx cx => hq g' ⟨ha, ⟨by rw [hxx.1]; exact hg.1, fun x e _ q => ?_⟩, cx⟩)
  have := mltS q
  exact (hxx.2 x (by simp; omega)).trans (hg.2 x e (by simp) q)
theorem Bld.cd {x : Nat} {e : mE} (hb : Bld h g a ci num n w) (q : h[x]? = some e) : g[x]? = some e := hb.2.1.2 x e (by simp) q
theorem Bld.cv {b ci' num' n' : Nat} {w' : Nat → Int} (hb : Bld h g a ci num n w) (hv : CV h b ci' num' n' w') : CV g b ci' num' n' w' := by
  obtain ⟨ha, hc, hn, hw, fd, f, e1, e2, hf⟩ := hv
  exact ⟨ha, hc, hn, hw, fd, f, hb.cd e1, hb.cd e2, hf⟩
theorem k115 (e1 : h[5]? = some (oJ (iZ c))) {gg : Nat → Option Nat} (e2 : h[6]? = some (aR 2 10 gg)) (hc : c ≤ 10) (hq : Q (some (.int (tf (c = 10)))) h) : mCt mCd 115 [.ref 5] h Q := by
  refine en115 (b115_0 e1 e2 (fun z => b115_16 ?_) (fun z => b115_12 ?_))
  · rw [onat, iZ_lt (by unfold i32; omega) (by unfold i32; omega)] at z
    exact Qi (tf0 (by omega)) hq
  · rw [onat, iZ_lt (by unfold i32; omega) (by unfold i32; omega)] at z
    exact Qi (tf1 (by omega)) hq
/-- what a maker leaves -/
def mkC (h : mH) (c : Nat) (kd sz : Nat → Nat) (W : Nat → Nat → Int) (A : Nat → Nat) (Q : Option Value → mH → Prop) : (Int ⊕ (Nat × Nat × (Nat → Int))) → Prop
  | .inl r => Q (some (.int (iZ r))) h
  | .inr (kn, n, f) => ∀ h', Gr [5, 6] h h' → CD h' (c + 1) (set1 kd c kn) (set1 sz c n) (set1 W c f) (set1 A c h.length) → Q (some (.int (iZ c))) h'
theorem kEnt (hd : CD h c kd sz W A) {kn : Nat} (hc : c < 10) (hk : kn ≤ 4) (hb : Bld h g h.length (ciK kn) c n w) (h01 : kn = 1 → ∀ s, s < 2 ^ n → w s = 0 ∨ w s = 1) (hq : mkC h c kd sz W A Q (.inr (kn, n, w))) : mCt mCd 116 [.ref 5, .ref h.length] g Q := by
  obtain ⟨gg, g1, g2, g3⟩ := hd.2.1
  have d1 := hb.cd g1
  have d2 := hb.cd g2
  have hcx := hb.2.2
  obtain ⟨_, _, _, _, fd, e1, _⟩ := id hcx
  refine en116 (b116_0 d1 (fun z => ?_) (fun _ => b116_7 d1 (k115 d1 d2 (by omega) (b116_11 (fun _ => b116_17 d1 d2 (inZ hc (by decide)) e1 (ciK_c kn) ?_) (fun z => ?_)))))
  · simp (disch := (first | assumption | omega | (unfold i32; omega) | (unfold i64; omega))) only [iZ_add, iZ_sub, iZ_mul, iZ_neg, lZ_add, lZ_sub, lZ_mul, lZ_neg, lZ_i, iZ_l, iZ_nat, Int.toNat_natCast, iZ_bit, iZ_shl, iZ_or, iZ_lt, iZ_le, iZ_eq, iZ_lt0, iZ_le0, iZ_gt0, iZ_ge0, iZ_eq0, cmp_eq0, cmp_lt0, cmp_le0, cmp_ge0, cmp_gt0, tf_0, tf_n0, Decidable.not_not, not_true_eq_false, not_false_eq_true, Int.toNat_natCast, onat] at z
    omega
  · have t : iZ c + iZ 1 - iZ 1 = iZ c := by rw [iZ_add, iZ_sub]; congr 1; omega
    rw [t, tnZ hc (by decide), iZ_add]
    have hx : Eqx [5, 6] g ((g.set 6 (aR 2 10 (va_up gg c (some h.length)))).set 5 (oJ (iZ ((c : Int) + 1)))) := ((Eqx.rf _ _).st _ (by simp)).st _ (by simp)
    have h30 := hcx.1.1
    have old : ∀ x e, x ≠ 5 → x ≠ 6 → h[x]? = some e → ((g.set 6 (aR 2 10 (va_up gg c (some h.length)))).set 5 (oJ (iZ ((c : Int) + 1))))[x]? = some e := fun x e h5 h6 q => mGn (by omega) (mGn (by omega) (hb.cd q))
    refine hq _ ⟨by rw [List.length_set, List.length_set]; exact hb.2.1.1, fun x e hx q => old x e (fun z => hx (by rw [z]; simp)) (fun z => hx (by rw [z]; simp)) q⟩ ⟨by omega, ⟨_, mGs (mGn (by decide) d1), mGn (by decide) (mGs d2), fun i hi => ?_⟩, fun j hj => ?_, fun i j h1 h2 => ?_⟩
    · by_cases e : i = c
      · subst e
        rw [va_up_self, set1_e]
      · rw [va_up_ne _ _ e, set1_n _ _ e]
        exact g3 i (by omega)
    · by_cases e : j = c
      · subst e
        rw [set1_e, set1_e, set1_e, set1_e]
        exact ⟨hk, hcx.eq hx (fun x m => by simp only [List.mem_cons, List.not_mem_nil, or_false] at m; omega), h01⟩
      · rw [set1_n _ _ e, set1_n _ _ e, set1_n _ _ e, set1_n _ _ e]
        obtain ⟨k1, k2, k3⟩ := hd.2.2.1 j (by omega)
        have := k2.1.1
        exact ⟨k1, k2.sub (fun x e h1 h2 q => old x e (by omega) (by omega) q), k3⟩
    · by_cases e2 : j = c
      · subst e2
        rw [set1_e, set1_n _ _ (by omega)]
        exact (hd.cx (show i < j by omega)).top
      · rw [set1_n _ _ e2, set1_n _ _ (by omega)]
        exact hd.2.2.2 i j h1 (by omega)
  · rw [tf_n0] at z
    omega
theorem CD.tb (hd : CD h c kd sz W A) : ∃ gg : Nat → Option Nat, h[5]? = some (oJ (iZ c)) ∧ h[6]? = some (aR 2 10 gg) := by
  obtain ⟨gg, g1, g2, _⟩ := hd.2.1
  exact ⟨gg, g1, g2⟩
theorem j79 {x : Int} (hd : CD h c kd sz W A) (hl : 30 ≤ h.length) (hx : i32 x) (hq : mkC h c kd sz W A Q (if 1 ≤ x ∧ x ≤ 4 then (if c = 10 then .inl (-4) else .inr (0, x.toNat, fillW (fun _ => 0) (2 ^ x.toNat))) else .inl (-2))) : mCt mCd 79 [.ref 5, .int (iZ x)] h Q := by
  have hc := hd.1
  obtain ⟨gg, g1, g2⟩ := hd.tb
  refine en79 (b79_0 (k119 hx (b79_4 (fun z => b79_10 g1 (k115 g1 g2 hc (b79_14 (fun z2 => b79_22 (b79_26 (mAl _ g1) ?_)) (fun z2 => b79_17 ?_)))) (fun z => b79_7 ?_))))
  · rw [tf_n0] at z
    rw [tf_0] at z2
    rw [if_pos z, if_neg z2] at hq
    obtain ⟨n, rfl⟩ : ∃ m : Nat, x = m := ⟨x.toNat, by omega⟩
    simp only [Int.toNat_natCast] at hq
    have ez : fillW (fun _ => 0) (2 ^ n) = fun _ => 0 := by
      funext s
      unfold fillW
      split <;> rfl
    rw [ez] at hq
    exact kNew hl rfl (by omega) (fun g hb => b79_35 (hb.cd g1) (kEnt (kn := 0) hd (by omega) (by decide) hb (fun q => absurd q (by decide)) (fun h' gr cd => b79_38 (hq h' gr cd))))
  · rw [tf_n0] at z z2
    rw [if_pos z, if_pos z2] at hq
    exact hq
  · rw [tf_n0] at z
    rw [if_neg z] at hq
    exact hq
end CM
