/-! ===== both sides together ===== -/

/-- the reference's memory -/
def RI (h : mH) (c : Nat) (kd sz : Nat → Nat) (W : Nat → Nat → Int) (T : List Int) (r : Nat) (f : Nat → Int64) (so : Nat → Int) (it : Nat → Nat) (im : Nat → Nat → Int) : Prop := RV h c kd sz W ∧ RX h ∧ RT h T ∧ RR h r f ∧ RS h so it im
/-- the class's memory -/
def CI (h : mH) (c : Nat) (kd sz : Nat → Nat) (W : Nat → Nat → Int) (T : List Int) (r : Nat) (f : Nat → Int64) (so : Nat → Int) (it : Nat → Nat) (im : Nat → Nat → Int) : Prop := ∃ (A B : Nat → Nat) (M : Nat) (G : Nat → Int64), CD h c kd sz W A ∧ CTr h T ∧ CP h 7 r f ∧ CP h 9 M G ∧ CSh h so it im B ∧ LN h ∧ 30 ≤ h.length ∧ ∀ s, s < 4 → 0 ≤ so s → ∀ i, i < c → A i + 9 ≤ B s ∨ B s + 2 ≤ A i
def KRef : List Nat := [14, 15, 16, 17, 18, 19, 20, 21, 22, 23, 24, 25, 26, 27, 28, 29]
def Kp (h h' : mH) : Prop := Sub h h' 0 5 ∧ Sub h h' 14 30
theorem Kp.rf (h : mH) : Kp h h := ⟨Sub.rf _ _ _, Sub.rf _ _ _⟩
theorem KRef_in {x : Nat} : x ∈ KRef ↔ 14 ≤ x ∧ x < 30 := by
  unfold KRef
  simp only [List.mem_cons, List.not_mem_nil, or_false]
  omega
section IN
variable {h h' : mH} {Q : Option Value → mH → Prop} {i n c r N : Nat} {kd sz : Nat → Nat} {W : Nat → Nat → Int} {A B : Nat → Nat} {T : List Int} {f : Nat → Int64} {so : Nat → Int} {it : Nat → Nat} {im : Nat → Nat → Int}
theorem RI.sub (hr : RI h c kd sz W T r f so it im) (hx : Sub h h' 14 30) : RI h' c kd sz W T r f so it im := by
  obtain ⟨⟨v1, v2, cor, bA, bB, rw_, bo, fk, fs, g, e1, e2, e3, e4, v3⟩, ⟨g0, fa, fu, wa, wb, pf, x1, x2, x3, x4, x5, x6⟩, ⟨t1, tv, tc, ta, tb, tr, tf_, t2, t3, t4⟩, ⟨p1, pv, pc, pa, pb, pbo, pg, p2, p3, p4⟩, ⟨s1, fs1, fi, sg, ga, s2, s3, s4, s5, s6⟩⟩ := hr
  have k : ∀ {x : Nat} {e : mE}, 14 ≤ x → x < 30 → h[x]? = some e → h'[x]? = some e := fun h1 h2 q => hx _ _ h1 h2 q
  exact ⟨⟨v1, v2, cor, bA, bB, rw_, bo, fk, fs, g, k (by decide) (by decide) e1, k (by decide) (by decide) e2, k (by decide) (by decide) e3, k (by decide) (by decide) e4, v3⟩, ⟨g0, fa, fu, wa, wb, pf, k (by decide) (by decide) x1, k (by decide) (by decide) x2, k (by decide) (by decide) x3, k (by decide) (by decide) x4, k (by decide) (by decide) x5, k (by decide) (by decide) x6⟩, ⟨t1, tv, tc, ta, tb, tr, tf_, k (by decide) (by decide) t2, k (by decide) (by decide) t3, t4⟩, ⟨p1, pv, pc, pa, pb, pbo, pg, k (by decide) (by decide) p2, k (by decide) (by decide) p3, p4⟩, ⟨s1, fs1, fi, sg, ga, k (by decide) (by decide) s2, k (by decide) (by decide) s3, k (by decide) (by decide) s4, k (by decide) (by decide) s5, s6⟩⟩
theorem CTr.sub (ht : CTr h T) (hx : Sub h h' 11 13) : CTr h' T := by
  obtain ⟨hl, f, e1, e2, hf⟩ := ht
  exact ⟨hl, f, hx _ _ (by decide) (by decide) e1, hx _ _ (by decide) (by decide) e2, hf⟩
theorem CP.sub (hp : CP h r N f) (hx : Sub h h' r (r + 2)) : CP h' r N f := by
  obtain ⟨hr, hN, g, e1, e2, hg⟩ := hp
  exact ⟨hr, hN, g, hx _ _ (by omega) (by omega) e1, hx _ _ (by omega) (by omega) e2, hg⟩
theorem LN.sub (hl : LN h) (hx : Sub h h' 0 5) : LN h' := by
  intro n hn
  obtain ⟨g, e, hg⟩ := hl n hn
  have : leanR n < 5 := by
    unfold leanR
    repeat' split
    all_goals omega
  exact ⟨g, hx _ _ (by omega) this e, hg⟩
theorem CSh.sub (hs : CSh h so it im B) (hx : Sub h h' 13 14) (hb : ∀ s, s < 4 → 0 ≤ so s → Sub h h' (B s) (B s + 2)) : CSh h' so it im B := by
  obtain ⟨h1, ⟨g, g1, hg⟩, hd⟩ := hs
  refine ⟨h1, ⟨g, hx _ _ (by decide) (by decide) g1, fun s h4 => ⟨(hg s h4).1, fun h0 => ⟨((hg s h4).2 h0).1, ((hg s h4).2 h0).2.sub (hb s h4 h0)⟩⟩⟩, hd⟩
theorem CD.sub (hd : CD h c kd sz W A) (hx : Sub h h' 5 7) (hb : ∀ i, i < c → Sub h h' (A i) (A i + 9)) : CD h' c kd sz W A := by
  obtain ⟨hc, ⟨g, g1, g2, g3⟩, hv, hdis⟩ := hd
  exact ⟨hc, ⟨g, hx _ _ (by decide) (by decide) g1, hx _ _ (by decide) (by decide) g2, g3⟩, fun i hi => ⟨(hv i hi).1, (hv i hi).2.1.sub (hb i hi), (hv i hi).2.2⟩, hdis⟩
theorem CSh.b (hs : CSh h so it im B) {s : Nat} (h4 : s < 4) (h0 : 0 ≤ so s) : 30 ≤ B s ∧ B s + 2 ≤ h.length := by
  obtain ⟨hb, _, f, e, _⟩ := hs.s1 h4 h0
  have := mltS e
  exact ⟨hb, by omega⟩
/-- the reference has run -/
theorem CI.ref (hc : CI h c kd sz W T r f so it im) (hx : Eqx KRef h h') : CI h' c kd sz W T r f so it im := by
  obtain ⟨A, B, M, G, hd, ht, hp, hp9, hs, hl, h30, hdis⟩ := hc
  have s : ∀ a b, b ≤ 14 ∨ 30 ≤ a → Sub h h' a b := fun a b hab => hx.sub (fun x m => by rw [KRef_in] at m; omega)
  exact ⟨A, B, M, G, hd.sub (s _ _ (by omega)) (fun i hi => s _ _ (by have := (hd.cv hi).1; omega)), ht.sub (s _ _ (by omega)), hp.sub (s _ _ (by omega)), hp9.sub (s _ _ (by omega)), hs.sub (s _ _ (by omega)) (fun t h4 h0 => s _ _ (by have := hs.b h4 h0; omega)), hl.sub (s _ _ (by omega)), by rw [hx.1]; exact h30, hdis⟩
theorem AskC.sub (hd : CD h c kd sz W A) (hx : AskC c A h h') {a b : Nat} (hab : ∀ i, i < c → b ≤ A i ∨ A i + 9 ≤ a) : Sub h h' a b := fun x e h1 h2 q => (hx.2 x (fun i hi => by have := hab i hi; omega)).trans q
theorem AskC.lo (hd : CD h c kd sz W A) (hx : AskC c A h h') {a b : Nat} (hb : b ≤ 30) : Sub h h' a b := AskC.sub hd hx (fun i hi => by have := (hd.cv hi).1; omega)
end IN
