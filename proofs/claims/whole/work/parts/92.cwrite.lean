/-! ===== the class: proofs, asked for ===== -/

section CP
variable {h h' : mH} {Q : Option Value → mH → Prop} {i n c r M : Nat} {w : Nat → Int} {kd sz : Nat → Nat} {W : Nat → Nat → Int} {A : Nat → Nat} {a p s y k q : Int} {f G : Nat → Int64}
theorem j102 (hd : CD h c kd sz W A) (hl : LN h) (hp : CP h 7 r f) (ha : i32 a) (hq : ∀ h', Eqx [7, 8] h h' → CP h' 7 (sWr c sz W a r f).1 (sWr c sz W a r f).2 → Q (some (.int (iZ (sWrite c sz a)))) h') : mCt mCd 102 [.ref 5, .int (iZ a)] h Q := by
  have e5 := hd.o
  obtain ⟨_, _, g, p1, _⟩ := id hp
  unfold sWr sWrite at hq
  by_cases hA : 0 ≤ a ∧ a < c
  · simp only [if_pos hA] at hq
    obtain ⟨i, rfl⟩ : ∃ m : Nat, a = m := ⟨a.toNat, by omega⟩
    have hi : i < c := by omega
    simp only [Int.toNat_natCast] at hq
    refine en102 (b102_0 e5 (k114y hd hi (b102_5_1 e5 p1 (k22 (hd.cv hi) hl hp (fun h1 hx1 hp1 => ?_)))))
    obtain ⟨_, _, g1, q1, _⟩ := id hp1
    exact b102_21 ((hx1.2 5 (by decide)).trans e5) q1 (hq h1 hx1 hp1)
  · simp only [if_neg hA] at hq
    exact en102 (b102_0 e5 (k114n hd ha hA (b102_5 (hq h (Eqx.rf _ _) hp))))
theorem j103 (hd : CD h c kd sz W A) (hp : CP h 7 r f) (hk : i32 k) (hq : Q (some (.long (sRow r f k))) h) : mCt mCd 103 [.ref 5, .int (iZ k)] h Q := by
  have e5 := hd.o
  obtain ⟨_, _, g, p1, _⟩ := id hp
  refine en103 (b103_0 e5 p1 (k25 hp hk (b103_8 (fun z => b103_22 ?_) (fun z => b103_11 e5 p1 (k26 hp hk (b103_19 hq))))))
  rw [tf_0] at z
  unfold sRow at hq
  rw [if_neg z] at hq
  exact hq
theorem j104 {x : Int64} (hd : CD h c kd sz W A) (hp : CP h 7 r f) (hk : i32 k) (hq : ∀ h', Eqx [8] h h' → CP h' 7 r (if 0 ≤ k ∧ k < r then set1 f k.toNat x else f) → Q (some (.int (iZ (if 0 ≤ k ∧ k < r then 1 else -2)))) h') : mCt mCd 104 [.ref 5, .int (iZ k), .long x] h Q := by
  have e5 := hd.o
  obtain ⟨_, _, g, p1, _⟩ := id hp
  refine en104 (b104_0 e5 p1 (k25 hp hk (b104_8 (fun z => b104_14 e5 p1 ?_) (fun z => b104_11 ?_))))
  · rw [tf_n0] at z
    simp only [if_pos z] at hq
    exact k27 hp hk z (fun h1 hx1 hp1 => b104_23 (hq h1 hx1 hp1))
  · rw [tf_n0] at z
    simp only [if_neg z] at hq
    exact hq h (Eqx.rf _ _) hp
theorem j105 (hd : CD h c kd sz W A) (hl : LN h) (hp : CP h 7 r f) (hp9 : CP h 9 M G) (ha : i32 a) (hq : ∀ h' M' G', Eqx [9, 10] h h' → CP h' 9 M' G' → Q (some (.int (iZ (sCheck c sz W r f a)))) h') : mCt mCd 105 [.ref 5, .int (iZ a)] h Q := by
  have e5 := hd.o
  obtain ⟨_, _, g, p1, _⟩ := id hp
  obtain ⟨_, _, g9, p9, _⟩ := id hp9
  unfold sCheck at hq
  by_cases hA : 0 ≤ a ∧ a < c
  · simp only [if_pos hA] at hq
    obtain ⟨i, rfl⟩ : ∃ m : Nat, a = m := ⟨a.toNat, by omega⟩
    have hi : i < c := by omega
    simp only [Int.toNat_natCast] at hq
    refine en105 (b105_0 e5 (k114y hd hi (b105_5_1 e5 p9 (k22 (hd.cv hi) hl hp9 (fun h1 hx1 hp1 => ?_)))))
    have hp7 := hp.eq hx1 (by decide) (by decide)
    refine b105_21 ((hx1.2 5 (by decide)).trans e5) ((hx1.2 7 (by decide)).trans p1) (k28 hp7 hp1 (b105_32 ?_))
    exact hq h1 _ _ hx1 hp1
  · simp only [if_neg hA] at hq
    exact en105 (b105_0 e5 (k114n hd ha hA (b105_5 (hq h _ _ (Eqx.rf _ _) hp9))))
end CP
