/-! ===== the law from its start ===== -/
section RN
variable {L : Nat} {xs : Nat → Int32}
theorem sm1 : (-1 : Int) ≤ -1 := by decide
theorem sm2 : (-1 : Int) ≤ 2 := by decide
theorem sm3 : (0 : Nat) ≤ 40 := by decide
theorem sm4 : i32 0 := ⟨by decide, by decide⟩
theorem sm5 : ¬ (0 : Int) ≤ -1 := by decide
theorem sm6 : 30 ≤ (hM L xs).length := Nat.le_refl 30
theorem leanEq : ∀ n, n ≤ 4 → ∃ g : Nat → Int64, (hM L xs)[leanR n]? = some (aL (leanC n).length g) ∧ ∀ k, k < (leanC n).length → g k = lZ ((leanC n).getD k 0) := by
  have q2 : ∀ k, k < (leanC 2).length → leanF leanL2 k = lZ ((leanC 2).getD k 0) := by decide +kernel
  have q3 : ∀ k, k < (leanC 3).length → leanF leanL3 k = lZ ((leanC 3).getD k 0) := by decide +kernel
  have q4 : ∀ k, k < (leanC 4).length → leanF leanL4 k = lZ ((leanC 4).getD k 0) := by decide +kernel
  intro n hn
  obtain rfl | rfl | rfl | rfl | rfl : n = 0 ∨ n = 1 ∨ n = 2 ∨ n = 3 ∨ n = 4 := by omega
  · exact ⟨leanF leanL1, rfl, fun k hk => absurd hk (Nat.not_lt_zero k)⟩
  · exact ⟨leanF leanL1, rfl, fun k hk => absurd hk (Nat.not_lt_zero k)⟩
  · exact ⟨leanF leanL2, rfl, q2⟩
  · exact ⟨leanF leanL3, rfl, q3⟩
  · exact ⟨leanF leanL4, rfl, q4⟩
theorem startRI : RI (hM L xs) 0 (fun _ => 0) (fun _ => 0) (fun _ _ => 0) [] 0 (fun _ => 0) (fun _ => -1) (fun _ => 0) (fun _ _ => 0) := by
  refine ⟨⟨by decide, fun i hi => absurd hi (Nat.not_lt_zero i), _, _, _, _, _, _, _, _, rfl, rfl, rfl, rfl, fun i hi => absurd hi (Nat.not_lt_zero i)⟩, ⟨_, _, _, _, _, _, rfl, rfl, rfl, rfl, rfl, rfl⟩, ⟨by decide, _, _, _, _, _, _, rfl, rfl, fun k hk => absurd hk (Nat.not_lt_zero k)⟩, ⟨by decide, _, _, _, _, _, _, rfl, rfl, fun k hk => absurd hk (Nat.not_lt_zero k)⟩, ⟨fun s hs => ⟨⟨sm1, sm2⟩, sm3, fun k => sm4⟩, _, _, _, _, rfl, rfl, rfl, rfl, fun s hs => ⟨?_, rfl, fun k hk => rfl⟩⟩⟩
  obtain rfl | rfl | rfl | rfl : s = 0 ∨ s = 1 ∨ s = 2 ∨ s = 3 := by omega
  all_goals decide +kernel
theorem startCI : CI (hM L xs) 0 (fun _ => 0) (fun _ => 0) (fun _ _ => 0) [] 0 (fun _ => 0) (fun _ => -1) (fun _ => 0) (fun _ _ => 0) := by
  refine ⟨fun _ => 0, fun _ => 0, 0, fun _ => 0, ⟨by decide, ⟨_, rfl, rfl, fun i hi => absurd hi (Nat.not_lt_zero i)⟩, fun i hi => absurd hi (Nat.not_lt_zero i), fun i j hij hj => absurd hj (Nat.not_lt_zero j)⟩, ⟨by decide, _, rfl, rfl, fun k hk => absurd hk (Nat.not_lt_zero k)⟩, ⟨Or.inl rfl, by decide, _, rfl, rfl, fun k hk => absurd hk (Nat.not_lt_zero k)⟩, ⟨Or.inr rfl, by decide, _, rfl, rfl, fun k hk => absurd hk (Nat.not_lt_zero k)⟩, ⟨fun s hs => ⟨⟨sm1, sm2⟩, sm3, fun k => sm4⟩, ⟨_, rfl, fun s hs => ⟨fun _ => rfl, fun h0 => absurd h0 sm5⟩⟩, fun s t hs ht hst h0 => absurd h0 sm5⟩, leanEq, sm6, fun s hs h0 => absurd h0 sm5⟩
theorem startLX : LX L xs (hM L xs) := ⟨rfl, _, _, _, _, _, _, _, _, _, _, startRI, startCI, fun i hi => absurd hi (Nat.not_lt_zero i)⟩
theorem hrun0 (L : Nat) (xs : Nat → Int32) (hL : L ≤ 3072) : mWp mCd 221 (0, [some (.ref 0), none, none, none], [], mH0 L xs, 0, 0) (fun r _ => r = some (.int 1)) := by
  refine start ?_
  exact llp hL (L + 1) 0 (by omega) (by omega) (hM L xs) 25 3899 startLX (by omega) (by omega)
end RN
