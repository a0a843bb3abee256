/-- whole numbers behind ints and longs -/
def iZ (z : Int) : Int32 := Int32.ofInt z
def lZ (z : Int) : Int64 := Int64.ofInt z
/-! ===== the small machine: what a method does to locals, stack and a list of cells; its calls are a relation ===== -/
abbrev mE : Type := (Nat × vp_A) ⊕ (Nat × List Value)
abbrev mH : Type := List mE
abbrev mL : Type := List (Option Value)
abbrev mS : Type := Nat × mL × List Value × mH × Nat × Nat
abbrev mK : Type := Nat × List Value × Nat × mL × List Value × Nat × Nat
abbrev mO : Type := Option (mS ⊕ (Option Value ⊕ mK))
abbrev mA : Type := mL → List Value → mH → Nat → Nat → mO
abbrev mR : Type := Nat → List Value → mH → Option Value → mH → Prop
abbrev oN (pc : Nat) (L : mL) (st : List Value) (h : mH) (c s : Nat) : mO := some (.inl (pc, L, st, h, c, s))
abbrev oR (v : Option Value) : mO := some (.inr (.inl v))
abbrev oC (k : Nat) (as : List Value) (pc : Nat) (L : mL) (st : List Value) (c s : Nat) : mO := some (.inr (.inr (k, as, pc, L, st, c, s)))
def mLp (C : mR) (cd : Nat → mA) : Nat → mS → Option Value → mH → Prop
  | 0, _, _, _ => False
  | f + 1, (pc, L, st, h, c, s), r, h' => match cd pc L st h c s with
    | none => False
    | some (.inl t) => mLp C cd f t r h'
    | some (.inr (.inl v)) => r = v ∧ h' = h
    | some (.inr (.inr (k, as, pc', L', st', c', s'))) => ∃ r1 h1, C k as h r1 h1 ∧ mLp C cd f (pc', L', r1.toList ++ st', h1, c', s') r h'
theorem mLp_mono {C C' : mR} (hC : ∀ k as h r h', C k as h r h' → C' k as h r h') {cd : Nat → mA} : ∀ (f : Nat) (t : mS) (r : Option Value) (h' : mH), mLp C cd f t r h' → mLp C' cd f t r h'
  | 0, _, _, _, x => x
  | f + 1, (pc, L, st, h, c, s), r, h', x => by
    unfold mLp at x ⊢
    split at x
    · exact x
    · next t e => exact mLp_mono hC f _ _ _ x
    · next v e => exact x
    · next k as pc' L' st' c' s' e =>
      obtain ⟨r1, h1, x1, x2⟩ := x
      exact ⟨r1, h1, hC _ _ _ _ _ x1, mLp_mono hC f _ _ _ x2⟩
def mArgs : List Value → mL
  | [] => []
  | .long x :: r => some (.long x) :: none :: mArgs r
  | .double x :: r => some (.double x) :: none :: mArgs r
  | .int x :: r => some (.int x) :: mArgs r
  | .float x :: r => some (.float x) :: mArgs r
  | .null :: r => some .null :: mArgs r
  | .ref x :: r => some (.ref x) :: mArgs r
  | .retAddr x :: r => some (.retAddr x) :: mArgs r
def mIn (n : Nat) (as : List Value) : mL := mArgs as ++ List.replicate (n - (mArgs as).length) none
def mCl (cd : Nat → Nat → mA) (R : mR) : Prop := ∀ j as h r h', (mArgs as).length ≤ mMx j → (∃ f, mLp R (cd j) f (0, mIn (mMx j) as, [], h, 0, 0) r h') → R j as h r h'
def mEv (cd : Nat → Nat → mA) : mR := fun j as h r h' => ∀ R : mR, mCl cd R → R j as h r h'
theorem mEv_in {cd : Nat → Nat → mA} {j : Nat} {as : List Value} {h : mH} {r : Option Value} {h' : mH} (ha : (mArgs as).length ≤ mMx j) (x : ∃ f, mLp (mEv cd) (cd j) f (0, mIn (mMx j) as, [], h, 0, 0) r h') : mEv cd j as h r h' := by
  intro R hR
  obtain ⟨f, x⟩ := x
  exact hR j as h r h' ha ⟨f, mLp_mono (fun k as h r h' y => y R hR) f _ _ _ x⟩
def mWp (cd : Nat → Nat → mA) (j : Nat) (t : mS) (Q : Option Value → mH → Prop) : Prop := ∃ f r h', mLp (mEv cd) (cd j) f t r h' ∧ Q r h'
def mCt (cd : Nat → Nat → mA) (j : Nat) (as : List Value) (h : mH) (Q : Option Value → mH → Prop) : Prop := ∃ r h', mEv cd j as h r h' ∧ Q r h'
section WP
variable {cd : Nat → Nat → mA} {j pc : Nat} {L : mL} {st : List Value} {h : mH} {c s : Nat} {Q : Option Value → mH → Prop}
theorem mWp_n {t : mS} (e : cd j pc L st h c s = some (.inl t)) (x : mWp cd j t Q) : mWp cd j (pc, L, st, h, c, s) Q := by
  obtain ⟨f, r, h', x1, x2⟩ := x
  refine ⟨f + 1, r, h', ?_, x2⟩
  unfold mLp
  rw [e]
  exact x1
theorem mWp_r {v : Option Value} (e : cd j pc L st h c s = some (.inr (.inl v))) (x : Q v h) : mWp cd j (pc, L, st, h, c, s) Q := by
  refine ⟨1, v, h, ?_, x⟩
  unfold mLp
  rw [e]
  exact ⟨rfl, rfl⟩
theorem mWp_c {k pc' : Nat} {as : List Value} {L' : mL} {st' : List Value} {c' s' : Nat} (e : cd j pc L st h c s = some (.inr (.inr (k, as, pc', L', st', c', s')))) (x : mCt cd k as h (fun r h1 => mWp cd j (pc', L', r.toList ++ st', h1, c', s') Q)) : mWp cd j (pc, L, st, h, c, s) Q := by
  obtain ⟨r1, h1, x1, f, r, h', x2, x3⟩ := x
  refine ⟨f + 1, r, h', ?_, x3⟩
  unfold mLp
  rw [e]
  exact ⟨r1, h1, x1, x2⟩
theorem mCt_in {as : List Value} (ha : (mArgs as).length ≤ mMx j) (x : mWp cd j (0, mIn (mMx j) as, [], h, 0, 0) Q) : mCt cd j as h Q := by
  obtain ⟨f, r, h', x1, x2⟩ := x
  exact ⟨r, h', mEv_in ha ⟨f, x1⟩, x2⟩
theorem mCt_mono {as : List Value} {Q' : Option Value → mH → Prop} (x : mCt cd j as h Q) (hq : ∀ r h', Q r h' → Q' r h') : mCt cd j as h Q' := by
  obtain ⟨r, h', x1, x2⟩ := x
  exact ⟨r, h', x1, hq _ _ x2⟩
theorem mWp_mono {t : mS} {Q' : Option Value → mH → Prop} (x : mWp cd j t Q) (hq : ∀ r h', Q r h' → Q' r h') : mWp cd j t Q' := by
  obtain ⟨f, r, h', x1, x2⟩ := x
  exact ⟨f, r, h', x1, hq _ _ x2⟩
end WP
