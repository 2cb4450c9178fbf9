/-! ## what a morning tells -/
def crossB (A : Nat → Int → Int) (i j : Int) : Bool := (hasB (A 0 4) i && hasB (A 0 4) j) && decide ((A 7 i < A 7 j ∧ A 1 j < A 1 i) ∨ (A 7 j < A 7 i ∧ A 1 i < A 1 j))
def pairJ (A : Nat → Int → Int) (i : Int) : Nat → Int
  | 0 => -6
  | n + 1 => if crossB A i (6 - ((n + 1 : Nat) : Int)) = true then 10 * i + (6 - ((n + 1 : Nat) : Int)) else pairJ A i n
def pairI (A : Nat → Int → Int) : Nat → Int
  | 0 => -6
  | n + 1 => if pairJ A (6 - ((n + 1 : Nat) : Int)) n = -6 then pairI A n else pairJ A (6 - ((n + 1 : Nat) : Int)) n
def oldA (A : Nat → Int → Int) : Int := askR (hasB (A 0 4)) (fun k => -(A 1 k)) 6 (-6)
def passA (A : Nat → Int → Int) : Int := if A 5 2 = -6 then pairI A 6 else A 5 2
def tellA (A : Nat → Int → Int) : Nat → Int → Int := fun c j =>
  if c = 5 ∧ j = 0 then A 5 0 + 1
  else if c = 5 ∧ j = 1 then (if A 5 2 = -6 then (if passA A = -6 then -6 else A 5 0) else A 5 1)
  else if c = 5 ∧ j = 2 then passA A
  else if c = 6 ∧ j = A 5 0 then oldA A
  else A c j
def copyA (A : Nat → Int → Int) : Nat → Int → Int := fun c j => if c = 7 then A 1 j else A c j
def dayA (A : Nat → Int → Int) (k x y : Int) : Nat → Int → Int := if k = 46 then tellA (wakeA (copyA A)) else actA A k x y
theorem pairJ_rng (A : Nat → Int → Int) {i : Int} (hi : 0 ≤ i ∧ i < 6) : ∀ n : Nat, n ≤ 6 → pairJ A i n = -6 ∨ 0 ≤ pairJ A i n ∧ pairJ A i n ≤ 55
  | 0, _ => Or.inl rfl
  | n + 1, hn => by
    unfold pairJ
    split
    · exact Or.inr (by omega)
    · exact pairJ_rng A hi n (by omega)
theorem pairI_rng (A : Nat → Int → Int) : ∀ n : Nat, n ≤ 6 → pairI A n = -6 ∨ 0 ≤ pairI A n ∧ pairI A n ≤ 55
  | 0, _ => Or.inl rfl
  | n + 1, hn => by
    unfold pairI
    split
    · exact pairI_rng A n (by omega)
    · rename_i h
      have := pairJ_rng A (i := 6 - ((n + 1 : Nat) : Int)) (by omega) n (by omega)
      omega
def okD (A : Nat → Int → Int) : Prop := 0 ≤ A 5 0 ∧ ((A 5 2 = -6 ∧ A 5 1 = -6) ∨ (0 ≤ A 5 2 ∧ A 5 2 ≤ 55 ∧ 0 ≤ A 5 1 ∧ A 5 1 ≤ 99))
def cD (M A : Nat → Int → Int) : Prop := (M 11 3 = A 5 0 ∧ M 11 6 = A 5 1 ∧ M 11 7 = A 5 2) ∧ ∀ i : Int, 0 ≤ i → i < A 5 0 → M 18 i = A 6 i
def mD (M A : Nat → Int → Int) : Prop := (M 96 17 = A 5 0 ∧ M 96 18 = A 5 1 ∧ M 96 19 = A 5 2) ∧ ∀ i : Int, 0 ≤ i → i < A 5 0 → M 107 i = A 6 i
theorem okD_tell {A : Nat → Int → Int} (h : okD A) (h5 : A 5 0 < 100) : okD (tellA A) := by
  have hp : passA A = -6 ∨ 0 ≤ passA A ∧ passA A ≤ 55 := by
    unfold passA
    split
    · exact pairI_rng A 6 (by omega)
    · have := h.2; omega
  have h2 := h.2
  have h1 := h.1
  have e0 : tellA A 5 0 = A 5 0 + 1 := by simp [tellA]
  have e1 : tellA A 5 1 = if A 5 2 = -6 then (if passA A = -6 then -6 else A 5 0) else A 5 1 := by simp [tellA]
  have e2 : tellA A 5 2 = passA A := by simp [tellA]
  refine ⟨by rw [e0]; omega, ?_⟩
  rw [e1, e2]
  by_cases c : A 5 2 = -6
  · rw [if_pos c]
    by_cases c2 : passA A = -6
    · rw [if_pos c2]; exact Or.inl ⟨c2, rfl⟩
    · rw [if_neg c2]; omega
  · rw [if_neg c]
    have : passA A = A 5 2 := by unfold passA; rw [if_neg c]
    omega
section TELL
variable {l : Launch} {z d : Nat} {X : jX} {M A : Nat → Int → Int} {Q : Option jV → jM → Prop}
/-- the class's -/
theorem c_X0_hasPassed (hc : cH 12 M A) (ha : ∀ k : Int, 0 ≤ k → k < 6 → M 17 k = A 7 k) {i j : Int} (hi : hasB (A 0 4) i = true) (hj : hasB (A 0 4) j = true) (kk : Q (some (jI (bI (crossB A i j)))) (jG, M)) : J l z X (d + 1) mX0_hasPassed (0, 0) 0 [jR 11, jI i, jI j, jN, jN] [] (jG, M) Q := by
  have hi' := hasB_in hi
  have hj' := hasB_in hj
  have e1 := ha i hi'.1 hi'.2
  have e2 := ha j hj'.1 hj'.2
  have e3 : M 13 i = A 1 i := (hc.2 i hi'.1 hi'.2).1.1
  have e4 : M 13 j = A 1 j := (hc.2 j hj'.1 hj'.2).1.1
  have hv : ∀ (b : Bool) (v : Int), v = bI b → (b = true ↔ ((A 7 i < A 7 j ∧ A 1 j < A 1 i) ∨ (A 7 j < A 7 i ∧ A 1 i < A 1 j))) → Q (some (jI v)) (jG, M) := by
    intro b v hv hb
    have e9 : crossB A i j = b := by
      unfold crossB
      rw [hi, hj]
      cases b
      · have : ¬ ((A 7 i < A 7 j ∧ A 1 j < A 1 i) ∨ (A 7 j < A 7 i ∧ A 1 i < A 1 j)) := fun q => absurd (hb.2 q) (by decide)
        simp only [decide_eq_false this]
        rfl
      · simp only [decide_eq_true (hb.1 rfl)]
        rfl
    rw [hv, ← e9]
    exact kk
  have hc1 : ∀ u v : Int, (cmpI u v < 0 ↔ u < v) ∧ (0 < cmpI u v ↔ v < u) := by
    intro u v
    unfold cmpI
    split
    · omega
    · split <;> omega
  have h1 := hc1 (M 17 i) (M 17 j)
  have h2 := hc1 (M 13 i) (M 13 j)
  have hgo : (¬ (M 17 i < M 17 j ∧ M 13 j < M 13 i)) → J l z X (d + 1) mX0_hasPassed (0, 0) 48 [jR 11, jI i, jI j, jI (cmpI (M 17 i) (M 17 j)), jI (cmpI (M 13 i) (M 13 j))] [] (jG, M) Q := by
    intro h0
    refine b_X0_hasPassed_48 (fun c => hv false _ rfl ?_) (fun c c2 => hv false _ rfl ?_) (fun c c2 => hv true _ rfl ?_)
    all_goals
      rw [← e1, ← e2, ← e3, ← e4]
      simp only [true_iff, false_iff, Bool.false_eq_true]
      omega
  refine b_X0_hasPassed_0 hi'.1 hi'.2 hj'.1 hj'.2 (fun c => hgo (by omega)) (fun c c2 => hv true _ rfl ?_) (fun c c2 => hgo (by omega))
  rw [← e1, ← e2, ← e3, ← e4]
  simp only [true_iff]
  omega
theorem c_X0_leastPass_12 (hc : cH 12 M A) (ha : ∀ k : Int, 0 ≤ k → k < 6 → M 17 k = A 7 k) {i : Int} (hi : 0 ≤ i ∧ i < 6) : ∀ (n : Nat) (j : Int), j = 6 - (n : Int) → 0 ≤ j → (pairJ A i n ≠ -6 → Q (some (jI (pairJ A i n))) (jG, M)) → (pairJ A i n = -6 → J l z X (d + 2) mX0_leastPass (0, 0) 2 [jR 11, jI (i + 1), jN] [] (jG, M) Q) → J l z X (d + 2) mX0_leastPass (0, 0) 12 [jR 11, jI i, jI j] [] (jG, M) Q := by
  have e4 : M 12 4 = A 0 4 := hc.1.1
  intro n
  induction n with
  | zero =>
    intro j hj j0 k1 k2
    exact b_X0_leastPass_12 (fun _ => jInd (by omega)) (fun _ => k2 rfl) (fun q => absurd q (by omega)) (fun q => absurd q (by omega)) (fun q => absurd q (by omega))
  | succ n ih =>
    intro j hj j0 k1 k2
    unfold pairJ at k1 k2
    rw [← hj] at k1 k2
    have hno : crossB A i j = false → J l z X (d + 2) mX0_leastPass (0, 0) 56 [jR 11, jI i, jI j] [] (jG, M) Q := by
      intro e
      rw [if_neg (by rw [e]; decide)] at k1 k2
      exact b_X0_leastPass_56 (jInd (by omega)) (ih _ (by omega) (by omega) k1 k2)
    refine b_X0_leastPass_12 (fun q => absurd q (by omega)) (fun q => absurd q (by omega)) (fun _ c1 c2 => ?_) (fun _ c1 c2 => hno ?_) (fun _ c1 => hno ?_)
    · rw [e4] at c1 c2
      refine c_X0_hasPassed hc ha c1 c2 (b_X0_leastPass_46 (fun _ => jInd (by omega)) (fun _ => jInd (by omega)) (fun c => hno ?_) (fun c => ?_))
      · revert c
        unfold bI
        cases crossB A i j
        · intro _; rfl
        · intro q; exact absurd q (by decide)
      · have e : crossB A i j = true := by
          revert c
          unfold bI
          cases crossB A i j
          · intro q; exact absurd rfl q
          · intro _; rfl
        rw [if_pos e] at k1
        exact k1 (by omega)
    · rw [e4] at c1 c2
      unfold crossB
      rw [c1, c2]; rfl
    · rw [e4] at c1
      unfold crossB
      rw [c1]; rfl
theorem c_X0_leastPass_2 (hc : cH 12 M A) (ha : ∀ k : Int, 0 ≤ k → k < 6 → M 17 k = A 7 k) : ∀ (n : Nat) (i : Int), i = 6 - (n : Int) → 0 ≤ i → Q (some (jI (pairI A n))) (jG, M) → J l z X (d + 2) mX0_leastPass (0, 0) 2 [jR 11, jI i, jN] [] (jG, M) Q := by
  intro n
  induction n with
  | zero =>
    intro i hi i0 k
    exact b_X0_leastPass_2 (fun q => absurd q (by omega)) (fun _ => k) (fun q => absurd q (by omega))
  | succ n ih =>
    intro i hi i0 k
    unfold pairI at k
    rw [← hi] at k
    refine b_X0_leastPass_2 (fun _ => jInd (by omega)) (fun q => absurd q (by omega)) (fun _ => ?_)
    refine c_X0_leastPass_12 hc ha ⟨i0, by omega⟩ n (i + 1) (by omega) (by omega) (fun c => ?_) (fun c => ?_)
    · rw [if_neg c] at k; exact k
    · rw [if_pos c] at k
      exact ih _ (by omega) (by omega) k
theorem c_X1_oldestOne_7 {h : Nat} (hh : jHi h) (hc : cH h M A) (ok : okA A) : ∀ (n : Nat) (x b w : Int), x = 6 - (n : Int) → 0 ≤ x → ((b < 0 ∧ w = -1) ∨ (0 ≤ b ∧ b < 6 ∧ w = A 1 b)) → Q (some (jI (askR (hasB (A 0 4)) (fun k => -(A 1 k)) n b))) (jG, M) → J l z X (d + 1) mX1_oldestOne (0, 0) 7 [jR h, jI b, jI w, jI x] [] (jG, M) Q := by
  have e4 : M h 4 = A 0 4 := hc.1.1
  intro n
  induction n with
  | zero =>
    intro x b w hx x0 hw k
    exact b_X1_oldestOne_7 hh (fun q => absurd q (by omega)) (fun q => absurd q (by omega)) (fun q => absurd q (by omega)) (fun q => absurd q (by omega)) (fun _ => k) (fun q => absurd q (by omega)) (fun q => absurd q (by omega)) (fun q => absurd q (by omega))
  | succ n ih =>
    intro x b w hx x0 hw k
    unfold askR at k
    rw [← hx] at k
    have h1 : M (h + 1) x = A 1 x := (hc.2 x x0 (by omega)).1.1
    have h2 := ok.2 x x0 (by omega)
    refine b_X1_oldestOne_7 hh (fun _ _ => x0) (fun q _ => q) (fun _ _ _ => x0) (fun q _ _ => q) (fun q => absurd q (by omega)) (fun _ c c2 => ?_) (fun _ c c2 => ?_) (fun _ c => ?_)
    · rw [if_neg] at k
      · exact b_X1_oldestOne_40 hh (jInd (by omega)) (ih _ _ _ (by omega) (by omega) hw k)
      · intro q
        omega
    · rw [e4] at c
      rw [if_pos ⟨c, by omega⟩] at k
      exact b_X1_oldestOne_40 hh (jInd (by omega)) (ih _ _ _ (by omega) (by omega) (Or.inr ⟨x0, by omega, h1⟩) k)
    · rw [e4] at c
      rw [if_neg (by rw [c]; exact fun q => absurd q.1 (by decide))] at k
      exact b_X1_oldestOne_40 hh (jInd (by omega)) (ih _ _ _ (by omega) (by omega) hw k)
theorem c_X1_oldestOne {h : Nat} (hh : jHi h) (hc : cH h M A) (ok : okA A) (k : Q (some (jI (oldA A))) (jG, M)) : J l z X (d + 1) mX1_oldestOne (0, 0) 0 [jR h, jN, jN, jN] [] (jG, M) Q :=
  b_X1_oldestOne_0 hh (c_X1_oldestOne_7 hh hc ok 6 0 (-6) (-1) (by omega) (by omega) (Or.inl ⟨by omega, rfl⟩) k)
end TELL
