/-! ## the days of the reference -/
def isK (k : Int) : Prop := k = 98 ∨ k = 104 ∨ k = 120 ∨ k = 62 ∨ k = 33 ∨ k = 46
def kM (k : Int) : Int := if k = 98 then 0 else if k = 104 then 1 else if k = 120 then 2 else if k = 62 then 3 else if k = 33 then 4 else 5
theorem kM_iff {k : Int} (h : isK k) : (kM k = 0 ↔ k = 98) ∧ (kM k = 1 ↔ k = 104) ∧ (kM k = 2 ↔ k = 120) ∧ (kM k = 3 ↔ k = 62) ∧ (kM k = 4 ↔ k = 33) ∧ (kM k = 5 ↔ k = 46) ∧ 0 ≤ kM k ∧ kM k ≤ 5 := by
  rcases h with h | h | h | h | h | h <;> subst h <;> decide
def mF (M M' : Nat → Int → Int) : Prop := (∀ c, c ≠ 96 → c ≠ 97 → c ≠ 100 → c ≠ 107 → c ≠ 108 → M' c = M c) ∧ ∀ j : Int, j ≠ 0 → j ≠ 1 → j ≠ 3 → j ≠ 17 → j ≠ 18 → j ≠ 19 → M' 96 j = M 96 j
theorem mF_rfl (M : Nat → Int → Int) : mF M M := ⟨fun _ _ _ _ _ _ => rfl, fun _ _ _ _ _ _ _ => rfl⟩
theorem mF_trans {M M' M'' : Nat → Int → Int} (h : mF M M') (g : mF M' M'') : mF M M'' := ⟨fun c h1 h2 h3 h4 h5 => (g.1 c h1 h2 h3 h4 h5).trans (h.1 c h1 h2 h3 h4 h5), fun j h1 h2 h3 h4 h5 h6 => (g.2 j h1 h2 h3 h4 h5 h6).trans (h.2 j h1 h2 h3 h4 h5 h6)⟩
theorem cM_eq {M A A' : Nat → Int → Int} (hc : cM M A) (e : ∀ c, c ≤ 4 → A' c = A c) : cM M A' := by
  unfold cM
  rw [e 0 (by omega), e 1 (by omega), e 2 (by omega), e 3 (by omega), e 4 (by omega)]
  exact hc
section MLIVE
variable {l : Launch} {z d : Nat} {X : jX} {M A : Nat → Int → Int} {Q : Option jV → jM → Prop}
theorem c_X10_whyNot (hc : cM M A) (ok : okA A) {k x y : Int} (hk : isK k) (kk : Q (some (jI (whyA A k x y))) (jG, M)) : J l z X (d + 3) mX10_whyNot (0, 0) 0 [jR 96, jI (kM k), jI x, jI y, jN] [] (jG, M) Q := by
  obtain ⟨i0, i1, i2, i3, i4, i5, _⟩ := kM_iff hk
  have e4 := hc.1.1
  have e5 := hc.1.2.1
  have hgo : ∀ n : Int, n = (if k = 98 then 2 else 1) → kM k ≠ 4 → kM k ≠ 5 → hasB (M 96 0) x = true → kM k ≠ 2 → kM k ≠ 3 → J l z X (d + 3) mX10_whyNot (0, 0) 50 [jR 96, jI (kM k), jI x, jI y, jN] [jI n] (jG, M) Q := by
    intro n hn c1 c2 c3 c4 c5
    rw [e4] at c3
    have hx' := hasB_in c3
    have ex := (hc.2 x hx'.1 hx'.2).2.1 c3
    have ox := (ok.2 x hx'.1 hx'.2).2.2.2.1
    unfold whyA at kk
    rw [if_neg (by omega), if_neg (by rw [c3]; decide), if_neg (by omega), if_neg (by omega), ← hn] at kk
    have hn2 : 1 ≤ n ∧ n ≤ 2 := by rw [hn]; split <;> omega
    refine b_X10_whyNot_50 hx'.1 hx'.2 (jInd (by omega)) (fun g1 g2 => ?_) (fun g1 g2 => ?_) (fun g1 => ?_)
    · rw [if_neg (by omega), if_neg (by omega)] at kk; exact kk
    · rw [if_neg (by omega), if_pos (by omega)] at kk; exact kk
    · rw [if_pos (by omega)] at kk; exact kk
  refine b_X10_whyNot_0 (fun c => ?_) (fun c1 c2 c3 c4 c5 c6 => hgo 1 ?_ c1 c2 c3 c4 c5) (fun c1 c2 c3 c4 c5 c6 => hgo 2 ?_ c1 c2 c3 c4 c5) (fun c1 c2 c3 c4 c5 => ?_) (fun c1 c2 c3 c4 => ?_) (fun c1 c2 c3 => ?_) (fun c1 c2 => ?_)
  · unfold whyA at kk
    rw [if_pos (by omega)] at kk; exact kk
  · rw [if_neg (by omega)]
  · rw [if_pos (by omega)]
  · rw [e4] at c3
    have hx' := hasB_in c3
    have ex := (hc.2 x hx'.1 hx'.2).2.1 c3
    unfold whyA at kk
    rw [if_neg (by omega), if_neg (by rw [c3]; decide), if_pos (by omega)] at kk
    refine b_X10_whyNotGive_0 (fun c _ => (hasB_in c).1) (fun c _ => (hasB_in c).2) (fun _ _ _ => hx'.1) (fun _ _ _ => hx'.2) (fun g1 g2 g3 g4 => ?_) (fun g1 g2 g3 g4 => ?_) (fun g1 g2 g3 => ?_) (fun g1 g2 => ?_) (fun g1 => ?_)
    all_goals refine b_X10_whyNot_40 ?_
    all_goals rw [e4] at g1
    · have ey := (hc.2 y (hasB_in g1).1 (hasB_in g1).2).2.1 g1
      rw [if_neg (by rw [g1]; decide), if_neg g2, if_neg (by omega), if_neg (by omega)] at kk; exact kk
    · have ey := (hc.2 y (hasB_in g1).1 (hasB_in g1).2).2.1 g1
      rw [if_neg (by rw [g1]; decide), if_neg g2, if_neg (by omega), if_pos (by omega)] at kk; exact kk
    · have ey := (hc.2 y (hasB_in g1).1 (hasB_in g1).2).2.1 g1
      rw [if_neg (by rw [g1]; decide), if_neg g2, if_pos (by omega)] at kk; exact kk
    · rw [if_neg (by rw [g1]; decide), if_pos g2] at kk; exact kk
    · rw [if_pos g1] at kk; exact kk
  · rw [e4] at c3
    unfold whyA at kk
    rw [if_neg (by omega), if_neg (by rw [c3]; decide), if_neg (by omega), if_pos (by omega)] at kk; exact kk
  · rw [e4] at c3
    unfold whyA at kk
    rw [if_neg (by omega), if_pos c3] at kk; exact kk
  · unfold whyA at kk
    rw [if_pos (by omega)] at kk; exact kk
theorem c_X10_passing_12 (hc : cM M A) (ok : okA A) (ha : ∀ k : Int, 0 ≤ k → k < 6 → M 108 k = A 7 k ∧ 0 ≤ A 7 k ∧ A 7 k ≤ 99) {i : Int} (hi : 0 ≤ i ∧ i < 6) : ∀ (n : Nat) (j : Int), j = 6 - (n : Int) → 0 ≤ j → (pairJ A i n ≠ -6 → Q (some (jI (pairJ A i n))) (jG, M)) → (pairJ A i n = -6 → J l z X (d + 2) mX10_passing (0, 0) 2 [jR 96, jI (i + 1), jN, jN, jN, jN] [] (jG, M) Q) → J l z X (d + 2) mX10_passing (0, 0) 12 [jR 96, jI i, jI j, jN, jN, jN] [] (jG, M) Q := by
  have e4 : M 96 0 = A 0 4 := hc.1.1
  intro n
  induction n with
  | zero =>
    intro j hj j0 k1 k2
    exact b_X10_passing_12 (fun _ => jInd (by omega)) (fun q => absurd q (by omega)) (fun q => absurd q (by omega)) (fun q => absurd q (by omega)) (fun q => absurd q (by omega)) (fun q => absurd q (by omega)) (fun q => absurd q (by omega)) (fun _ => k2 rfl) (fun q => absurd q (by omega)) (fun q => absurd q (by omega)) (fun q => absurd q (by omega))
  | succ n ih =>
    intro j hj j0 k1 k2
    have a1 := ha i hi.1 hi.2
    have a2 := ha j j0 (by omega)
    have e1 := (hc.2 i hi.1 hi.2).1.1
    have e2 := (hc.2 j j0 (by omega)).1.1
    have o1 := (ok.2 i hi.1 hi.2).1
    have o2 := (ok.2 j j0 (by omega)).1
    unfold pairJ at k1 k2
    rw [← hj] at k1 k2
    have hno : crossB A i j = false → ∀ u v w : Int, J l z X (d + 2) mX10_passing (0, 0) 100 [jR 96, jI i, jI j, jI u, jI v, jI w] [] (jG, M) Q := by
      intro e u v w
      rw [if_neg (by rw [e]; decide)] at k1 k2
      exact b_X10_passing_100 (jInd (by omega)) (ih _ (by omega) (by omega) k1 k2)
    have hgo : ∀ (b : Bool) (u v : Int), (b = true ↔ ((A 7 i < A 7 j ∧ A 1 j < A 1 i) ∨ (A 7 j < A 7 i ∧ A 1 i < A 1 j))) → J l z X (d + 2) mX10_passing (0, 0) 70 [jR 96, jI i, jI j, jI u, jI v, jN] [jI (bI b)] (jG, M) Q := by
      intro b u v hb
      refine b_X10_passing_70 (fun _ _ _ => jInd (by omega)) (fun _ _ _ => jInd (by omega)) (fun c1 c2 c3 => hno ?_ _ _ _) (fun c1 c2 c3 => ?_) (fun c1 c2 => hno ?_ _ _ _) (fun c1 => hno ?_ _ _ _)
      · have eb : b = false := by
          revert c3
          unfold bI
          cases b
          · intro _; rfl
          · intro q; exact absurd q (by decide)
        unfold crossB
        have : ¬ ((A 7 i < A 7 j ∧ A 1 j < A 1 i) ∨ (A 7 j < A 7 i ∧ A 1 i < A 1 j)) := fun q => by
          have := hb.2 q
          rw [eb] at this
          exact absurd this (by decide)
        simp only [decide_eq_false this, Bool.and_false]
      · have eb : b = true := by
          revert c3
          unfold bI
          cases b
          · intro q; exact absurd rfl q
          · intro _; rfl
        rw [e4] at c1 c2
        have e : crossB A i j = true := by
          unfold crossB
          simp only [decide_eq_true (hb.1 eb), c1, c2, Bool.and_true]
        rw [if_pos e] at k1
        exact k1 (by omega)
      · rw [e4] at c1 c2
        unfold crossB
        rw [c1, c2]; rfl
      · rw [e4] at c1
        unfold crossB
        rw [c1]; rfl
    have hz : ∀ u v : Int, (¬ ((A 7 i < A 7 j ∧ A 1 j < A 1 i) ∨ (A 7 j < A 7 i ∧ A 1 i < A 1 j))) → J l z X (d + 2) mX10_passing (0, 0) 69 [jR 96, jI i, jI j, jI u, jI v, jN] [] (jG, M) Q := fun u v e => b_X10_passing_69 (hgo false u v ⟨fun q => absurd q (by decide), fun q => absurd q e⟩)
    have h1 : ∀ u v : Int, ((A 7 i < A 7 j ∧ A 1 j < A 1 i) ∨ (A 7 j < A 7 i ∧ A 1 i < A 1 j)) → J l z X (d + 2) mX10_passing (0, 0) 65 [jR 96, jI i, jI j, jI u, jI v, jN] [] (jG, M) Q := fun u v e => b_X10_passing_65 (hgo true u v ⟨fun _ => e, fun _ => rfl⟩)
    refine b_X10_passing_12 (fun q => absurd q (by omega)) (fun _ => hi.1) (fun _ => hi.2) (fun _ => j0) (fun q => q) (fun _ => jInd (by omega)) (fun _ => jInd (by omega)) (fun q => absurd q (by omega)) (fun _ c => ?_) (fun _ c c2 => h1 _ _ (by omega)) (fun _ c c2 => ?_)
    · exact b_X10_passing_56 (fun c2 => hz _ _ (by omega)) (fun c2 c3 => hz _ _ (by omega)) (fun c2 c3 => h1 _ _ (by omega))
    · exact b_X10_passing_56 (fun c2 => hz _ _ (by omega)) (fun c2 c3 => hz _ _ (by omega)) (fun c2 c3 => h1 _ _ (by omega))
theorem c_X10_passing_2 (hc : cM M A) (ok : okA A) (ha : ∀ k : Int, 0 ≤ k → k < 6 → M 108 k = A 7 k ∧ 0 ≤ A 7 k ∧ A 7 k ≤ 99) : ∀ (n : Nat) (i : Int), i = 6 - (n : Int) → 0 ≤ i → Q (some (jI (pairI A n))) (jG, M) → J l z X (d + 2) mX10_passing (0, 0) 2 [jR 96, jI i, jN, jN, jN, jN] [] (jG, M) Q := by
  intro n
  induction n with
  | zero =>
    intro i hi i0 k
    exact b_X10_passing_2 (fun q => absurd q (by omega)) (fun _ => k) (fun q => absurd q (by omega))
  | succ n ih =>
    intro i hi i0 k
    unfold pairI at k
    rw [← hi] at k
    refine b_X10_passing_2 (fun _ => jInd (by omega)) (fun q => absurd q (by omega)) (fun _ => ?_)
    refine c_X10_passing_12 hc ok ha ⟨i0, by omega⟩ n (i + 1) (by omega) (by omega) (fun c => ?_) (fun c => ?_)
    · rw [if_neg c] at k; exact k
    · rw [if_pos c] at k
      exact ih _ (by omega) (by omega) k
theorem c_X10_oldestNow_5 (hc : cM M A) : ∀ (n : Nat) (x b : Int), x = 6 - (n : Int) → 0 ≤ x → b < 6 → Q (some (jI (askR (hasB (A 0 4)) (fun k => -(A 1 k)) n b))) (jG, M) → J l z X (d + 2) mX10_oldestNow (0, 0) 5 [jR 96, jI b, jI x] [] (jG, M) Q := by
  have e4 : M 96 0 = A 0 4 := hc.1.1
  intro n
  induction n with
  | zero =>
    intro x b hx x0 hb k
    exact b_X10_oldestNow_5 (fun q => absurd q (by omega)) (fun q => absurd q (by omega)) (fun q => absurd q (by omega)) (fun q => absurd q (by omega)) (fun _ => k) (fun q => absurd q (by omega)) (fun q => absurd q (by omega)) (fun q => absurd q (by omega)) (fun q => absurd q (by omega))
  | succ n ih =>
    intro x b hx x0 hb k
    unfold askR at k
    rw [← hx] at k
    have h1 : M 97 x = A 1 x := (hc.2 x x0 (by omega)).1.1
    have hno : ¬ (hasB (A 0 4) x = true ∧ (b < 0 ∨ -(A 1 x) < -(A 1 b))) → J l z X (d + 2) mX10_oldestNow (0, 0) 42 [jR 96, jI b, jI x] [] (jG, M) Q := fun e => by
      rw [if_neg e] at k
      exact b_X10_oldestNow_42 (b_X10_oldestNow_43 (jInd (by omega)) (ih _ _ (by omega) (by omega) hb k))
    have hyes : (hasB (A 0 4) x = true ∧ (b < 0 ∨ -(A 1 x) < -(A 1 b))) → J l z X (d + 2) mX10_oldestNow (0, 0) 38 [jR 96, jI b, jI x] [] (jG, M) Q := fun e => by
      rw [if_pos e] at k
      exact b_X10_oldestNow_38 (b_X10_oldestNow_43 (jInd (by omega)) (ih _ _ (by omega) (by omega) (by omega) k))
    refine b_X10_oldestNow_5 (fun _ _ _ => x0) (fun q _ _ => q) (fun _ _ q => q) (fun _ _ _ => hb) (fun q => absurd q (by omega)) (fun _ c c2 => ?_) (fun _ c c2 c3 => hno ?_) (fun _ c c2 c3 => ?_) (fun _ c => hno ?_)
    · rw [e4] at c
      exact hyes ⟨c, Or.inl c2⟩
    · have h2 : M 97 b = A 1 b := (hc.2 b c2 hb).1.1
      omega
    · rw [e4] at c
      have h2 : M 97 b = A 1 b := (hc.2 b c2 hb).1.1
      exact hyes ⟨c, Or.inr (by omega)⟩
    · rw [e4] at c
      rw [c]
      exact fun q => absurd q.1 (by decide)
theorem c_X10_oldestNow (hc : cM M A) (k : Q (some (jI (oldA A))) (jG, M)) : J l z X (d + 2) mX10_oldestNow (0, 0) 0 [jR 96, jN, jN] [] (jG, M) Q :=
  b_X10_oldestNow_0 (c_X10_oldestNow_5 hc 6 0 (-6) (by omega) (by omega) (by omega) k)
end MLIVE
