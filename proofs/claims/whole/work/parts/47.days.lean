/-! ## the days, both -/
def zB : Nat → Int → Int := fun _ _ => 0
def Bof (M : Nat → Int → Int) : Nat → Int → Int := readB (M 7) (M 6 4).toNat 0 zB
def Vof (M : Nat → Int → Int) : Int := readV (M 7) (M 6 4) (M 6 4).toNat 0 zB
def Aof (M : Nat → Int → Int) : Nat → Int → Int := runA (Bof M 1) (Bof M 2) (Bof M 3) (Bof M 0 0).toNat 0 (startA M)
theorem okB_z : okB zB 0 := ⟨by simp [zB], Or.inl rfl, fun j j0 j1 => by simp [zB] at j1; omega⟩
theorem Bof_ok {M : Nat → Int → Int} (hI : Inv M) : okB (Bof M) (M 6 4) ∧ 0 ≤ M 6 4 ∧ M 6 4 ≤ 60 := by
  have h := hI.2.2.1
  have h0 := h.2.1
  have h1 := h.2.2.1
  have := readB_ok (p := M 7) (M 6 4).toNat 0 zB okB_z
  have e : (0 : Int) + ((M 6 4).toNat : Int) = M 6 4 := by omega
  rw [e] at this
  exact ⟨this, h0, h1⟩
def frL (M M' : Nat → Int → Int) : Prop := (∀ c, ¬ (c = 6 ∨ (8 ≤ c ∧ c ≤ 18)) → M' c = M c) ∧ ∀ j : Int, j ≠ 5 → M' 6 j = M 6 j
theorem startA_eq {M M' : Nat → Int → Int} (h : ∀ c, 1 ≤ c → c ≤ 5 → M' c = M c) : startA M' = startA M := by
  unfold startA
  rw [h 1 (by omega) (by omega), h 2 (by omega) (by omega), h 3 (by omega) (by omega), h 4 (by omega) (by omega), h 5 (by omega) (by omega)]
theorem frL_eq {M M' : Nat → Int → Int} (h : frL M M') : Bof M' = Bof M ∧ Vof M' = Vof M ∧ Aof M' = Aof M := by
  have e7 := h.1 7 (by omega)
  have e6 := h.2 4 (by omega)
  have eB : Bof M' = Bof M := by unfold Bof; rw [e7, e6]
  refine ⟨eB, by unfold Vof; rw [e7, e6], ?_⟩
  unfold Aof
  rw [eB, startA_eq (fun c c1 c2 => h.1 c (by omega))]
theorem Inv_frL {M M' : Nat → Int → Int} (hI : Inv M) (h : frL M M') : Inv M' := Inv_same (fun c i hc => by
  by_cases e : c = 6
  · subst e
    unfold core at hc
    exact h.2 i (by omega)
  · unfold core at hc
    rw [h.1 c (by omega)]) hI
theorem runA_congr {K Xs Ys Ys' : Int → Int} (h : ∀ i, K i = 62 → Ys' i = Ys i) : ∀ (m : Nat) (i : Int) (A : Nat → Int → Int), runA K Xs Ys' m i A = runA K Xs Ys m i A
  | 0, _, _ => rfl
  | m + 1, i, A => by
    have e : whyA A (K i) (Xs i) (Ys' i) = whyA A (K i) (Xs i) (Ys i) ∧ dayA A (K i) (Xs i) (Ys' i) = dayA A (K i) (Xs i) (Ys i) := by
      by_cases c : K i = 62
      · rw [h i c]; exact ⟨rfl, rfl⟩
      · unfold whyA dayA actA
        simp [c]
    unfold runA
    rw [e.1, e.2]
    by_cases c : whyA A (K i) (Xs i) (Ys i) = 0
    · rw [if_pos c, if_pos c]
      exact runA_congr h m _ _
    · rw [if_neg c, if_neg c]
section DAYS
variable {l : Launch} {z d : Nat} {X : jX} {M : Nat → Int → Int} {Q : Option jV → jM → Prop}
theorem c_X4_read (hI : Inv M) (hq : ∀ M', rC M' (Bof M) → fC M M' → Q (some (jI (Vof M))) (jG, M')) : J l z X (d + 1) mX4_read (0, 0) 0 [jR 6, jN, jN, jN, jN] [] (jG, M) Q := by
  have hp := hI.2.2.1
  have h0 := hp.2.1
  refine b_X4_read_0 (c_X4_read_11 (M0 := M) hp (M 6 4).toNat 0 0 0 zB _ (by omega) (by omega) rfl rfl okB_z ⟨by simp [jupd, zB], fun i i0 i1 => by simp [zB] at i1; omega⟩ ⟨fun c g1 g2 g3 g4 => by rw [jupd_c, if_neg g1], fun j g => by simp [jupd, g]⟩ hq)
theorem c_X9_liveDays (hI : Inv M) (hq5 : Vof M ≠ -6 → ∀ M', frL M M' → Q (some (jI (-5))) (jG, M')) (hq : Vof M = -6 → ∀ M', frL M M' → cH 12 M' (Aof M) → okA (Aof M) → cD M' (Aof M) → Aof M 5 0 ≤ 60 → M' 11 4 = Aof M 8 0 → M' 11 5 = Aof M 8 1 → M' 6 5 = Bof M 0 0 → Q (some (jI (if Aof M 8 0 = -6 then 0 else -3))) (jG, M')) : J l z X (d + 5) mX9_liveDays (0, 0) 0 [jR 0] [] (jG, M) Q := by
  obtain ⟨ob, l0, l1⟩ := Bof_ok hI
  refine b_X9_liveDays_0 (c_X4_read hI (fun M1 r1 f1 => ?_))
  have fr1 : frL M M1 := ⟨fun c hc => f1.1 c (by omega) (by omega) (by omega) (by omega), f1.2⟩
  refine b_X9_liveDays_7 (fun hv => ?_) (fun hv => hq5 hv M1 fr1)
  refine c_X0_live (K := Bof M 1) (Xs := Bof M 2) (Ys := Bof M 3) (Inv_frL hI fr1) (by rw [r1.1]; exact ⟨ob.1.1, by have := ob.1.2; omega⟩) (by rw [r1.1]; exact r1.2) (fun M2 A2 eA hc ok hd h5 h8 h9 hf => ?_)
  have eA2 : A2 = Aof M := by
    rw [eA, r1.1, startA_eq (fun c c1 c2 => fr1.1 c (by omega))]
    rfl
  rw [eA2] at hc ok hd h5 h8 h9
  have fr2 : frL M M2 := ⟨fun c hcc => by rw [hf c (by omega)]; exact fr1.1 c hcc, fun j g => by rw [hf 6 (by omega)]; exact fr1.2 j g⟩
  have := hq hv M2 fr2 hc ok hd h5 h8 h9 (by rw [hf 6 (by omega)]; exact r1.1)
  refine b_X9_liveDays_30 (fun g => ?_) (fun g => ?_)
  · rw [h8] at g
    rw [if_neg g] at this
    exact this
  · rw [h8] at g
    rw [if_pos g] at this
    exact this
/-- the reference's -/
def mP (M M' : Nat → Int → Int) : Prop := (∀ c, ¬ ((96 ≤ c ∧ c ≤ 97) ∨ c = 100 ∨ (104 ≤ c ∧ c ≤ 109)) → M' c = M c) ∧ (∀ j : Int, j ≠ 0 → j ≠ 1 → j ≠ 3 → j ≠ 16 → j ≠ 17 → j ≠ 18 → j ≠ 19 → j ≠ 23 → j ≠ 24 → M' 96 j = M 96 j) ∧ (∀ j : Int, 0 ≤ j → j < 6 → M' 109 j = M 97 j ∧ M' 109 (6 + j) = M 100 j) ∧ M' 109 12 = M 96 0 ∧ M' 109 13 = M 96 1 ∧ M' 109 14 = M 96 3
theorem c_X10_keepNow_2 : ∀ (n : Nat) (x : Int) (M1 : Nat → Int → Int), x = 6 - (n : Int) → 0 ≤ x → (∀ c, c ≠ 109 → M1 c = M c) → (∀ j : Int, 0 ≤ j → j < x → M1 109 j = M 97 j ∧ M1 109 (6 + j) = M 100 j) → (∀ M', (∀ c, c ≠ 109 → M' c = M c) → (∀ j : Int, 0 ≤ j → j < 6 → M' 109 j = M 97 j ∧ M' 109 (6 + j) = M 100 j) → M' 109 12 = M 96 0 → M' 109 13 = M 96 1 → M' 109 14 = M 96 3 → Q none (jG, M')) → J l z X d mX10_keepNow (0, 0) 2 [jR 96, jI x] [] (jG, M1) Q := by
  intro n
  induction n with
  | zero =>
    intro x M1 hx x0 f g hq
    have e96 := f 96 (by omega)
    refine b_X10_keepNow_2 (fun q => absurd q (by omega)) (fun q => absurd q (by omega)) (fun q => absurd q (by omega)) (fun q => absurd q (by omega)) (fun q => absurd q (by omega)) (fun q => absurd q (by omega)) (fun q => absurd q (by omega)) (fun _ => hq _ (fun c hc => ?_) (fun j j0 j1 => ?_) ?_ ?_ ?_) (fun q => absurd q (by omega))
    · rw [jupd_c, if_neg hc, jupd_c, if_neg hc, jupd_c, if_neg hc]
      exact f c hc
    · have := g j j0 (by omega)
      simp [jupd]
      rw [if_neg (by omega), if_neg (by omega), if_neg (by omega), if_neg (by omega), if_neg (by omega), if_neg (by omega)]
      exact this
    · simp [jupd, e96]
    · simp [jupd, e96]
    · simp [jupd, e96]
  | succ n ih =>
    intro x M1 hx x0 f g hq
    refine b_X10_keepNow_2 (fun _ => x0) (fun q => q) (fun _ => by omega) (fun _ => jInd (by omega)) (fun _ => by omega) (fun _ => by omega) (fun _ => jInd (by omega)) (fun q => absurd q (by omega)) (fun _ => ih _ _ (by omega) (by omega) (fun c hc => ?_) (fun j j0 j1 => ?_) hq)
    · rw [jupd_c, if_neg hc, jupd_c, if_neg hc]
      exact f c hc
    · have e97 := f 97 (by omega)
      have e100 := f 100 (by omega)
      by_cases e : j = x
      · subst e
        simp [jupd, e97, e100]
        omega
      · have := g j j0 (by omega)
        simp [jupd, e97, e100]
        rw [if_neg (by omega), if_neg (by omega), if_neg (by omega), if_neg (by omega)]
        exact this
theorem c_X10_back_2 {v : Int} : ∀ (n : Nat) (x : Int) (M1 : Nat → Int → Int), x = 6 - (n : Int) → 0 ≤ x → (∀ c, c ≠ 97 → c ≠ 100 → M1 c = M c) → (∀ j : Int, 0 ≤ j → j < x → M1 97 j = M 109 j ∧ M1 100 j = M 109 (6 + j)) → (∀ M', (∀ c, c ≠ 96 → c ≠ 97 → c ≠ 100 → M' c = M c) → (∀ j : Int, j ≠ 0 → j ≠ 1 → j ≠ 3 → M' 96 j = M 96 j) → (∀ j : Int, 0 ≤ j → j < 6 → M' 97 j = M 109 j ∧ M' 100 j = M 109 (6 + j)) → M' 96 0 = M 109 12 → M' 96 1 = M 109 13 → M' 96 3 = M 109 14 → Q (some (jI v)) (jG, M')) → J l z X d mX10_back (0, 0) 2 [jR 96, jI v, jI x] [] (jG, M1) Q := by
  intro n
  induction n with
  | zero =>
    intro x M1 hx x0 f g hq
    have e96 := f 96 (by omega) (by omega)
    have e109 := f 109 (by omega) (by omega)
    refine b_X10_back_2 (fun q => absurd q (by omega)) (fun q => absurd q (by omega)) (fun q => absurd q (by omega)) (fun q => absurd q (by omega)) (fun q => absurd q (by omega)) (fun q => absurd q (by omega)) (fun q => absurd q (by omega)) (fun _ => hq _ (fun c h1 h2 h3 => ?_) (fun j h1 h2 h3 => ?_) (fun j j0 j1 => ?_) ?_ ?_ ?_) (fun q => absurd q (by omega))
    · rw [jupd_c, if_neg h1, jupd_c, if_neg h1, jupd_c, if_neg h1]
      exact f c h2 h3
    · simp [jupd, h1, h2, h3, e96]
    · simpa [jupd] using g j j0 (by omega)
    · simp [jupd, e109]
    · simp [jupd, e109]
    · simp [jupd, e109]
  | succ n ih =>
    intro x M1 hx x0 f g hq
    have e109 := f 109 (by omega) (by omega)
    refine b_X10_back_2 (fun _ => x0) (fun _ => by omega) (fun q => q) (fun _ => jInd (by omega)) (fun _ => by omega) (fun _ => by omega) (fun _ => jInd (by omega)) (fun q => absurd q (by omega)) (fun _ => ih _ _ (by omega) (by omega) (fun c h2 h3 => ?_) (fun j j0 j1 => ?_) hq)
    · rw [jupd_c, if_neg h3, jupd_c, if_neg h2]
      exact f c h2 h3
    · by_cases e : j = x
      · subst e
        simp [jupd, e109]
      · simpa [jupd, e] using g j j0 (by omega)
theorem c_X10_back {v : Int} (hq : ∀ M', (∀ c, c ≠ 96 → c ≠ 97 → c ≠ 100 → M' c = M c) → (∀ j : Int, j ≠ 0 → j ≠ 1 → j ≠ 3 → M' 96 j = M 96 j) → (∀ j : Int, 0 ≤ j → j < 6 → M' 97 j = M 109 j ∧ M' 100 j = M 109 (6 + j)) → M' 96 0 = M 109 12 → M' 96 1 = M 109 13 → M' 96 3 = M 109 14 → Q (some (jI v)) (jG, M')) : J l z X d mX10_back (0, 0) 0 [jR 96, jI v, jN] [] (jG, M) Q :=
  b_X10_back_0 (c_X10_back_2 6 0 M (by omega) (by omega) (fun _ _ _ => rfl) (fun j j0 j1 => by omega) hq)
theorem Inv_back {M1 M2 M3 : Nat → Int → Int} (hI : Inv M1) (hp : mP M1 M2) (h1 : ∀ c, c ≠ 96 → c ≠ 97 → c ≠ 100 → M3 c = M2 c) (h2 : ∀ j : Int, j ≠ 0 → j ≠ 1 → j ≠ 3 → M3 96 j = M2 96 j) (h3 : ∀ j : Int, 0 ≤ j → j < 6 → M3 97 j = M2 109 j ∧ M3 100 j = M2 109 (6 + j)) (h4 : M3 96 0 = M2 109 12) (h5 : M3 96 1 = M2 109 13) (h6 : M3 96 3 = M2 109 14) : Inv M3 := by
  obtain ⟨p1, p2, p3, p4, p5, p6⟩ := hp
  have e : ∀ c, ¬ ((96 ≤ c ∧ c ≤ 97) ∨ c = 100 ∨ (104 ≤ c ∧ c ≤ 109)) → M3 c = M1 c := fun c hc => (h1 c (by omega) (by omega) (by omega)).trans (p1 c hc)
  have e96 : ∀ j : Int, j = 0 ∨ j = 1 ∨ j = 2 ∨ j = 3 ∨ j = 10 ∨ j = 12 → M3 96 j = M1 96 j := by
    intro j hj
    rcases hj with hj | hj | hj | hj | hj | hj <;> subst hj
    · rw [h4, p4]
    · rw [h5, p5]
    · rw [h2 2 (by omega) (by omega) (by omega), p2 2 (by omega) (by omega) (by omega) (by omega) (by omega) (by omega) (by omega) (by omega) (by omega)]
    · rw [h6, p6]
    · rw [h2 10 (by omega) (by omega) (by omega), p2 10 (by omega) (by omega) (by omega) (by omega) (by omega) (by omega) (by omega) (by omega) (by omega)]
    · rw [h2 12 (by omega) (by omega) (by omega), p2 12 (by omega) (by omega) (by omega) (by omega) (by omega) (by omega) (by omega) (by omega) (by omega)]
  obtain ⟨g1, g2, g3, g4, g5⟩ := hI
  refine ⟨?_, ?_, ?_, ?_, ?_⟩
  · unfold iHill at g1 ⊢
    rw [e 1 (by omega), e 2 (by omega), e 3 (by omega), e 4 (by omega), e 5 (by omega), e96 0 (by omega), e96 1 (by omega), e96 2 (by omega), e96 3 (by omega), e 98 (by omega), e 99 (by omega)]
    refine hR_eq g1 (fun k k0 k1 => ⟨rfl, rfl, rfl, rfl, ?_, rfl, rfl, ?_⟩)
    · rw [(h3 k k0 k1).1, (p3 k k0 k1).1]
    · rw [(h3 k k0 k1).2, (p3 k k0 k1).2]
  · unfold iSig at g2 ⊢
    rw [e 68 (by omega), e 69 (by omega), e 70 (by omega), e96 10 (by omega), e 101 (by omega), e 102 (by omega)]
    exact g2
  · unfold iPad at g3 ⊢
    rw [e 6 (by omega), e 7 (by omega), e96 12 (by omega), e 103 (by omega)]
    exact g3
  · unfold iImg at g4 ⊢
    rw [e 120 (by omega), e 119 (by omega), e 78 (by omega), e (78 + 1) (by omega), e (78 + 2) (by omega), e (78 + 3) (by omega), e (78 + 4) (by omega), e (78 + 5) (by omega), e (78 + 6) (by omega), e (78 + 7) (by omega), e (78 + 8) (by omega)]
    exact g4
  · unfold iImg at g5 ⊢
    rw [e 120 (by omega), e 119 (by omega), e 87 (by omega), e (87 + 1) (by omega), e (87 + 2) (by omega), e (87 + 3) (by omega), e (87 + 4) (by omega), e (87 + 5) (by omega), e (87 + 6) (by omega), e (87 + 7) (by omega), e (87 + 8) (by omega)]
    exact g5
theorem cM_start {M M' : Nat → Int → Int} (hI : Inv M) (h96 : ∀ j : Int, j = 0 ∨ j = 1 ∨ j = 2 ∨ j = 3 → M' 96 j = M 96 j) (h97 : M' 97 = M 97) (h98 : M' 98 = M 98) (h99 : M' 99 = M 99) (h100 : M' 100 = M 100) : cM M' (startA M) := by
  obtain ⟨⟨q1, q2, q3, q4⟩, hr, hk⟩ := hI.1
  refine ⟨?_, fun k k0 k1 => ?_⟩
  · rw [h96 0 (by omega), h96 1 (by omega), h96 2 (by omega), h96 3 (by omega)]
    simp [startA, q1, q2, q3, q4]
  · have := hk k k0 k1
    rw [h97, h98, h99, h100]
    simp [startA]
    refine ⟨this.1, fun q => (this.2.1 q).1, by omega, by omega⟩
end DAYS
