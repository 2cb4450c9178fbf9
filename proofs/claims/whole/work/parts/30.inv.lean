/-! ## what the class's cells and the reference's have in common, between two calls -/
theorem jupd_c (M : Nat → Int → Int) (h : Nat) (i x : Int) (c : Nat) : jupd M h i x c = if c = h then (fun j => if j = i then x else M h j) else M c := by
  funext j
  unfold jupd
  by_cases e : c = h
  · subst e
    simp
  · simp [e]
theorem jcpy_c (M : Nat → Int → Int) (h0 h1 : Nat) (n : Int) (c : Nat) : jcpy M h0 h1 n c = if c = h1 then (fun j => if 0 ≤ j ∧ j < n then M h0 j else M h1 j) else M c := by
  funext j
  unfold jcpy
  by_cases e : c = h1
  · subst e
    simp
  · simp [e]
def hR (t b g s : Int) (lk pc yo ea : Int → Int) (t' b' g' s' : Int) (lk' pc' yo' ea' : Int → Int) : Prop :=
  (t' = t ∧ b' = b ∧ g' = g ∧ s' = s) ∧ (0 ≤ t ∧ t ≤ 63 ∧ 0 ≤ b ∧ b ≤ 99 ∧ 0 ≤ g ∧ g ≤ 40 ∧ 0 ≤ s ∧ s ≤ 1) ∧
  ∀ k : Int, 0 ≤ k → k < 6 → (lk' k = lk k ∧ pc' k = pc k ∧ yo' k = yo k) ∧ (hasB t k = true → ea' k = ea k ∧ 1 ≤ pc k) ∧ (0 ≤ lk k ∧ lk k ≤ 99 ∧ 0 ≤ pc k ∧ pc k ≤ 9 ∧ 0 ≤ yo k ∧ yo k ≤ lk k ∧ 0 ≤ ea k ∧ ea k ≤ 2 ∧ 0 ≤ ea' k ∧ ea' k ≤ 2)
def sR (n : Int) (o w : Int → Int) (n' : Int) (o' w' : Int → Int) : Prop :=
  n' = n ∧ 0 ≤ n ∧ n ≤ 8 ∧ ∀ i : Int, 0 ≤ i → i < n → o' i = o i ∧ w' i = w i ∧ 0 ≤ o i ∧ o i ≤ 5 ∧ 0 ≤ w i ∧ w i ≤ 99
def pR (n : Int) (p : Int → Int) (n' : Int) (p' : Int → Int) : Prop := n' = n ∧ 0 ≤ n ∧ n ≤ 60 ∧ ∀ i : Int, 0 ≤ i → i < n → p' i = p i ∧ 33 ≤ p i ∧ p i ≤ 126
def iHill (M : Nat → Int → Int) : Prop := hR (M 1 4) (M 1 5) (M 1 6) (M 1 7) (M 2) (M 3) (M 4) (M 5) (M 96 0) (M 96 1) (M 96 2) (M 96 3) (M 97) (M 98) (M 99) (M 100)
def iSig (M : Nat → Int → Int) : Prop := sR (M 68 2) (M 69) (M 70) (M 96 10) (M 101) (M 102)
def iPad (M : Nat → Int → Int) : Prop := pR (M 6 4) (M 7) (M 96 12) (M 103)
/-- an image: the class's at b, the reference's from place o on -/
def iImg (M : Nat → Int → Int) (b : Nat) (k o : Int) : Prop := M 120 k = M b 2 ∧ (M b 2 = 0 ∨ M b 2 = 1) ∧ (M b 2 = 1 →
  hR (M (b + 1) 4) (M (b + 1) 5) (M (b + 1) 6) (M (b + 1) 7) (M (b + 2)) (M (b + 3)) (M (b + 4)) (M (b + 5)) (M 119 o) (M 119 (o + 1)) (M 119 (o + 2)) (M 119 (o + 3)) (fun j => M 119 (o + 5 + 4 * j)) (fun j => M 119 (o + 6 + 4 * j)) (fun j => M 119 (o + 7 + 4 * j)) (fun j => M 119 (o + 8 + 4 * j)) ∧
  sR (M (b + 6) 2) (M (b + 7)) (M (b + 8)) (M 119 (o + 4)) (fun i => M 119 (o + 29 + 2 * i)) (fun i => M 119 (o + 30 + 2 * i)))
def Inv (M : Nat → Int → Int) : Prop := iHill M ∧ iSig M ∧ iPad M ∧ iImg M 78 0 0 ∧ iImg M 87 1 60
/-- the places on which it rests -/
def core (c : Nat) (i : Int) : Prop := (1 ≤ c ∧ c ≤ 5) ∨ (c = 6 ∧ i = 4) ∨ c = 7 ∨ (68 ≤ c ∧ c ≤ 70) ∨ (78 ≤ c ∧ c ≤ 95) ∨ (c = 96 ∧ (i ≤ 3 ∨ i = 10 ∨ i = 12)) ∨ (97 ≤ c ∧ c ≤ 103) ∨ c = 119 ∨ c = 120
theorem hR_eq {t b g s : Int} {lk pc yo ea : Int → Int} {t' b' g' s' : Int} {lk' pc' yo' ea' : Int → Int} {lk2 pc2 yo2 ea2 lk2' pc2' yo2' ea2' : Int → Int} (h : hR t b g s lk pc yo ea t' b' g' s' lk' pc' yo' ea') (e : ∀ k : Int, 0 ≤ k → k < 6 → lk2 k = lk k ∧ pc2 k = pc k ∧ yo2 k = yo k ∧ ea2 k = ea k ∧ lk2' k = lk' k ∧ pc2' k = pc' k ∧ yo2' k = yo' k ∧ ea2' k = ea' k) : hR t b g s lk2 pc2 yo2 ea2 t' b' g' s' lk2' pc2' yo2' ea2' := by
  refine ⟨h.1, h.2.1, fun k h0 h1 => ?_⟩
  obtain ⟨e1, e2, e3, e4, e5, e6, e7, e8⟩ := e k h0 h1
  rw [e1, e2, e3, e4, e5, e6, e7, e8]
  exact h.2.2 k h0 h1
theorem sR_eq {n : Int} {o w : Int → Int} {n' : Int} {o' w' o2 w2 o2' w2' : Int → Int} (h : sR n o w n' o' w') (e : ∀ i : Int, 0 ≤ i → i < n → o2 i = o i ∧ w2 i = w i ∧ o2' i = o' i ∧ w2' i = w' i) : sR n o2 w2 n' o2' w2' := by
  refine ⟨h.1, h.2.1, h.2.2.1, fun i h0 h1 => ?_⟩
  obtain ⟨e1, e2, e3, e4⟩ := e i h0 h1
  rw [e1, e2, e3, e4]
  exact h.2.2.2 i h0 h1
theorem Inv_same {M M' : Nat → Int → Int} (e : ∀ c i, core c i → M' c i = M c i) (h : Inv M) : Inv M' := by
  obtain ⟨h1, h2, h3, h4, h5⟩ := h
  have f : ∀ c, (1 ≤ c ∧ c ≤ 5) ∨ c = 7 ∨ (68 ≤ c ∧ c ≤ 70) ∨ (78 ≤ c ∧ c ≤ 95) ∨ (97 ≤ c ∧ c ≤ 103) ∨ c = 119 ∨ c = 120 → M' c = M c := fun c hc => funext fun i => e c i (by unfold core; omega)
  have g : ∀ i, i ≤ 3 ∨ i = 10 ∨ i = 12 → M' 96 i = M 96 i := fun i hi => e 96 i (by unfold core; omega)
  have g6 : M' 6 4 = M 6 4 := e 6 4 (by unfold core; omega)
  refine ⟨?_, ?_, ?_, ?_, ?_⟩
  · unfold iHill at h1 ⊢
    rw [f 1 (by omega), f 2 (by omega), f 3 (by omega), f 4 (by omega), f 5 (by omega), g 0 (by omega), g 1 (by omega), g 2 (by omega), g 3 (by omega), f 97 (by omega), f 98 (by omega), f 99 (by omega), f 100 (by omega)]
    exact h1
  · unfold iSig at h2 ⊢
    rw [f 68 (by omega), f 69 (by omega), f 70 (by omega), g 10 (by omega), f 101 (by omega), f 102 (by omega)]
    exact h2
  · unfold iPad at h3 ⊢
    rw [g6, f 7 (by omega), g 12 (by omega), f 103 (by omega)]
    exact h3
  · unfold iImg at h4 ⊢
    rw [f 120 (by omega), f 119 (by omega), f 78 (by omega), f (78 + 1) (by omega), f (78 + 2) (by omega), f (78 + 3) (by omega), f (78 + 4) (by omega), f (78 + 5) (by omega), f (78 + 6) (by omega), f (78 + 7) (by omega), f (78 + 8) (by omega)]
    exact h4
  · unfold iImg at h5 ⊢
    rw [f 120 (by omega), f 119 (by omega), f 87 (by omega), f (87 + 1) (by omega), f (87 + 2) (by omega), f (87 + 3) (by omega), f (87 + 4) (by omega), f (87 + 5) (by omega), f (87 + 6) (by omega), f (87 + 7) (by omega), f (87 + 8) (by omega)]
    exact h5
/-- a call of the class, then of the reference: one answer, and what they have in common stands -/
def Pair (l : Launch) (z : Nat) (X : jX) (mc mm : jMt) (Lc Lm : List jV) : Prop := ∀ M : Nat → Int → Int, Inv M → J l z X 20 mc (0, 0) 0 Lc [] (jG, M) (fun r μ => ∃ (v : Int) (M' : Nat → Int → Int), r = some (jI v) ∧ μ = (jG, M') ∧ J l z X 20 mm (0, 0) 0 Lm [] (jG, M') (fun r' μ' => r' = some (jI v) ∧ ∃ M'' : Nat → Int → Int, μ' = (jG, M'') ∧ Inv M''))
section SIMPLE
variable {l : Launch} {z : Nat} {X : jX}
theorem pr_one (a b c e : Int) : Pair l z X mX9_one mX10_one [jR 0, jI a, jI b, jI c, jI e] [jR 96, jI a, jI b, jI c, jI e] := by
  intro M hI
  obtain ⟨h1, h2, h3, h4, h5⟩ := id hI
  obtain ⟨⟨q1, q2, q3, q4⟩, hr, hk⟩ := h1
  refine b_X9_one_0 (fun c1 c2 c3 c4 => ?_) (fun c1 c2 c3 c4 => ?_) (fun c1 c2 c3 => ?_) (fun c1 c2 => ?_) (fun c1 => ?_)
  · refine b_X1_settle_0 hi_1 (fun _ _ => c1.1) (fun _ _ => by omega) (fun q => absurd c1.1 (by omega)) (fun _ _ => ?_) (fun _ q => absurd c1.2 (by omega))
    have hb := bit_set (t := M 1 4) (k := a) (by omega) (by omega)
    have hg : ∀ M2 : Nat → Int → Int, M2 = jupd (jupd (jupd (jupd (jupd M 1 4 (jor (M 1 4) (jshl 1 a))) (1 + 1) a b) (1 + 2) a c) (1 + 3) a e) (1 + 4) a 0 → J l z X (18 + 2) mX9_one (0, 0) 56 [jR 0, jI a, jI b, jI c, jI e] [] (jG, M2) (fun r μ => ∃ (v : Int) (M' : Nat → Int → Int), r = some (jI v) ∧ μ = (jG, M') ∧ J l z X 20 mX10_one (0, 0) 0 [jR 96, jI a, jI b, jI c, jI e] [] (jG, M') (fun r' μ' => r' = some (jI v) ∧ ∃ M'' : Nat → Int → Int, μ' = (jG, M'') ∧ Inv M'')) := by
      intro M2 e2
      have e3 : M2 1 4 = jor (M 1 4) (jshl 1 a) := by rw [e2]; simp [jupd]
      refine b_X9_one_56 (by rw [e3]; omega) ⟨_, _, rfl, rfl, ?_⟩
      have e4 : M2 96 0 = M 1 4 := by rw [e2, ← q1]; simp [jupd]
      refine b_X10_one_0 (fun _ _ _ _ => c1.1) (fun _ _ _ _ => by omega) (fun _ _ _ _ => ?_) (fun _ _ _ _ => ?_) (fun _ _ _ q => absurd c4 q) (fun _ _ q => absurd c3 q) (fun _ q => absurd c2 q) (fun q => absurd c1 q)
      · simp only [jupd]
        simp
        rw [e4]
        omega
      · refine ⟨?_, _, rfl, ?_⟩
        · rw [e3]
          simp [jupd, e4]
        · subst e2
          refine ⟨⟨?_, ?_, fun k k0 k1 => ?_⟩, ?_, ?_, ?_, ?_⟩
          · simp [jupd, q1, q2, q3, q4]
          · simp [jupd]
            omega
          · have hkk := hk k k0 k1
            have hbk := hb.2 k
            simp [jupd]
            rw [hbk]
            by_cases e9 : k = a
            · simp [e9]
              omega
            · simp [e9]
              simpa using hkk
          · simpa [iSig, jupd_c] using h2
          · simpa [iPad, jupd_c] using h3
          · simpa [iImg, jupd_c] using h4
          · simpa [iImg, jupd_c] using h5
    exact hg _ rfl
  all_goals (refine ⟨_, _, rfl, rfl, ?_⟩; refine b_X10_one_0 (fun _ _ _ _ => by omega) (fun _ _ _ _ => by omega) (fun _ _ _ _ => absurd c1 (by omega)) (fun _ _ _ _ => absurd c1 (by omega)) (fun _ _ _ _ => ⟨?_, _, rfl, hI⟩) (fun _ _ _ => ⟨?_, _, rfl, hI⟩) (fun _ _ => ⟨?_, _, rfl, hI⟩) (fun _ => ⟨?_, _, rfl, hI⟩) <;> first | rfl | (exfalso; omega))
end SIMPLE
