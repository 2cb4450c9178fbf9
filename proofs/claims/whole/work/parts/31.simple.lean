section SIMPLE2
variable {l : Launch} {z : Nat} {X : jX}
theorem pr_leave (a : Int) : Pair l z X mX9_leave mX10_leave [jR 0, jI a] [jR 96, jI a] := by
  intro M hI
  obtain ⟨h1, h2, h3, h4, h5⟩ := id hI
  obtain ⟨⟨q1, q2, q3, q4⟩, hr, hk⟩ := h1
  refine b_X9_leave_0 (fun c => ?_) (fun c => ⟨_, _, rfl, rfl, ?_⟩)
  · have hb := bit_clr (t := M 1 4) (k := a) (by omega) (by have := hasB_in c; omega)
    refine b_X1_drop_0 hi_1 (fun _ => ?_) (fun q => absurd (c.symm.trans q) (by decide))
    refine b_X9_leave_21 (by simp [jupd]; omega) ⟨_, _, rfl, rfl, ?_⟩
    have e4 : (jupd M 1 4 (jand (M 1 4) (jxor (jshl 1 a) (-1)))) 96 0 = M 1 4 := by simp [jupd, q1]
    refine b_X10_leave_0 (fun _ => ?_) (fun _ => ?_) (fun q => ?_)
    · rw [jupd_s, e4]; omega
    · refine ⟨?_, _, rfl, ?_⟩
      · rw [jupd_s, jupd_s, e4]
      · refine ⟨⟨?_, ?_, fun k k0 k1 => ?_⟩, ?_, ?_, ?_, ?_⟩
        · simp [jupd, q1, q2, q3, q4]
        · simp [jupd]
          omega
        · have hkk := hk k k0 k1
          have hbk := hb.2 k
          simp [jupd]
          rw [hbk]
          by_cases e9 : k = a
          · rw [if_pos e9]
            refine ⟨hkk.1, fun q => absurd q (by decide), hkk.2.2⟩
          · rw [if_neg e9]
            exact hkk
        · simpa [iSig, jupd_c] using h2
        · simpa [iPad, jupd_c] using h3
        · simpa [iImg, jupd_c] using h4
        · simpa [iImg, jupd_c] using h5
    · rw [e4] at q
      exact absurd (c.symm.trans q) (by decide)
  · refine b_X10_leave_0 (fun q => ?_) (fun q => ?_) (fun _ => ⟨rfl, _, rfl, hI⟩)
    all_goals (rw [q1] at q; exact absurd (c.symm.trans q) (by decide))
theorem pr_wipe : Pair l z X mX9_wipe mX10_wipe [jR 0, jN] [jR 96, jN] := by
  intro M hI
  obtain ⟨h1, h2, h3, h4, h5⟩ := id hI
  refine b_X9_wipe_0 ⟨_, _, rfl, rfl, ?_⟩
  refine b_X10_wipe_0 ⟨?_, _, rfl, ?_⟩
  · simp [jupd, h3.1]
  · refine ⟨?_, ?_, ?_, ?_, ?_⟩
    · simpa [iHill, jupd_c] using h1
    · simpa [iSig, jupd_c] using h2
    · refine ⟨by simp [jupd], by simp [jupd], by simp [jupd], fun i i0 i1 => ?_⟩
      exfalso
      simp [jupd] at i1
      omega
    · simpa [iImg, jupd_c] using h4
    · simpa [iImg, jupd_c] using h5
theorem pr_forget : Pair l z X mX9_forget mX10_forget [jR 0, jN] [jR 96, jN] := by
  intro M hI
  obtain ⟨h1, h2, h3, h4, h5⟩ := id hI
  refine b_X9_forget_0 ⟨_, _, rfl, rfl, ?_⟩
  refine b_X10_forget_0 ⟨?_, _, rfl, ?_⟩
  · simp [jupd, h2.1]
  · refine ⟨?_, ?_, ?_, ?_, ?_⟩
    · simpa [iHill, jupd_c] using h1
    · refine ⟨by simp [jupd], by simp [jupd], by simp [jupd], fun i i0 i1 => ?_⟩
      exfalso
      simp [jupd] at i1
      omega
    · simpa [iPad, jupd_c] using h3
    · simpa [iImg, jupd_c] using h4
    · simpa [iImg, jupd_c] using h5
theorem pr_say (a : Int) : Pair l z X mX9_say mX10_say [jR 0, jI a] [jR 96, jI a] := by
  intro M hI
  obtain ⟨h1, h2, h3, h4, h5⟩ := id hI
  obtain ⟨p1, p2, p3, p4⟩ := h3
  refine b_X9_say_0 (fun c => ?_) (fun c => ⟨_, _, rfl, rfl, ?_⟩)
  · refine b_X4_add_0 (fun _ _ => p2) (fun _ q => q) (fun _ _ => by simp [jupd]; exact jInd (by omega)) (fun q => absurd p2 (by omega)) (fun _ q => ?_) (fun _ q => ?_)
    · refine b_X9_say_22 (fun q => absurd q (by decide)) (fun _ => ⟨_, _, rfl, rfl, ?_⟩)
      have e1 : (jupd (jupd M 7 (M 6 4) a) 6 4 ((jupd M 7 (M 6 4) a) 6 4 + 1)) 96 12 = M 6 4 := by simp [jupd, p1]
      refine b_X10_say_0 (fun _ _ => by rw [e1]; exact p2) (fun _ _ => by rw [e1]; exact q) (fun _ _ => by simp [jupd, p1]; exact jInd (by omega)) (fun _ _ => ?_) (fun _ q2 => by rw [e1] at q2; omega) (fun q2 => absurd c q2)
      refine ⟨?_, _, rfl, ?_⟩
      · simp [jupd, p1]
      · refine ⟨?_, ?_, ?_, ?_, ?_⟩
        · simpa [iHill, jupd_c] using h1
        · simpa [iSig, jupd_c] using h2
        · refine ⟨by simp [jupd, p1], by simp [jupd]; omega, by simp [jupd]; omega, fun i i0 i1 => ?_⟩
          simp [jupd] at i1
          have hp := p4 i i0
          simp [jupd, p1]
          by_cases e9 : i = M 6 4
          · simp [e9]; omega
          · simp [e9]
            exact hp (by omega)
        · simpa [iImg, jupd_c] using h4
        · simpa [iImg, jupd_c] using h5
    · refine b_X9_say_22 (fun _ => ⟨_, _, rfl, rfl, ?_⟩) (fun q => absurd rfl q)
      refine b_X10_say_0 (fun _ _ => by omega) (fun _ _ => by omega) (fun _ q2 => absurd q2 (by omega)) (fun _ q2 => absurd q2 (by omega)) (fun _ q2 => ⟨rfl, _, rfl, hI⟩) (fun q2 => absurd c q2)
  · exact b_X10_say_0 (fun q2 => absurd q2 c) (fun q2 => absurd q2 c) (fun q2 => absurd q2 c) (fun q2 => absurd q2 c) (fun q2 => absurd q2 c) (fun _ => ⟨rfl, _, rfl, hI⟩)
theorem pr_seen (a v : Int) : Pair l z X mX9_seen mX10_seen [jR 0, jI a, jI v] [jR 96, jI a, jI v] := by
  intro M hI
  obtain ⟨h1, h2, h3, h4, h5⟩ := id hI
  obtain ⟨p1, p2, p3, p4⟩ := h2
  obtain ⟨⟨q1, q2, q3, q4⟩, hr, hk⟩ := id h1
  refine b_X9_seen_0 (fun c c2 => ?_) (fun c c2 => ⟨_, _, rfl, rfl, ?_⟩) (fun c => ⟨_, _, rfl, rfl, ?_⟩)
  · have hca := hasB_in c
    refine b_X6_add_0 si_68 (fun _ _ => p2) (fun _ q => q) (fun _ _ => by simp [jupd]; exact p2) (fun _ q => by simp [jupd]; exact q) (fun _ _ => by simp [jupd]; exact jInd (by omega)) (fun q => absurd p2 (by omega)) (fun _ q => ?_) (fun _ q => ?_)
    · refine b_X9_seen_35 (fun q => absurd q (by decide)) (fun _ => ⟨_, _, rfl, rfl, ?_⟩)
      refine b_X10_seen_0 (fun _ _ _ => by simp [jupd, p1]; exact p2) (fun _ _ _ => by simp [jupd, p1]; exact q) (fun _ _ _ => by simp [jupd, p1]; exact p2) (fun _ _ _ => by simp [jupd, p1]; exact q) (fun _ _ _ => by simp [jupd, p1]; exact jInd (by omega)) (fun _ _ _ => ⟨?_, _, rfl, ?_⟩) (fun _ _ q9 => ?_) (fun _ q9 => absurd c2 q9) (fun q9 => ?_)
      · simp [jupd, p1]
      · refine ⟨?_, ?_, ?_, ?_, ?_⟩
        · simpa [iHill, jupd_c] using h1
        · refine ⟨by simp [jupd, p1], by simp [jupd]; omega, by simp [jupd]; omega, fun i i0 i1 => ?_⟩
          simp [jupd] at i1
          have hp := p4 i i0
          simp [jupd, p1]
          by_cases e9 : i = M 68 2
          · simp [e9]; omega
          · simp [e9]
            exact hp (by omega)
        · simpa [iPad, jupd_c] using h3
        · simpa [iImg, jupd_c] using h4
        · simpa [iImg, jupd_c] using h5
      · exfalso
        simp [jupd, p1] at q9
        omega
      · exfalso
        simp [jupd, q1] at q9
        exact absurd (c.symm.trans q9) (by decide)
    · refine b_X9_seen_35 (fun _ => ⟨_, _, rfl, rfl, ?_⟩) (fun q => absurd rfl q)
      refine b_X10_seen_0 (fun _ _ q2 => absurd q2 (by omega)) (fun _ _ q2 => absurd q2 (by omega)) (fun _ _ q2 => absurd q2 (by omega)) (fun _ _ q2 => absurd q2 (by omega)) (fun _ _ q2 => absurd q2 (by omega)) (fun _ _ q2 => absurd q2 (by omega)) (fun _ _ q2 => ⟨rfl, _, rfl, hI⟩) (fun _ q9 => absurd c2 q9) (fun q9 => ?_)
      rw [q1] at q9
      exact absurd (c.symm.trans q9) (by decide)
  · refine b_X10_seen_0 (fun _ q2 => absurd q2 c2) (fun _ q2 => absurd q2 c2) (fun _ q2 => absurd q2 c2) (fun _ q2 => absurd q2 c2) (fun _ q2 => absurd q2 c2) (fun _ q2 => absurd q2 c2) (fun _ q2 => absurd q2 c2) (fun _ _ => ⟨rfl, _, rfl, hI⟩) (fun q9 => ?_)
    rw [q1] at q9
    exact absurd (c.symm.trans q9) (by decide)
  · rw [← q1] at c
    exact b_X10_seen_0 (fun q2 => absurd (c.symm.trans q2) (by decide)) (fun q2 => absurd (c.symm.trans q2) (by decide)) (fun q2 => absurd (c.symm.trans q2) (by decide)) (fun q2 => absurd (c.symm.trans q2) (by decide)) (fun q2 => absurd (c.symm.trans q2) (by decide)) (fun q2 => absurd (c.symm.trans q2) (by decide)) (fun q2 => absurd (c.symm.trans q2) (by decide)) (fun q2 => absurd (c.symm.trans q2) (by decide)) (fun _ => ⟨rfl, _, rfl, hI⟩)
theorem pr_set (a v : Int) : Pair l z X mX9_set mX10_set [jR 0, jI a, jI v, jN] [jR 96, jI a, jI v, jN] := by
  intro M hI
  obtain ⟨h1, h2, h3, h4, h5⟩ := id hI
  obtain ⟨⟨q1, q2, q3, q4⟩, hr, hk⟩ := id h1
  have hout : (¬ (0 ≤ a ∧ a ≤ 2) ∨ ¬ (0 ≤ v ∧ v ≤ (if a = 0 then 99 else if a = 1 then 40 else 1))) → J l z X 20 mX10_set (0, 0) 0 [jR 96, jI a, jI v, jN] [] (jG, M) (fun r' μ' => r' = some (jI (-2)) ∧ ∃ M'' : Nat → Int → Int, μ' = (jG, M'') ∧ Inv M'') := by
    intro ho
    refine b_X10_set_0 (fun c1 c2 c3 => ?_) (fun c1 c2 c3 => ?_) (fun c1 c2 => ?_) (fun _ => ⟨rfl, _, rfl, hI⟩)
    · rw [if_neg c2, if_neg c3] at ho
      exact b_X10_set_37 (fun q => absurd q (by omega)) (fun q => absurd q (by omega)) (fun q => absurd q (by omega)) (fun _ => ⟨rfl, _, rfl, hI⟩)
    · rw [if_neg c2, if_pos c3] at ho
      exact b_X10_set_37 (fun q => absurd q (by omega)) (fun q => absurd q (by omega)) (fun q => absurd q (by omega)) (fun _ => ⟨rfl, _, rfl, hI⟩)
    · rw [if_pos c2] at ho
      exact b_X10_set_37 (fun q => absurd q (by omega)) (fun q => absurd q (by omega)) (fun q => absurd q (by omega)) (fun _ => ⟨rfl, _, rfl, hI⟩)
  refine b_X9_set_0 (fun c => b_X9_set_33 (fun c1 => b_X9_set_67 (fun c2 => ⟨_, _, rfl, rfl, hout (Or.inl (by omega))⟩) (fun c2 c3 => ⟨_, _, rfl, rfl, ?_⟩) (fun c2 c3 => ⟨_, _, rfl, rfl, hout (Or.inr (by rw [if_neg c, if_neg c1]; exact c3))⟩)) (fun c1 c2 => ⟨_, _, rfl, rfl, ?_⟩) (fun c1 c2 => b_X9_set_67 (fun _ => ⟨_, _, rfl, rfl, hout (Or.inr (by rw [if_neg c, if_pos c1]; exact c2))⟩) (fun q => absurd q (by omega)) (fun q => absurd q (by omega)))) (fun c1 c2 => ⟨_, _, rfl, rfl, ?_⟩)
    (fun c1 c2 => b_X9_set_33 (fun _ => b_X9_set_67 (fun _ => ⟨_, _, rfl, rfl, hout (Or.inr (by rw [if_pos c1]; exact c2))⟩) (fun q => absurd q (by omega)) (fun q => absurd q (by omega))) (fun q => absurd q (by omega)) (fun q => absurd q (by omega)))
  · refine b_X10_set_0 (fun _ _ _ => ?_) (fun _ _ q => absurd q c1) (fun _ q => absurd q c) (fun q => absurd q (by omega))
    refine b_X10_set_37 (fun _ _ _ => ?_) (fun _ _ q => absurd q c1) (fun _ q => absurd q c) (fun q => absurd q (by omega))
    refine b_X10_set_73 (fun _ => ?_) (fun q => absurd q c)
    refine b_X10_set_87 (fun _ => ?_) (fun q => absurd q c1)
    refine b_X10_set_104 (fun q => absurd c2 q) (fun _ => ⟨?_, _, rfl, ?_⟩)
    · simp [jupd, q4]
    · refine ⟨⟨?_, ?_, fun k k0 k1 => ?_⟩, ?_, ?_, ?_, ?_⟩
      · simp [jupd, q1, q2, q3]
      · simp [jupd]; omega
      · simpa [jupd] using hk k k0 k1
      · simpa [iSig, jupd_c] using h2
      · simpa [iPad, jupd_c] using h3
      · simpa [iImg, jupd_c] using h4
      · simpa [iImg, jupd_c] using h5
  · refine b_X10_set_0 (fun _ _ q => absurd c1 q) (fun _ _ _ => ?_) (fun _ q => absurd q c) (fun q => absurd q (by omega))
    refine b_X10_set_37 (fun _ _ q => absurd c1 q) (fun _ _ _ => ?_) (fun _ q => absurd q c) (fun q => absurd q (by omega))
    refine b_X10_set_73 (fun _ => ?_) (fun q => absurd q c)
    refine b_X10_set_87 (fun q => absurd c1 q) (fun _ => ?_)
    refine b_X10_set_104 (fun _ => ⟨?_, _, rfl, ?_⟩) (fun q => absurd q (by omega))
    · simp [jupd, q3]
    · refine ⟨⟨?_, ?_, fun k k0 k1 => ?_⟩, ?_, ?_, ?_, ?_⟩
      · simp [jupd, q1, q2, q4]
      · simp [jupd]; omega
      · simpa [jupd] using hk k k0 k1
      · simpa [iSig, jupd_c] using h2
      · simpa [iPad, jupd_c] using h3
      · simpa [iImg, jupd_c] using h4
      · simpa [iImg, jupd_c] using h5
  · refine b_X10_set_0 (fun _ q => absurd c1 q) (fun _ q => absurd c1 q) (fun _ _ => ?_) (fun q => absurd q (by omega))
    refine b_X10_set_37 (fun _ q => absurd c1 q) (fun _ q => absurd c1 q) (fun _ _ => ?_) (fun q => absurd q (by omega))
    refine b_X10_set_73 (fun q => absurd c1 q) (fun _ => ?_)
    refine b_X10_set_87 (fun _ => ?_) (fun q => absurd q (by omega))
    refine b_X10_set_104 (fun _ => ⟨?_, _, rfl, ?_⟩) (fun q => absurd q (by omega))
    · simp [jupd, q2]
    · refine ⟨⟨?_, ?_, fun k k0 k1 => ?_⟩, ?_, ?_, ?_, ?_⟩
      · simp [jupd, q1, q3, q4]
      · simp [jupd]; omega
      · simpa [jupd] using hk k k0 k1
      · simpa [iSig, jupd_c] using h2
      · simpa [iPad, jupd_c] using h3
      · simpa [iImg, jupd_c] using h4
      · simpa [iImg, jupd_c] using h5
theorem pr_lasts (a v : Int) : Pair l z X mX9_lasts mX10_lasts [jR 0, jI a, jI v, jN, jN] [jR 96, jI a, jI v] := by
  intro M hI
  obtain ⟨h1, h2, h3, h4, h5⟩ := id hI
  obtain ⟨⟨q1, q2, q3, q4⟩, hr, hk⟩ := id h1
  have hq : hasB (M 96 0) a = hasB (M 1 4) a := by rw [q1]
  have hm : ∀ w : Int, (hasB (M 1 4) a = true → 0 ≤ v ∧ v ≤ 99 → v ≠ 99 → M 2 a ≤ v → w = (v - M 2 a) / M 3 a) → (hasB (M 1 4) a = true → 0 ≤ v ∧ v ≤ 99 → v ≠ 99 → v < M 2 a → w = -6) → (hasB (M 1 4) a = true → v = 99 → w = 100) → (hasB (M 1 4) a = true → ¬ (0 ≤ v ∧ v ≤ 99) → w = -2) → (hasB (M 1 4) a = false → w = -1) → J l z X 20 mX10_lasts (0, 0) 0 [jR 96, jI a, jI v] [] (jG, M) (fun r' μ' => r' = some (jI w) ∧ ∃ M'' : Nat → Int → Int, μ' = (jG, M'') ∧ Inv M'') := by
    intro w w1 w2 w3 w4 w5
    rw [← hq] at w1 w2 w3 w4 w5
    have hkk : hasB (M 96 0) a = true → (M 97 a = M 2 a ∧ M 98 a = M 3 a) ∧ 1 ≤ M 3 a ∧ 0 ≤ M 2 a ∧ M 2 a ≤ 99 := fun c => by
      have hca := hasB_in c
      have := hk a hca.1 hca.2
      rw [hq] at c
      exact ⟨⟨this.1.1, this.1.2.1⟩, (this.2.1 c).2, this.2.2.1, this.2.2.2.1⟩
    refine b_X10_lasts_0 (fun c _ _ => (hasB_in c).1) (fun c _ _ => (hasB_in c).2) (fun c _ _ _ => (hasB_in c).1) (fun c _ _ _ => (hasB_in c).2) (fun c c1 _ _ => by have := hkk c; exact jInd (by omega)) (fun c c1 _ q => by omega) (fun c c1 _ q => by have := hkk c; omega)
      (fun c c1 c2 c3 => ⟨?_, _, rfl, hI⟩) (fun c c1 c2 c3 => ⟨?_, _, rfl, hI⟩) (fun c c1 c2 => ⟨?_, _, rfl, hI⟩) (fun c c1 => ⟨?_, _, rfl, hI⟩) (fun c => ⟨?_, _, rfl, hI⟩)
    · have := hkk c
      rw [this.1.1, this.1.2, w1 c c1 c2 (by omega)]
    · have := hkk c
      rw [w2 c c1 c2 (by omega)]
    · rw [w3 c c2]
    · rw [w4 c c1]
    · rw [w5 c]
  have hkk : hasB (M 1 4) a = true → 1 ≤ M 3 a ∧ 0 ≤ M 2 a ∧ M 2 a ≤ 99 := fun c => by
    have hca := hasB_in c
    have := hk a hca.1 hca.2
    exact ⟨(this.2.1 c).2, this.2.2.1, this.2.2.2.1⟩
  refine b_X9_lasts_0 (fun c _ _ => (hasB_in c).1) (fun c _ _ => (hasB_in c).2) (fun c c1 _ => by have := hkk c; exact jInd (by omega)) (fun c _ _ q _ => q) (fun c _ _ _ q => by omega)
    (fun c c1 c2 c3 => ⟨_, _, rfl, rfl, ?_⟩) (fun c c1 c2 c3 c4 => ⟨_, _, rfl, rfl, ?_⟩) (fun c c1 c2 c3 c4 => ⟨_, _, rfl, rfl, ?_⟩) (fun c c1 c2 => ⟨_, _, rfl, rfl, ?_⟩) (fun c c1 => ⟨_, _, rfl, rfl, ?_⟩) (fun c => ⟨_, _, rfl, rfl, ?_⟩)
  · exact hm _ (fun _ _ _ q => absurd c3 (by omega)) (fun _ _ _ _ => rfl) (fun _ q => absurd q c2) (fun _ q => absurd c1 q) (fun q => absurd (c.symm.trans q) (by decide))
  · exact hm _ (fun _ _ _ q => rfl) (fun _ _ _ q => absurd q (by omega)) (fun _ q => absurd q c2) (fun _ q => absurd c1 q) (fun q => absurd (c.symm.trans q) (by decide))
  · exact absurd (hkk c).1 (by omega)
  · exact hm _ (fun _ _ q => absurd c2 q) (fun _ _ q => absurd c2 q) (fun _ _ => rfl) (fun _ q => absurd c1 q) (fun q => absurd (c.symm.trans q) (by decide))
  · exact hm _ (fun _ q => absurd q c1) (fun _ q => absurd q c1) (fun _ q => absurd c1 (by omega)) (fun _ _ => rfl) (fun q => absurd (c.symm.trans q) (by decide))
  · exact hm _ (fun q => absurd (c.symm.trans q) (by decide)) (fun q => absurd (c.symm.trans q) (by decide)) (fun q => absurd (c.symm.trans q) (by decide)) (fun q => absurd (c.symm.trans q) (by decide)) (fun _ => rfl)
theorem pr_thieves (a b c : Int) : Pair l z X mX9_thieves mX10_thieves [jR 0, jI a, jI b, jI c, jN] [jR 96, jI a, jI b, jI c, jN] := by
  intro M hI
  have hmod : ∀ (c1 : 1 ≤ a ∧ a ≤ 99) (c2 : 1 ≤ b ∧ b ≤ 9), 0 ≤ (a - 1) % (b + 1) := fun c1 c2 => Int.emod_nonneg _ (by omega)
  refine b_X9_thieves_0 (fun _ _ _ => jInd (by omega)) (fun _ _ _ => jInd (by omega)) (fun _ _ _ => by omega) (fun _ _ _ => by omega) (fun c1 c2 c3 c4 c5 => ⟨_, _, rfl, rfl, ?_⟩) (fun c1 c2 c3 c4 c5 => ⟨_, _, rfl, rfl, ?_⟩) (fun c1 c2 c3 c4 c5 => ⟨_, _, rfl, rfl, ?_⟩) (fun c1 c2 c3 c4 c5 => ⟨_, _, rfl, rfl, ?_⟩) (fun c1 c2 c3 => ⟨_, _, rfl, rfl, ?_⟩) (fun c1 c2 => ⟨_, _, rfl, rfl, ?_⟩) (fun c1 => ⟨_, _, rfl, rfl, ?_⟩)
  all_goals refine b_X10_thieves_0 (fun _ _ _ => jInd (by omega)) (fun _ _ _ => jInd (by omega)) (fun _ _ _ => by omega) (fun _ _ _ => by omega) (fun d1 d2 d3 d4 d5 => ⟨?_, _, rfl, hI⟩) (fun d1 d2 d3 d4 d5 => ⟨?_, _, rfl, hI⟩) (fun d1 d2 d3 d4 d5 => ⟨?_, _, rfl, hI⟩) (fun d1 d2 d3 d4 d5 => ⟨?_, _, rfl, hI⟩) (fun d1 d2 d3 => ⟨?_, _, rfl, hI⟩) (fun d1 d2 => ⟨?_, _, rfl, hI⟩) (fun d1 => ⟨?_, _, rfl, hI⟩)
  all_goals first
    | rfl
    | (exfalso; omega)
    | (exfalso; have := hmod d1 d2; omega)
end SIMPLE2
