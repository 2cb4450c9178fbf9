/-! ## the pairs keeps and plan -/
theorem Inv_okR {M : Nat → Int → Int} (hI : Inv M) : okR M := by
  obtain ⟨⟨-, hr, hk⟩, -⟩ := hI
  refine ⟨⟨hr.1, hr.2.1⟩, fun k k0 k1 => ?_⟩
  have := hk k k0 k1
  omega
theorem Inv_refQ {M M' : Nat → Int → Int} (hI : Inv M) (f : ∀ c : Nat, ¬ (19 ≤ c ∧ c ≤ 65) → M' c = M c) {s m n v : Int} (hr : kpR (M 1 4) s m n v = 0) : refQ M' (qK M s) (xK M s) s := by
  have ok := Inv_okR hI
  obtain ⟨⟨-, -, hk⟩, -⟩ := hI
  have hs := (kp_ok ok.1 hr).2.2.2.2.2.2.1
  intro i i0 i1
  refine ⟨rgA_K ok i, ?_⟩
  rw [f 97 (by omega), f 98 (by omega), f 99 (by omega)]
  rcases hs i i0 i1 with ⟨g1, g2⟩ | g
  · have h := (hk (seB s i) g2.1 g2.2).1
    refine Or.inl ⟨g1, g2, h.2.1.symm, h.2.2.symm, ?_⟩
    unfold xK
    rw [if_pos g1]
    exact h.1.symm
  · have hf : hasB (M 1 4) (seB s i) = false := hasB_o (by omega)
    refine Or.inr ⟨hf, g, ?_⟩
    unfold xK
    rw [if_neg (by rw [hf]; decide)]
theorem Inv_pace {M M' : Nat → Int → Int} (hI : Inv M) (f : ∀ c : Nat, ¬ (19 ≤ c ∧ c ≤ 65) → M' c = M c) : ∀ k : Int, 0 ≤ k → k < 6 → 0 ≤ M' 98 k ∧ M' 98 k ≤ 9 := by
  obtain ⟨⟨-, -, hk⟩, -⟩ := hI
  intro k k0 k1
  rw [f 98 (by omega)]
  have := hk k k0 k1
  omega
theorem Inv_19 {M M' : Nat → Int → Int} (hI : Inv M) (f : ∀ c : Nat, ¬ (19 ≤ c ∧ c ≤ 65) → M' c = M c) : Inv M' := Inv_same (fun c i hc => by rw [f c (by unfold core at hc; omega)]) hI
theorem Inv_110 {M M' : Nat → Int → Int} (hI : Inv M) (f : ∀ c : Nat, ¬ (110 ≤ c ∧ c ≤ 115) → M' c = M c) : Inv M' := Inv_same (fun c i hc => by rw [f c (by unfold core at hc; omega)]) hI
theorem pln_first {M : Nat → Int → Int} {q : qF} {x : Int → Int} {n v : Int} {m : Nat} {C : cF} (h : plnB M q x n v m C) : inB C 0 0 0 0 ∧ agB M 0 0 = x 0 ∧ agB M 1 0 = x 1 ∧ agB M 2 0 = x 2 ∧ M 114 (17576 * (m : Int)) = lf (q 0) (q 1) (q 2) n v m (x 0) (x 1) (x 2) := by
  have t0 := h.1 0 (by omega) (by omega)
  have t1 := h.1 1 (by omega) (by omega)
  have t2 := h.1 2 (by omega) (by omega)
  have hin : inB C 0 0 0 0 := by
    unfold inB
    rw [t0.1.1, t1.1.1, t2.1.1]
    omega
  refine ⟨hin, t0.2.1, t1.2.1, t2.2.1, ?_⟩
  have := h.2 m 0 (by omega) 0 0 0 hin
  rw [t0.2.1, t1.2.1, t2.2.1, show ix3 0 0 0 = 0 by decide, Int.add_zero] at this
  exact this
section KEEPS
variable {l : Launch} {z : Nat} {X : jX}
theorem pr_keeps (s m n v : Int) : Pair l z X mX9_keeps mX10_keeps [jR 0, jI s, jI m, jI n, jI v, jN] [jR 96, jI s, jI m, jI n, jI v, jN, jN] := by
  intro M hI
  have ok := Inv_okR hI
  refine c_X9_keeps (dd := 15) ok (fun M2 f2 => ⟨_, _, rfl, rfl, ?_⟩)
  have e96 : M2 96 0 = M 1 4 := by rw [f2 96 (by omega)]; exact hI.1.1.1
  have hI2 := Inv_19 hI f2
  refine b_X10_keeps_0 (d := 15) (c_X10_planRefusal ?_)
  rw [e96]
  unfold keepsF
  refine b_X10_keeps_9 (fun g => ?_) (fun g => ⟨?_, _, rfl, hI2⟩)
  · have hr : kpR (M 1 4) s m n v = 0 := by have := kpR_le (t := M 1 4) (s := s) (m := m) (n := n) (v := v); omega
    have hko := kp_ok ok.1 hr
    obtain ⟨m', rfl⟩ : ∃ m' : Nat, m = (m' : Int) := ⟨m.toNat, by omega⟩
    refine c_X10_findPlan (q := qK M s) (x := xK M s) (m := m') (by omega) (by omega) (by omega) (Inv_refQ hI f2 hr) hko.2.2.2.2.2.1 (Inv_pace hI f2) (fun M3 C f3 _ hp => ?_)
    have hf := pln_first hp
    have hv : M3 114 (17576 * (m' : Int)) = kpV M s m' n v := hf.2.2.2.2
    rw [if_neg (by omega)]
    refine b_X10_keeps_28 (jInd (by omega)) (by omega) (by omega) (fun g2 => ⟨?_, _, rfl, Inv_110 hI2 f3⟩) (fun g2 => ⟨?_, _, rfl, Inv_110 hI2 f3⟩)
    · rw [hv] at g2 ⊢
      rw [if_neg (by omega)]
    · rw [hv] at g2
      rw [if_pos g2]
  · rw [if_pos (by omega)]
theorem pr_plan (s m n v day one : Int) : Pair l z X mX9_plan mX10_plan [jR 0, jI s, jI m, jI n, jI v, jI day, jI one, jN] [jR 96, jI s, jI m, jI n, jI v, jI day, jI one, jN, jN, jN, jN] := by
  intro M hI
  have ok := Inv_okR hI
  refine c_X9_plan (dd := 15) ok (fun M2 f2 => ⟨_, _, rfl, rfl, ?_⟩)
  have e96 : M2 96 0 = M 1 4 := by rw [f2 96 (by omega)]; exact hI.1.1.1
  have hI2 := Inv_19 hI f2
  refine b_X10_plan_0 (d := 15) (c_X10_planRefusal ?_)
  rw [e96]
  unfold planF
  have hr0 : 0 ≤ kpR (M 1 4) s m n v → kpR (M 1 4) s m n v = 0 := fun g => by have := kpR_le (t := M 1 4) (s := s) (m := m) (n := n) (v := v); omega
  refine b_X10_plan_9 (fun g => ?_) (fun g g1 g2 g3 => ?_) (fun g g1 g2 g3 => ⟨?_, _, rfl, hI2⟩) (fun g g1 g2 => ⟨?_, _, rfl, hI2⟩) (fun g g1 => ⟨?_, _, rfl, hI2⟩) (fun g => ⟨?_, _, rfl, hI2⟩)
  · have hko := kp_ok ok.1 (hr0 g)
    exact ⟨by omega, by omega⟩
  · have hr := hr0 g
    have hko := kp_ok ok.1 hr
    obtain ⟨m', rfl⟩ : ∃ m' : Nat, m = (m' : Int) := ⟨m.toNat, by omega⟩
    refine c_X10_findPlan (q := qK M s) (x := xK M s) (m := m') (by omega) (by omega) (by omega) (Inv_refQ hI f2 hr) hko.2.2.2.2.2.1 (Inv_pace hI f2) (fun M3 C f3 h110 hp => ?_)
    obtain ⟨hin, ha0, ha1, ha2, hf⟩ := pln_first hp
    have hv : M3 114 (17576 * (m' : Int)) = kpV M s m' n v := hf
    rw [if_neg (by omega), if_neg (by omega), if_neg g3, if_neg (by omega)]
    refine b_X10_plan_66 (jInd (by omega)) (by omega) (by omega) (fun g4 => ?_) (fun g4 => ⟨?_, _, rfl, Inv_110 hI2 f3⟩)
    · have hk := h110
      rw [hv] at g4
      rw [if_neg (by omega)]
      have e0 : ix3 0 0 0 = 0 := by decide
      have := c_X10_plan_94 (l := l) (z := z) (X := X) (dd := 15) (Q := fun r' μ' => r' = some (jI (if seB s 0 = one then kpW M s m' n v day / 9 else if seB s 1 = one then kpW M s m' n v day / 3 % 3 else kpW M s m' n v day % 3)) ∧ ∃ M'' : Nat → Int → Int, μ' = (jG, M'') ∧ Inv M'') (s := s) (day := day) (one := one) (x7 := kpR (M 1 4) s m' n v) hp (by omega) (by omega) (by omega) h110 ⟨rfl, _, rfl, Inv_110 hI2 f3⟩ (day.toNat + 1) 0 0 0 0 0 (by omega) hin (by rw [ha0, ha1, ha2]; exact g4) (fun j => by rw [ha0, ha1, ha2, Nat.zero_add]; rfl) (by omega) (fun D' h => absurd h (by omega))
      rw [e0] at this
      exact this
    · rw [hv] at g4
      rw [if_pos g4]
  · rw [if_neg (by have := hr0 g; omega), if_neg (by omega), if_pos g3]
  · by_cases g3 : jand (jshr s one) 1 = 0
    · rw [if_neg (by have := hr0 g; omega), if_pos g2]
    · rw [if_neg (by have := hr0 g; omega), if_pos g2]
  · rw [if_neg (by have := hr0 g; omega)]
    by_cases g2 : ¬ (0 ≤ one ∧ one ≤ 5)
    · rw [if_pos g2]
    · rw [if_neg g2]
      by_cases g3 : jand (jshr s one) 1 = 0
      · rw [if_pos g3]
      · rw [if_neg g3, if_pos g1]
  · rw [if_pos (by omega)]
end KEEPS
