section DAYPAIRS
variable {l : Launch} {z d : Nat} {X : jX} {M : Nat → Int → Int}
theorem if_m5 {p : Prop} [Decidable p] (q : (if p then (-6 : Int) else -3) = -5) : False := by
  revert q
  split <;> omega
theorem if_6 {p : Prop} [Decidable p] : ((if p then (-6 : Int) else -3) = -6 ↔ p) ∧ ((if p then (0 : Int) else -3) = 0 ↔ p) := by
  split <;> simp_all
theorem pr_basket : Pair l z X mX9_basket mX10_basket [jR 0, jN] [jR 96, jN] := by
  intro M hI
  refine b_X9_basket_0 (c_X9_liveDays hI (fun hv M1 fr => ?_) (fun hv M1 fr hc ok hd h5 h8 h9 hn => ?_))
  · have hI1 := Inv_frL hI fr
    have eV := (frL_eq fr).2.1
    refine b_X9_basket_4 (fun q => absurd q (by decide)) (fun _ => ⟨_, _, rfl, rfl, ?_⟩)
    refine b_X10_basket_0 (c_X10_refusal hI1 (fun _ _ _ => rfl) (fun _ M2 mp => ?_) (fun q => absurd (eV.symm.trans q) hv))
    refine b_X10_basket_4 (fun q => absurd q (by decide)) (fun _ => b_X10_basket_20 (c_X10_back (fun M3 t1 t2 t3 t4 t5 t6 => b_X10_basket_23 ⟨rfl, M3, rfl, Inv_back hI1 mp t1 t2 t3 t4 t5 t6⟩)))
  · have hI1 := Inv_frL hI fr
    have eV := (frL_eq fr).2.1
    have eA := (frL_eq fr).2.2
    refine b_X9_basket_4 (fun c => ⟨_, _, rfl, rfl, ?_⟩) (fun c => ⟨_, _, rfl, rfl, ?_⟩)
    all_goals
      refine b_X10_basket_0 (c_X10_refusal hI1 (fun _ _ _ => rfl) (fun q => absurd (eV.trans hv) q) (fun _ M2 mp m1 m2 m3 m4 m5 => ?_))
      rw [eA] at m1 ⊢
    · have c' := if_6.2.1 c
      refine b_X10_basket_4 (fun _ => b_X10_basket_20 (c_X10_back (fun M3 t1 t2 t3 t4 t5 t6 => b_X10_basket_23 ⟨?_, M3, rfl, Inv_back hI1 mp t1 t2 t3 t4 t5 t6⟩))) (fun q => absurd (if_6.1.2 c') q)
      rw [m1.1.2.1, ← hc.1.2.1]
    · have c' : ¬ Aof M 8 0 = -6 := fun q => c (if_6.2.2 q)
      rw [if_neg c', if_neg c']
      exact b_X10_basket_4 (fun q => absurd q (by decide)) (fun _ => b_X10_basket_20 (c_X10_back (fun M3 t1 t2 t3 t4 t5 t6 => b_X10_basket_23 ⟨rfl, M3, rfl, Inv_back hI1 mp t1 t2 t3 t4 t5 t6⟩)))
theorem pr_passed (a : Int) : Pair l z X mX9_passed mX10_passed [jR 0, jI a, jN] [jR 96, jI a, jN] := by
  intro M hI
  refine b_X9_passed_0 (fun ca => c_X9_liveDays hI (fun hv M1 fr => ?_) (fun hv M1 fr hc ok hd h5 h8 h9 hn => ?_)) (fun ca => ⟨_, _, rfl, rfl, b_X10_passed_0 (fun q => absurd q ca) (fun _ => ⟨rfl, _, rfl, hI⟩)⟩)
  · have hI1 := Inv_frL hI fr
    have eV := (frL_eq fr).2.1
    refine b_X9_passed_16 (fun q => absurd q (by decide)) (fun q => absurd q (by decide)) (fun _ => ⟨_, _, rfl, rfl, ?_⟩)
    refine b_X10_passed_0 (fun _ => c_X10_refusal hI1 (fun _ _ _ => rfl) (fun _ M2 mp => ?_) (fun q => absurd (eV.symm.trans q) hv)) (fun q => absurd ca q)
    exact b_X10_passed_18 (c_X10_back (fun M3 t1 t2 t3 t4 t5 t6 => b_X10_passed_21 (fun q => absurd q (by decide)) (fun q => absurd q (by decide)) (fun _ => ⟨rfl, M3, rfl, Inv_back hI1 mp t1 t2 t3 t4 t5 t6⟩)))
  · have hI1 := Inv_frL hI fr
    have eV := (frL_eq fr).2.1
    have eA := (frL_eq fr).2.2
    refine b_X9_passed_16 (fun c c2 => ⟨_, _, rfl, rfl, ?_⟩) (fun c c2 => ⟨_, _, rfl, rfl, ?_⟩) (fun c => ⟨_, _, rfl, rfl, ?_⟩)
    all_goals
      refine b_X10_passed_0 (fun _ => c_X10_refusal hI1 (fun _ _ _ => rfl) (fun q => absurd (eV.trans hv) q) (fun _ M2 mp m1 m2 m3 m4 m5 => ?_)) (fun q => absurd ca q)
      rw [eA] at m1 m2 ⊢
      refine b_X10_passed_18 (c_X10_back (fun M3 t1 t2 t3 t4 t5 t6 => ?_))
      have hI3 := Inv_back hI1 mp t1 t2 t3 t4 t5 t6
    · have c' := if_6.2.1 c
      refine b_X10_passed_21 (fun _ _ => ⟨?_, M3, rfl, hI3⟩) (fun _ q => absurd q c2) (fun q => absurd (if_6.1.2 c') q)
      rw [t2 19 (by omega) (by omega) (by omega), m2.1.2.2, hd.1.2.2]
    · have c' := if_6.2.1 c
      refine b_X10_passed_21 (fun _ q => absurd c2 q) (fun _ _ => ⟨?_, M3, rfl, hI3⟩) (fun q => absurd (if_6.1.2 c') q)
      rw [t2 18 (by omega) (by omega) (by omega), m2.1.2.1, hd.1.2.1]
    · have c' : ¬ Aof M 8 0 = -6 := fun q => c (if_6.2.2 q)
      rw [if_neg c', if_neg c']
      exact b_X10_passed_21 (fun q => absurd q (by decide)) (fun q => absurd q (by decide)) (fun _ => ⟨rfl, M3, rfl, hI3⟩)
theorem runA_50 {K Xs Ys : Int → Int} : ∀ (m : Nat) (i : Int) (A : Nat → Int → Int), 0 ≤ A 5 0 → 0 ≤ runA K Xs Ys m i A 5 0
  | 0, _, _, h => h
  | m + 1, i, A, h => by
    unfold runA
    split
    · refine runA_50 m _ _ ?_
      unfold dayA
      by_cases e : K i = 46
      · rw [if_pos e]
        have e5 : wakeA (copyA A) 5 = A 5 := by rw [wakeA_c _ (by omega), copyA_c _ (by omega)]
        have : tellA (wakeA (copyA A)) 5 0 = wakeA (copyA A) 5 0 + 1 := by simp [tellA]
        rw [this, e5]
        omega
      · rw [if_neg e, actA_c _ _ _ _ (by omega)]
        exact h
    · rw [badA_c _ _ _ (by omega)]
      exact h
theorem Aof_50 (M : Nat → Int → Int) : 0 ≤ Aof M 5 0 := runA_50 _ _ _ (by simp [startA])
theorem pr_oldest (a : Int) : Pair l z X mX9_oldest mX10_oldest [jR 0, jI a, jN] [jR 96, jI a, jN] := by
  intro M hI
  refine b_X9_oldest_0 (c_X9_liveDays hI (fun hv M1 fr => ?_) (fun hv M1 fr hc ok hd h5 h8 h9 hn => ?_))
  · have hI1 := Inv_frL hI fr
    have eV := (frL_eq fr).2.1
    refine b_X9_oldest_4 (fun q => absurd q (by decide)) (fun q => absurd q (by decide)) (fun q => absurd q (by decide)) (fun q => absurd q (by decide)) (fun q => absurd q (by decide)) (fun _ => ⟨_, _, rfl, rfl, ?_⟩)
    refine b_X10_oldest_0 (c_X10_refusal hI1 (fun _ _ _ => rfl) (fun _ M2 mp => ?_) (fun q => absurd (eV.symm.trans q) hv))
    exact b_X10_oldest_5 (c_X10_back (fun M3 t1 t2 t3 t4 t5 t6 => b_X10_oldest_8 (fun q => absurd q (by decide)) (fun q => absurd q (by decide)) (fun q => absurd q (by decide)) (fun q => absurd q (by decide)) (fun q => absurd q (by decide)) (fun _ => ⟨rfl, M3, rfl, Inv_back hI1 mp t1 t2 t3 t4 t5 t6⟩)))
  · have hI1 := Inv_frL hI fr
    have eV := (frL_eq fr).2.1
    have eA := (frL_eq fr).2.2
    have e3 := hd.1.1
    have hm : ∀ w : Int, (Aof M 8 0 ≠ -6 → w = -3) → (Aof M 8 0 = -6 → (0 ≤ a ∧ a < Aof M 5 0 → w = Aof M 6 a) ∧ (¬ (0 ≤ a ∧ a < Aof M 5 0) → w = -1)) → -1 ≤ Aof M 5 0 → J l z X 20 mX10_oldest (0, 0) 0 [jR 96, jI a, jN] [] (jG, M1) (fun r' μ' => r' = some (jI w) ∧ ∃ M'' : Nat → Int → Int, μ' = (jG, M'') ∧ Inv M'') := by
      intro w w0 w1 w5
      refine b_X10_oldest_0 (c_X10_refusal hI1 (fun _ _ _ => rfl) (fun q => absurd (eV.trans hv) q) (fun _ M2 mp m1 m2 m3 m4 m5 => ?_))
      rw [eA] at m1 m2 ⊢
      refine b_X10_oldest_5 (c_X10_back (fun M3 t1 t2 t3 t4 t5 t6 => ?_))
      have hI3 := Inv_back hI1 mp t1 t2 t3 t4 t5 t6
      have e17 : M3 96 17 = Aof M 5 0 := (t2 17 (by omega) (by omega) (by omega)).trans m2.1.1
      refine b_X10_oldest_8 (fun _ => ?_) (fun _ q => q.1) (fun _ q => by omega) (fun c c2 => ⟨?_, M3, rfl, hI3⟩) (fun c c2 => ⟨?_, M3, rfl, hI3⟩) (fun c => ⟨?_, M3, rfl, hI3⟩)
      · unfold jInL
        omega
      · have c' := if_6.1.1 c
        rw [(w1 c').1 (by omega), t1 107 (by omega) (by omega) (by omega), m2.2 a (by omega) (by omega)]
      · have c' := if_6.1.1 c
        rw [(w1 c').2 (by omega)]
      · have c' : ¬ Aof M 8 0 = -6 := fun q => c (if_6.1.2 q)
        rw [w0 c', if_neg c']
    have hneg : -1 ≤ Aof M 5 0 := by have := Aof_50 M; omega
    refine b_X9_oldest_4 (fun _ => jInd (by omega)) (fun _ q => q.1) (fun _ q => by omega) (fun c c2 => ⟨_, _, rfl, rfl, hm _ (fun q => absurd (if_6.2.1 c) q) (fun _ => ⟨fun _ => hd.2 a (by omega) (by omega), fun q => absurd q (by omega)⟩) hneg⟩) (fun c c2 => ⟨_, _, rfl, rfl, hm _ (fun q => absurd (if_6.2.1 c) q) (fun _ => ⟨fun q => absurd q (by omega), fun _ => rfl⟩) hneg⟩) (fun c => ⟨_, _, rfl, rfl, hm _ (fun q => if_neg q) (fun q => absurd (if_6.2.2 q) c) hneg⟩)
theorem pr_behind (a b : Int) : Pair l z X mX9_behind mX10_behind [jR 0, jI a, jI b, jN] [jR 96, jI a, jI b, jN, jN] := by
  intro M hI
  refine b_X9_behind_0 (fun ca => c_X9_liveDays hI (fun hv M1 fr => ?_) (fun hv M1 fr hc ok hd h5 h8 h9 hn => ?_)) (fun ca => ⟨_, _, rfl, rfl, b_X10_behind_0 (fun q => absurd q ca) (fun _ => ⟨rfl, _, rfl, hI⟩)⟩)
  · have hI1 := Inv_frL hI fr
    have eV := (frL_eq fr).2.1
    refine b_X9_behind_16 (fun q => absurd q (by decide)) (fun q => absurd q (by decide)) (fun q => absurd q (by decide)) (fun q => absurd q (by decide)) (fun q => absurd q (by decide)) (fun q => absurd q (by decide)) (fun q => absurd q (by decide)) (fun _ => ⟨_, _, rfl, rfl, ?_⟩)
    refine b_X10_behind_0 (fun _ => c_X10_refusal hI1 (fun _ _ _ => rfl) (fun _ M2 mp => ?_) (fun q => absurd (eV.symm.trans q) hv)) (fun q => absurd ca q)
    refine b_X10_behind_17 (fun _ => b_X10_behind_36 (b_X10_behind_37 (fun q => absurd q (by decide)) (fun q => absurd q (by decide)) (fun q => absurd q (by decide)) (fun q => absurd q (by decide)) (fun q => absurd q (by decide)) (fun q => absurd q (by decide)) (fun q => absurd q (by decide)) (fun _ => ?_))) (fun q => absurd q (by decide)) (fun q => absurd q (by decide))
    exact b_X10_behind_78 (c_X10_back (fun M3 t1 t2 t3 t4 t5 t6 => b_X10_behind_81 ⟨rfl, M3, rfl, Inv_back hI1 mp t1 t2 t3 t4 t5 t6⟩))
  · have hI1 := Inv_frL hI fr
    have eV := (frL_eq fr).2.1
    have eA := (frL_eq fr).2.2
    have e4 : M1 12 4 = Aof M 0 4 := hc.1.1
    have hm : ∀ w : Int, (Aof M 8 0 ≠ -6 → w = -3) → (Aof M 8 0 = -6 → (hasB (Aof M 0 4) a = true → b ≠ 0 → w = Aof M 4 a) ∧ (hasB (Aof M 0 4) a = true → b = 0 → w = Aof M 1 a) ∧ (hasB (Aof M 0 4) a = false → w = -1)) → J l z X 20 mX10_behind (0, 0) 0 [jR 96, jI a, jI b, jN, jN] [] (jG, M1) (fun r' μ' => r' = some (jI w) ∧ ∃ M'' : Nat → Int → Int, μ' = (jG, M'') ∧ Inv M'') := by
      intro w w0 w1
      refine b_X10_behind_0 (fun _ => c_X10_refusal hI1 (fun _ _ _ => rfl) (fun q => absurd (eV.trans hv) q) (fun _ M2 mp m1 m2 m3 m4 m5 => ?_)) (fun q => absurd ca q)
      rw [eA] at m1 m2 ⊢
      have hend : ∀ (v x3 x4 : Int), v = w → J l z X 20 mX10_behind (0, 0) 78 [jR 96, jI a, jI b, jI x3, jI x4] [jI v, jR 96] (jG, M2) (fun r' μ' => r' = some (jI w) ∧ ∃ M'' : Nat → Int → Int, μ' = (jG, M'') ∧ Inv M'') := fun v x3 x4 e =>
        b_X10_behind_78 (c_X10_back (fun M3 t1 t2 t3 t4 t5 t6 => b_X10_behind_81 ⟨by rw [e], M3, rfl, Inv_back hI1 mp t1 t2 t3 t4 t5 t6⟩))
      have e96 : M2 96 0 = Aof M 0 4 := m1.1.1
      by_cases hz : Aof M 8 0 = -6
      · rw [if_pos hz]
        obtain ⟨u1, u2, u3⟩ := w1 hz
        refine b_X10_behind_17 (fun q => absurd rfl q) (fun _ c => ?_) (fun _ c => ?_)
        · rw [e96] at c
          have hin := hasB_in c
          have hk := m1.2 a hin.1 hin.2
          refine b_X10_behind_37 (fun _ _ _ => hin.1) (fun _ _ _ => hin.2) (fun _ _ _ => hin.1) (fun _ _ _ => hin.2) (fun _ _ g => hend _ _ _ ?_) (fun _ _ g => hend _ _ _ ?_) (fun _ q => absurd q (by decide)) (fun q => absurd rfl q)
          · rw [u1 c g, hk.2.1 c]
          · rw [u2 c g, hk.1.1]
        · rw [e96] at c
          exact b_X10_behind_36 (b_X10_behind_37 (fun _ q => absurd rfl q) (fun _ q => absurd rfl q) (fun _ q => absurd rfl q) (fun _ q => absurd rfl q) (fun _ q => absurd rfl q) (fun _ q => absurd rfl q) (fun _ _ => hend _ _ _ (u3 c).symm) (fun q => absurd rfl q))
      · rw [if_neg hz]
        refine b_X10_behind_17 (fun _ => b_X10_behind_36 (b_X10_behind_37 (fun q => absurd q (by decide)) (fun q => absurd q (by decide)) (fun q => absurd q (by decide)) (fun q => absurd q (by decide)) (fun q => absurd q (by decide)) (fun q => absurd q (by decide)) (fun q => absurd q (by decide)) (fun _ => hend _ _ _ (w0 hz).symm))) (fun q => absurd q (by decide)) (fun q => absurd q (by decide))
    refine b_X9_behind_16 (fun _ c _ => (hasB_in c).1) (fun _ c _ => (hasB_in c).2) (fun _ c _ => (hasB_in c).1) (fun _ c _ => (hasB_in c).2) (fun c c2 c3 => ⟨_, _, rfl, rfl, ?_⟩) (fun c c2 c3 => ⟨_, _, rfl, rfl, ?_⟩) (fun c c2 => ⟨_, _, rfl, rfl, ?_⟩) (fun c => ⟨_, _, rfl, rfl, ?_⟩)
    · rw [e4] at c2
      have hin := hasB_in c2
      have hk := hc.2 a hin.1 hin.2
      exact hm _ (fun q => absurd (if_6.2.1 c) q) (fun _ => ⟨fun _ _ => hk.2.1 c2, fun _ q => absurd q c3, fun q => absurd (c2.symm.trans q) (by decide)⟩)
    · rw [e4] at c2
      have hin := hasB_in c2
      have hk := hc.2 a hin.1 hin.2
      exact hm _ (fun q => absurd (if_6.2.1 c) q) (fun _ => ⟨fun _ q => absurd c3 q, fun _ _ => hk.1.1, fun q => absurd (c2.symm.trans q) (by decide)⟩)
    · rw [e4] at c2
      exact hm _ (fun q => absurd (if_6.2.1 c) q) (fun _ => ⟨fun q => absurd (c2.symm.trans q) (by decide), fun q => absurd (c2.symm.trans q) (by decide), fun _ => rfl⟩)
    · exact hm _ (fun q => if_neg q) (fun q => absurd (if_6.2.2 q) c)
theorem pr_done : Pair l z X mX9_done mX10_done [jR 0, jN] [jR 96, jN] := by
  intro M hI
  refine b_X9_done_0 (c_X9_liveDays hI (fun hv M1 fr => ?_) (fun hv M1 fr hc ok hd h5 h8 h9 hn => ?_))
  · have hI1 := Inv_frL hI fr
    have eV := (frL_eq fr).2.1
    refine b_X9_done_4 (fun q => absurd q (by decide)) (fun _ => ⟨_, _, rfl, rfl, ?_⟩)
    refine b_X10_done_0 (c_X10_refusal hI1 (fun _ _ _ => rfl) (fun _ M2 mp => ?_) (fun q => absurd (eV.symm.trans q) hv))
    exact b_X10_done_4 (fun q => absurd q (by decide)) (fun _ => c_X10_back (fun M3 t1 t2 t3 t4 t5 t6 => b_X10_done_16 ⟨rfl, M3, rfl, Inv_back hI1 mp t1 t2 t3 t4 t5 t6⟩))
  · have hI1 := Inv_frL hI fr
    have eV := (frL_eq fr).2.1
    have eA := (frL_eq fr).2.2
    have eB := (frL_eq fr).1
    refine b_X9_done_4 (fun c => ?_) (fun c => ⟨_, _, rfl, rfl, ?_⟩)
    · have c' := if_6.2.1 c
      refine c_tk_1_12 (fun M4 a4 a5 a6 a7 b2 b3 b4 b5 hf hg => b_X9_done_25 ⟨_, _, rfl, rfl, ?_⟩)
      have ej : ∀ c, c ≠ 6 → jupd M4 6 4 0 c = M4 c := fun c hcc => by rw [jupd_c, if_neg hcc]
      have hN : ∀ c, 96 ≤ c → c ≠ 109 → jupd M4 6 4 0 c = M1 c := fun c h1 h2 => (ej c (by omega)).trans (hf c (by omega))
      refine b_X10_done_0 (c_X10_refusal hI1 hN (fun q => absurd (eV.trans hv) q) (fun _ M2 mp m1 m2 m3 m4 m5 => ?_))
      rw [eA] at m1 m2 ⊢
      rw [eB] at m5
      refine b_X10_done_4 (fun _ => ⟨?_, _, rfl, ?_⟩) (fun q => absurd (if_6.1.2 c') q)
      · have e1 : jupd M2 96 12 0 96 16 = M2 96 16 := by simp [jupd]
        have e2 : jupd M4 6 4 0 6 5 = M4 6 5 := by simp [jupd]
        rw [e1, e2, m5, hf 6 (by omega), hn]
      · have f1 : ∀ c, c < 96 → jupd M2 96 12 0 c = jupd M4 6 4 0 c := fun c hcc => by
          rw [jupd_c, if_neg (by omega)]
          exact mp.1 c (by omega)
        have f2 : ∀ c, 96 < c → jupd M2 96 12 0 c = M2 c := fun c hcc => by rw [jupd_c, if_neg (by omega)]
        have f3 : ∀ c, (5 < c ∧ c < 96 ∧ c ≠ 6) ∨ c = 101 ∨ c = 102 ∨ c = 119 ∨ c = 120 → jupd M2 96 12 0 c = M1 c := by
          intro c hcc
          by_cases e : c < 96
          · rw [f1 c e, ej c (by omega)]
            exact hf c (by omega)
          · rw [f2 c (by omega), mp.1 c (by omega)]
            exact hN c (by omega) (by omega)
        have f4 : ∀ j : Int, j ≠ 12 → jupd M2 96 12 0 96 j = M2 96 j := fun j hj => by simp [jupd, hj]
        obtain ⟨g1, g2, g3, g4, g5⟩ := hI1
        refine ⟨⟨⟨?_, ?_, ?_, ?_⟩, ?_, fun k k0 k1 => ?_⟩, ?_, ?_, ?_, ?_⟩
        · rw [f4 0 (by omega), m1.1.1, f1 1 (by omega), ej 1 (by omega), a4, hc.1.1]
        · rw [f4 1 (by omega), m1.1.2.1, f1 1 (by omega), ej 1 (by omega), a5, hc.1.2.1]
        · rw [f4 2 (by omega), m1.1.2.2.1, f1 1 (by omega), ej 1 (by omega), a6, hc.1.2.2.1]
        · rw [f4 3 (by omega), m1.1.2.2.2, f1 1 (by omega), ej 1 (by omega), a7, hc.1.2.2.2]
        · rw [f1 1 (by omega), ej 1 (by omega), a4, a5, a6, a7, hc.1.1, hc.1.2.1, hc.1.2.2.1, hc.1.2.2.2]
          have := ok.1
          omega
        · have hk := hc.2 k k0 k1
          have hm := m1.2 k k0 k1
          have ho := ok.2 k k0 k1
          rw [f1 1 (by omega), f1 2 (by omega), f1 3 (by omega), f1 4 (by omega), f1 5 (by omega), ej 1 (by omega), ej 2 (by omega), ej 3 (by omega), ej 4 (by omega), ej 5 (by omega), f2 97 (by omega), f2 98 (by omega), f2 99 (by omega), f2 100 (by omega), a4, b2, b3, b4, b5]
          have e9 : hasB (M1 12 4) k = hasB (Aof M 0 4) k := by rw [show M1 12 4 = Aof M 0 4 from hc.1.1]
          rw [e9]
          simp only [k0, k1, and_self, if_true]
          obtain ⟨⟨k2, k3, k4⟩, k5, k6⟩ := hk
          have k6' : 0 ≤ M1 16 k ∧ M1 16 k ≤ 2 := k6
          have k2' : M1 13 k = Aof M 1 k := k2
          have k3' : M1 14 k = Aof M 2 k := k3
          have k4' : M1 15 k = Aof M 3 k := k4
          rw [k2', k3', k4']
          refine ⟨⟨hm.1.1, hm.1.2.1, hm.1.2.2⟩, fun q => ⟨(hm.2.1 q).trans (k5 q).symm, ho.2.2.2.2 q⟩, by omega⟩
        · unfold iSig at g2 ⊢
          rw [f3 68 (by omega), f3 69 (by omega), f3 70 (by omega), f3 101 (by omega), f3 102 (by omega), f4 10 (by omega), mp.2.1 10 (by omega) (by omega) (by omega) (by omega) (by omega) (by omega) (by omega) (by omega) (by omega), hN 96 (by omega) (by omega)]
          exact g2
        · refine ⟨?_, ?_, ?_, fun i i0 i1 => ?_⟩
          · rw [f1 6 (by omega)]
            simp [jupd]
          · rw [f1 6 (by omega)]
            simp [jupd]
          · rw [f1 6 (by omega)]
            simp [jupd]
          · rw [f1 6 (by omega)] at i1
            simp [jupd] at i1
            omega
        · unfold iImg at g4 ⊢
          rw [f3 120 (by omega), f3 119 (by omega), f3 78 (by omega), f3 (78 + 1) (by omega), f3 (78 + 2) (by omega), f3 (78 + 3) (by omega), f3 (78 + 4) (by omega), f3 (78 + 5) (by omega), f3 (78 + 6) (by omega), f3 (78 + 7) (by omega), f3 (78 + 8) (by omega)]
          exact g4
        · unfold iImg at g5 ⊢
          rw [f3 120 (by omega), f3 119 (by omega), f3 87 (by omega), f3 (87 + 1) (by omega), f3 (87 + 2) (by omega), f3 (87 + 3) (by omega), f3 (87 + 4) (by omega), f3 (87 + 5) (by omega), f3 (87 + 6) (by omega), f3 (87 + 7) (by omega), f3 (87 + 8) (by omega)]
          exact g5
    · have c' : ¬ Aof M 8 0 = -6 := fun q => c (if_6.2.2 q)
      refine b_X10_done_0 (c_X10_refusal hI1 (fun _ _ _ => rfl) (fun q => absurd (eV.trans hv) q) (fun _ M2 mp m1 m2 m3 m4 m5 => ?_))
      rw [eA, if_neg c', if_neg c']
      exact b_X10_done_4 (fun q => absurd q (by decide)) (fun _ => c_X10_back (fun M3 t1 t2 t3 t4 t5 t6 => b_X10_done_16 ⟨rfl, M3, rfl, Inv_back hI1 mp t1 t2 t3 t4 t5 t6⟩))
end DAYPAIRS
