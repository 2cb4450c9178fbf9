theorem mD_eq {M M' A A' : Nat → Int → Int} (hd : mD M A) (e5 : A' 5 = A 5) (e6 : A' 6 = A 6) (f1 : M' 96 17 = M 96 17) (f2 : M' 96 18 = M 96 18) (f3 : M' 96 19 = M 96 19) (f4 : M' 107 = M 107) : mD M' A' := by
  unfold mD
  rw [e5, e6, f1, f2, f3, f4]
  exact hd
section MDAY
variable {l : Launch} {z d : Nat} {X : jX} {M A : Nat → Int → Int} {Q : Option jV → jM → Prop}
theorem c_X10_passMorning_90 {M1 W : Nat → Int → Int} {x v : Int} (hc : cM (jupd M1 96 1 v) W) (ok : okA W) (od : okD W) (hd : mD M1 W) (h60 : W 5 0 < 100) (ha : ∀ k : Int, 0 ≤ k → k < 6 → M1 108 k = W 7 k ∧ 0 ≤ W 7 k ∧ W 7 k ≤ 99) (hq : ∀ M', cM M' (tellA W) → mD M' (tellA W) → mF M1 M' → Q none (jG, M')) : J l z X (d + 3) mX10_passMorning (0, 0) 90 [jR 96, jI x] [jI v, jR 96] (jG, M1) Q := by
  obtain ⟨⟨d1, d2, d3⟩, d4⟩ := hd
  have o1 := od.1
  have o2 := od.2
  have hend : ∀ (t : Int) (M2 : Nat → Int → Int), (∀ c, c ≠ 96 → M2 c = M1 c) → (∀ j : Int, j ≠ 1 → j ≠ 18 → j ≠ 19 → M2 96 j = M1 96 j) → M2 96 1 = v → M2 96 18 = tellA W 5 1 → M2 96 19 = tellA W 5 2 → J l z X (d + 3) mX10_passMorning (0, 0) 122 [jR 96, jI t] [] (jG, M2) Q := by
    intro t M2 f1 f2 f3 f4 f5
    have hc2 : cM M2 W := by
      refine ⟨?_, fun k k0 k1 => ?_⟩
      · have := hc.1
        simp [jupd] at this
        rw [f2 0 (by omega) (by omega) (by omega), f3, f2 2 (by omega) (by omega) (by omega), f2 3 (by omega) (by omega) (by omega)]
        exact this
      · have := hc.2 k k0 k1
        simp [jupd] at this
        rw [f1 97 (by omega), f1 98 (by omega), f1 99 (by omega), f1 100 (by omega)]
        exact this
    refine b_X10_passMorning_122 (c_X10_oldestNow hc2 ?_)
    have e17 : M2 96 17 = W 5 0 := (f2 17 (by omega) (by omega) (by omega)).trans d1
    refine b_X10_passMorning_134 (by omega) (by omega) ?_ (hq _ ?_ ?_ ⟨fun c g1 g2 g3 g4 g5 => ?_, fun j g1 g2 g3 g4 g5 g6 => ?_⟩)
    · simp [jupd]
      exact jInd (by omega)
    · refine cM_eq (A := W) ?_ (fun c hcc => tellA_c W (by omega) (by omega))
      refine ⟨?_, fun k k0 k1 => ?_⟩
      · simpa [jupd] using hc2.1
      · simpa [jupd] using hc2.2 k k0 k1
    · refine ⟨⟨?_, ?_, ?_⟩, fun i i0 i1 => ?_⟩
      · simp [jupd, e17, tellA]
      · simp [jupd, f4]
      · simp [jupd, f5]
      · have e0 : tellA W 5 0 = W 5 0 + 1 := by simp [tellA]
        have e6 : tellA W 6 i = if i = W 5 0 then oldA W else W 6 i := by simp [tellA]
        rw [e0] at i1
        rw [e6]
        simp [jupd, e17]
        by_cases e : i = W 5 0
        · rw [if_pos e, if_pos e]
        · rw [if_neg e, if_neg e, f1 107 (by omega)]
          exact d4 i i0 (by omega)
    · rw [jupd_c, if_neg g1, jupd_c, if_neg g4]
      exact f1 c g1
    · simp [jupd]
      rw [if_neg g4]
      exact f2 j g2 g5 g6
  refine b_X10_passMorning_90 ?_
  have ha' : ∀ k : Int, 0 ≤ k → k < 6 → jupd M1 96 1 v 108 k = W 7 k ∧ 0 ≤ W 7 k ∧ W 7 k ≤ 99 := fun k k0 k1 => by simpa [jupd] using ha k k0 k1
  refine b_X10_passing_0 (c_X10_passing_2 hc ok ha' 6 0 (by omega) (by omega) ?_)
  have hp := pairI_rng W 6 (by omega)
  have e1 : tellA W 5 1 = if W 5 2 = -6 then (if passA W = -6 then -6 else W 5 0) else W 5 1 := by simp [tellA]
  have e2 : tellA W 5 2 = passA W := by simp [tellA]
  have j17 : jupd M1 96 1 v 96 17 = M1 96 17 := by simp [jupd]
  have j18 : jupd M1 96 1 v 96 18 = M1 96 18 := by simp [jupd]
  have j19 : jupd M1 96 1 v 96 19 = M1 96 19 := by simp [jupd]
  have hc1 : ∀ c, c ≠ 96 → jupd M1 96 1 v c = M1 c := fun c hcc => by rw [jupd_c, if_neg hcc]
  have hj1 : ∀ j : Int, j ≠ 1 → j ≠ 18 → j ≠ 19 → jupd M1 96 1 v 96 j = M1 96 j := fun j h1 _ _ => by simp [jupd, h1]
  refine b_X10_passMorning_97 (fun c => hend _ _ hc1 hj1 (by simp [jupd]) ?_ ?_) (fun c c2 => hend _ _ hc1 hj1 (by simp [jupd]) ?_ ?_) (fun c c2 => hend _ _ (fun c9 hcc => ?_) (fun j g1 g2 g3 => ?_) (by simp [jupd]) ?_ ?_)
  · rw [j18, d2, e1]
    unfold passA
    by_cases g : W 5 2 = -6
    · rw [if_pos g, if_pos (by omega)]; omega
    · rw [if_neg g]
  · rw [j19, d3, e2]
    unfold passA
    by_cases g : W 5 2 = -6
    · rw [if_pos g]; omega
    · rw [if_neg g]
  · rw [j18, d2] at c2
    rw [j18, d2, e1, if_neg (by omega)]
  · rw [j18, d2] at c2
    rw [j19, d3, e2]
    unfold passA
    rw [if_neg (by omega)]
  · rw [jupd_c, if_neg hcc, jupd_c, if_neg hcc]
    exact hc1 c9 hcc
  · simp [jupd, g1, g2, g3]
  · rw [j18, d2] at c2
    rw [e1, if_pos (by omega)]
    have : passA W = pairI W 6 := by unfold passA; rw [if_pos (by omega)]
    rw [this, if_neg (by omega)]
    simp [jupd, d1]
  · rw [j18, d2] at c2
    rw [e2]
    unfold passA
    rw [if_pos (by omega)]
    simp [jupd]
theorem c_X10_passMorning_2 (hc : cM M A) (ok : okA A) (od : okD A) (hd : mD M A) (h60 : A 5 0 < 100) (hq : ∀ M', cM M' (tellA (wakeA (copyA A))) → mD M' (tellA (wakeA (copyA A))) → mF M M' → Q none (jG, M')) : ∀ (n : Nat) (x : Int) (M1 : Nat → Int → Int), x = 6 - (n : Int) → 0 ≤ x → (∀ c, c ≠ 97 → c ≠ 100 → c ≠ 108 → M1 c = M c) → (∀ j : Int, 0 ≤ j → j < 6 → (j < x → M1 108 j = A 1 j) ∧ M1 97 j = (if j < x then wakeA (copyA A) 1 j else A 1 j) ∧ M1 100 j = (if j < x then 0 else M 100 j)) → J l z X (d + 3) mX10_passMorning (0, 0) 2 [jR 96, jI x] [] (jG, M1) Q := by
  intro n
  induction n with
  | zero =>
    intro x M1 hx x0 f1 f2
    have e5 : wakeA (copyA A) 5 = A 5 := by rw [wakeA_c _ (by omega), copyA_c _ (by omega)]
    have e6 : wakeA (copyA A) 6 = A 6 := by rw [wakeA_c _ (by omega), copyA_c _ (by omega)]
    have e7 : ∀ k : Int, wakeA (copyA A) 7 k = A 1 k := fun k => by rw [wakeA_c _ (by omega)]; simp [copyA]
    have f96 := f1 96 (by omega) (by omega) (by omega)
    have hend : ∀ v : Int, v = (if A 0 7 = 1 then A 0 6 else 0) → J l z X (d + 3) mX10_passMorning (0, 0) 90 [jR 96, jI x] [jI v, jR 96] (jG, M1) Q := by
      intro v hv
      refine c_X10_passMorning_90 (W := wakeA (copyA A)) ⟨?_, fun k k0 k1 => ?_⟩ (okA_wake (okA_eq ok (fun c hcc => copyA_c A (by omega)))) (okD_eq od e5) (mD_eq hd e5 e6 (by rw [f96]) (by rw [f96]) (by rw [f96]) (f1 107 (by omega) (by omega) (by omega))) (by rw [e5]; exact h60) (fun k k0 k1 => ?_) (fun M' m1 m2 m3 => hq M' m1 m2 (mF_trans ⟨fun c g1 g2 g3 g4 g5 => f1 c g2 g3 g5, fun j _ _ _ _ _ _ => by rw [f96]⟩ m3))
      · simp [jupd, wakeA, copyA, f96, hc.1, hv]
      · have h1 := hc.2 k k0 k1
        have h2 := f2 k k0 k1
        rw [if_pos (by omega), if_pos (by omega)] at h2
        simp [jupd, h2]
        rw [f1 98 (by omega) (by omega) (by omega), f1 99 (by omega) (by omega) (by omega)]
        simp [wakeA, copyA, h1]
      · rw [e7]
        exact ⟨(f2 k k0 k1).1 (by omega), (ok.2 k k0 k1).1⟩
    refine b_X10_passMorning_2 (fun q => absurd q (by omega)) (fun q => absurd q (by omega)) (fun q => absurd q (by omega)) (fun q => absurd q (by omega)) (fun q => absurd q (by omega)) (fun q => absurd q (by omega)) (fun q => absurd q (by omega)) (fun _ c => hend _ ?_) (fun _ c => hend _ ?_) (fun q => absurd q (by omega)) (fun q => absurd q (by omega))
    · rw [f96, hc.1.2.2.2] at c
      rw [if_neg c]
    · rw [f96, hc.1.2.2.2] at c
      rw [if_pos c, f96, hc.1.2.2.1]
  | succ n ih =>
    intro x M1 hx x0 f1 f2
    have x1 : x < 6 := by omega
    have h1 := hc.2 x x0 x1
    have h2 := f2 x x0 x1
    have h3 := ok.2 x x0 x1
    rw [if_neg (by omega), if_neg (by omega)] at h2
    have g96 : jupd M1 108 x (M1 97 x) 96 = M 96 := by rw [jupd_c, if_neg (by omega)]; exact f1 96 (by omega) (by omega) (by omega)
    have g97 : jupd M1 108 x (M1 97 x) 97 x = A 1 x := by rw [jupd_c, if_neg (by omega)]; exact h2.2.1
    have g98 : jupd M1 108 x (M1 97 x) 98 x = A 2 x := by rw [jupd_c, if_neg (by omega), f1 98 (by omega) (by omega) (by omega)]; exact h1.1.2.1
    have g99 : jupd M1 108 x (M1 97 x) 99 x = A 3 x := by rw [jupd_c, if_neg (by omega), f1 99 (by omega) (by omega) (by omega)]; exact h1.1.2.2
    have g100 : jupd M1 108 x (M1 97 x) 100 x = M 100 x := by rw [jupd_c, if_neg (by omega)]; exact h2.2.2
    have hend : ∀ v : Int, v = wakeA (copyA A) 1 x → J l z X (d + 3) mX10_passMorning (0, 0) 59 [jR 96, jI x] [jI v, jI x, jR 97] (jG, jupd M1 108 x (M1 97 x)) Q := by
      intro v hv
      refine b_X10_passMorning_59 x0 x1 x0 x1 (jInd (by omega)) (ih _ _ (by omega) (by omega) (fun c g1 g2 g3 => ?_) (fun j j0 j1 => ?_))
      · rw [jupd_c, if_neg g2, jupd_c, if_neg g1, jupd_c, if_neg g3]
        exact f1 c g1 g2 g3
      · have h4 := f2 j j0 j1
        by_cases e : j = x
        · subst e
          simp [jupd, hv, h2.2.1]
          exact ⟨fun q => absurd q (by omega), fun q => absurd q (by omega)⟩
        · have e9 : (j < x + 1) ↔ (j < x) := by omega
          simp only [e9]
          simpa [jupd, e] using h4
    refine b_X10_passMorning_2 (fun _ => x0) (fun q => q) (fun _ _ => x0) (fun q _ => q) (fun _ c => ?_) (fun _ _ => x0) (fun q _ => q) (fun q => absurd q (by omega)) (fun q => absurd q (by omega)) (fun _ c => hend _ ?_) (fun _ c => hend _ ?_)
    · rw [g97, g98]
      omega
    · rw [g96, hc.1.1] at c
      rw [g97, g98, g99, g100, h1.2.1 c]
      simp [wakeA, copyA, c]
    · rw [g96, hc.1.1] at c
      rw [g97]
      simp [wakeA, copyA, c]
theorem c_X10_happen (hc : cM M A) (ok : okA A) (od : okD A) (hd : mD M A) (h60 : A 5 0 < 100) {k x y : Int} (hk : isK k) (hw : whyA A k x y = 0) (hq : ∀ M', cM M' (dayA A k x y) → mD M' (dayA A k x y) → mF M M' → Q none (jG, M')) : J l z X (d + 4) mX10_happen (0, 0) 0 [jR 96, jI (kM k), jI x, jI y] [] (jG, M) Q := by
  obtain ⟨i0, i1, i2, i3, i4, i5, i6, i7⟩ := kM_iff hk
  obtain ⟨⟨m0, m1, m2, m3⟩, hm⟩ := id hc
  have hb : k ≠ 33 → k ≠ 46 → hasB (A 0 4) x = true ∧ (k = 62 → hasB (A 0 4) y = true ∧ x ≠ y ∧ A 4 y ≠ 2 ∧ A 4 x ≠ 0) ∧ (k ≠ 62 → k ≠ 120 → A 4 x + (if k = 98 then 2 else 1) ≤ 2 ∧ (if k = 98 then 2 else 1) ≤ A 0 5) := by
    intro g1 g2
    unfold whyA at hw
    rw [if_neg (by omega)] at hw
    by_cases b1 : hasB (A 0 4) x = false
    · rw [if_pos b1] at hw; omega
    rw [if_neg b1] at hw
    refine ⟨by simpa using b1, fun g3 => ?_, fun g3 g4 => ?_⟩
    · rw [if_pos g3] at hw
      by_cases b2 : hasB (A 0 4) y = false
      · rw [if_pos b2] at hw; omega
      rw [if_neg b2] at hw
      refine ⟨by simpa using b2, ?_⟩
      by_cases b3 : x = y
      · rw [if_pos b3] at hw; omega
      rw [if_neg b3] at hw
      by_cases b4 : A 4 y = 2
      · rw [if_pos b4] at hw; omega
      rw [if_neg b4] at hw
      by_cases b5 : A 4 x = 0
      · rw [if_pos b5] at hw; omega
      exact ⟨b3, b4, b5⟩
    · rw [if_neg g3, if_neg g4] at hw
      by_cases b2 : 2 < A 4 x + (if k = 98 then 2 else 1)
      · rw [if_pos b2] at hw; omega
      rw [if_neg b2] at hw
      by_cases b3 : A 0 5 < (if k = 98 then 2 else 1)
      · rw [if_pos b3] at hw; omega
      omega
  have hact : k ≠ 46 → ∀ M', cM M' (actA A k x y) → mF M M' → M' 96 17 = M 96 17 → M' 96 18 = M 96 18 → M' 96 19 = M 96 19 → M' 107 = M 107 → Q none (jG, M') := by
    intro g M' n1 n2 n3 n4 n5 n6
    unfold dayA at hq
    rw [if_neg g] at hq
    exact hq M' n1 (mD_eq hd (actA_c A _ _ _ (by omega)) (actA_c A _ _ _ (by omega)) n3 n4 n5 n6) n2
  have heat : ∀ n : Int, n = (if k = 98 then 2 else 1) → k ≠ 33 → k ≠ 46 → k ≠ 62 → k ≠ 120 → ∀ Q', (∀ M', Q none (jG, M') → Q' none (jG, M')) → J l z X (d + 3) mX10_eat (0, 0) 0 [jR 96, jI x, jI n] [] (jG, M) Q' := by
    intro n hn g1 g2 g3 g4 Q' hQ
    obtain ⟨hx, _, hx2⟩ := hb g1 g2
    have hx2 := hx2 g3 g4
    rw [← hn] at hx2
    have hn2 : 1 ≤ n ∧ n ≤ 2 := by rw [hn]; split <;> omega
    have hx' := hasB_in hx
    have hxx := hm x hx'.1 hx'.2
    have hox := ok.2 x hx'.1 hx'.2
    have ho := ok.1
    have e9 : jupd M 100 x (M 100 x + n) 96 1 = A 0 5 := by rw [jupd_c, if_neg (by omega)]; exact m1
    refine b_X10_eat_0 hx'.1 hx'.2 (jInd (by omega)) (by rw [e9]; exact jInd (by omega)) (hQ _ (hact g2 _ ?_ ⟨fun c h1 h2 h3 h4 h5 => ?_, fun j h1 h2 h3 h4 h5 h6 => ?_⟩ ?_ ?_ ?_ ?_))
    · unfold actA
      rw [if_neg g1, if_neg g2, if_neg g4, if_neg g3, ← hn, e9, hxx.2.1 hx]
      refine ⟨by simp [jupd, m0, m2, m3], fun j j0 j1 => ?_⟩
      have h9 := hm j j0 j1
      simp [jupd]
      refine ⟨h9.1, ?_⟩
      by_cases f2 : j = x
      · simp [f2]; omega
      · simp [f2]
        exact h9.2
    · rw [jupd_c, if_neg h1, jupd_c, if_neg h3]
    · simp [jupd, h2]
    · simp [jupd]
    · simp [jupd]
    · simp [jupd]
    · rw [jupd_c, if_neg (by omega), jupd_c, if_neg (by omega)]
  have hg : kM k = 3 → hasB (A 0 4) x = true ∧ hasB (A 0 4) y = true ∧ x ≠ y ∧ A 4 y ≠ 2 ∧ A 4 x ≠ 0 := fun c => ⟨(hb (by omega) (by omega)).1, (hb (by omega) (by omega)).2.1 (by omega)⟩
  have ho := ok.1
  refine b_X10_happen_0 (fun c => (hasB_in (hg c).1).1) (fun c => (hasB_in (hg c).1).2) (fun c => ?_) (fun c => (hasB_in (hg c).2.1).1) (fun c => (hasB_in (hg c).2.1).2) (fun c => ?_) (fun c => ?_) (fun c => ?_) (fun c => ?_) (fun c => ?_) (fun c => ?_) (fun c => ?_) (fun c => ?_)
  · have h1 := hasB_in (hg c).1
    have h2 := hm x h1.1 h1.2
    exact jInd (by omega)
  · have h1 := hasB_in (hg c).2.1
    have h2 := hm y h1.1 h1.2
    have e8 : jupd M 100 x (M 100 x - 1) 100 y = M 100 y := by
      unfold jupd
      rw [if_neg]
      have := (hg c).2.2.1
      omega
    rw [e8]
    exact jInd (by omega)
  · rw [m3]
    exact jInd (by omega)
  · have e46 : k = 46 := by omega
    unfold dayA at hq
    rw [if_pos e46] at hq
    refine b_X10_passMorning_0 (c_X10_passMorning_2 hc ok od hd h60 (fun M' n1 n2 n3 => b_X10_happen_111 (hq M' n1 n2 n3)) 6 0 M (by omega) (by omega) (fun _ _ _ _ => rfl) (fun j j0 j1 => ⟨fun q => absurd q (by omega), ?_, ?_⟩))
    · rw [if_neg (by omega)]; exact (hm j j0 j1).1.1
    · rw [if_neg (by omega)]
  · exact heat 2 (by rw [if_pos (by omega)]) (by omega) (by omega) (by omega) (by omega) _ (fun M' k9 => b_X10_happen_42 (b_X10_happen_111 k9))
  · exact heat 1 (by rw [if_neg (by omega)]) (by omega) (by omega) (by omega) (by omega) _ (fun M' k9 => b_X10_happen_51 (b_X10_happen_111 k9))
  · have hx := (hb (by omega) (by omega)).1
    have hx' := hasB_in hx
    have hbb := bit_clr (t := A 0 4) (k := x) ho.1 hx'
    refine b_X10_happen_111 (hact (by omega) _ ?_ ⟨fun c h1 h2 h3 h4 h5 => ?_, fun j h1 h2 h3 h4 h5 h6 => ?_⟩ ?_ ?_ ?_ ?_)
    · unfold actA
      rw [if_neg (by omega), if_neg (by omega), if_pos (by omega), m0]
      refine ⟨by simp [jupd, m1, m2, m3], fun j j0 j1 => ?_⟩
      have h5 := hm j j0 j1
      simp [jupd]
      refine ⟨h5.1, fun q => h5.2.1 ?_, h5.2.2⟩
      rw [hbb.2] at q
      by_cases f : j = x
      · rw [if_pos f] at q; exact absurd q (by decide)
      · rw [if_neg f] at q; exact q
    · rw [jupd_c, if_neg h1]
    · simp [jupd, h1]
    · simp [jupd]
    · simp [jupd]
    · simp [jupd]
    · rw [jupd_c, if_neg (by omega)]
  · obtain ⟨hx, hy, hne, hy2, hx0⟩ := hg c
    have hx' := hasB_in hx
    have hy' := hasB_in hy
    have h1 := hm x hx'.1 hx'.2
    have h2 := hm y hy'.1 hy'.2
    have h3 := ok.2 x hx'.1 hx'.2
    have h4 := ok.2 y hy'.1 hy'.2
    have e8 : jupd M 100 x (M 100 x - 1) 100 y = M 100 y := by
      unfold jupd
      rw [if_neg]
      omega
    rw [e8, h1.2.1 hx, h2.2.1 hy]
    refine b_X10_happen_111 (hact (by omega) _ ?_ ⟨fun c h1 h2 h3 h4 h5 => ?_, fun j h1 h2 h3 h4 h5 h6 => ?_⟩ ?_ ?_ ?_ ?_)
    · unfold actA
      rw [if_neg (by omega), if_neg (by omega), if_neg (by omega), if_pos (by omega)]
      refine ⟨by simp [jupd, m0, m1, m2, m3], fun j j0 j1 => ?_⟩
      have h5 := hm j j0 j1
      simp [jupd]
      refine ⟨h5.1, ?_⟩
      by_cases f1 : j = y
      · simp [f1]; omega
      · by_cases f2 : j = x
        · simp [f2, hne]; omega
        · simp [f1, f2]
          exact h5.2
    · rw [jupd_c, if_neg h3, jupd_c, if_neg h3]
    · simp [jupd]
    · simp [jupd]
    · simp [jupd]
    · simp [jupd]
    · rw [jupd_c, if_neg (by omega), jupd_c, if_neg (by omega)]
  · refine b_X10_happen_111 (hact (by omega) _ ?_ ⟨fun c h1 h2 h3 h4 h5 => ?_, fun j h1 h2 h3 h4 h5 h6 => ?_⟩ ?_ ?_ ?_ ?_)
    · unfold actA
      rw [if_pos (by omega), m3]
      refine ⟨by simp [jupd, m0, m1, m2], fun j j0 j1 => ?_⟩
      have h5 := hm j j0 j1
      simp [jupd]
      exact h5
    · rw [jupd_c, if_neg h1]
    · simp [jupd, h3]
    · simp [jupd]
    · simp [jupd]
    · simp [jupd]
    · rw [jupd_c, if_neg (by omega)]
theorem c_X10_goDays_18 {K Xs Ys : Int → Int} {M0 : Nat → Int → Int} (h60 : M0 96 16 ≤ 60) (hK : ∀ i : Int, 0 ≤ i → i < M0 96 16 → M0 104 i = kM (K i) ∧ M0 105 i = Xs i ∧ M0 106 i = Ys i ∧ isK (K i)) : ∀ (m : Nat) (i : Int) (M A : Nat → Int → Int), i = M0 96 16 - (m : Int) → 0 ≤ i → (∀ c, c ≠ 96 → c ≠ 97 → c ≠ 100 → c ≠ 107 → c ≠ 108 → M c = M0 c) → (∀ j : Int, j ≠ 0 → j ≠ 1 → j ≠ 3 → j ≠ 17 → j ≠ 18 → j ≠ 19 → j ≠ 23 → j ≠ 24 → M 96 j = M0 96 j) → cM M A → okA A → okD A → A 5 0 ≤ i → mD M A → M 96 23 = -6 → M 96 24 = -6 → A 8 0 = -6 → A 8 1 = -6 → (∀ M' A', A' = runA K Xs Ys m i A → cM M' A' → mD M' A' → M' 96 23 = A' 8 0 → M' 96 24 = A' 8 1 → (∀ c, c ≠ 96 → c ≠ 97 → c ≠ 100 → c ≠ 107 → c ≠ 108 → M' c = M0 c) → (∀ j : Int, j ≠ 0 → j ≠ 1 → j ≠ 3 → j ≠ 17 → j ≠ 18 → j ≠ 19 → j ≠ 23 → j ≠ 24 → M' 96 j = M0 96 j) → Q none (jG, M')) → J l z X (d + 5) mX10_goDays (0, 0) 18 [jR 96, jI i, jN] [] (jG, M) Q := by
  intro m
  induction m with
  | zero =>
    intro i M A hi i0 f g hc ok od h5 hd h23 h24 h8 h9 hq
    have e16 := g 16 (by omega) (by omega) (by omega) (by omega) (by omega) (by omega) (by omega) (by omega)
    refine b_X10_goDays_18 (fun q => absurd q (by omega)) (fun q => absurd q (by omega)) (fun _ => hq M A rfl hc hd (by omega) (by omega) f g) (fun q => absurd q (by omega)) (fun q => absurd q (by omega))
  | succ m ih =>
    intro i M A hi i0 f g hc ok od h5 hd h23 h24 h8 h9 hq
    have e16 := g 16 (by omega) (by omega) (by omega) (by omega) (by omega) (by omega) (by omega) (by omega)
    have hk := hK i i0 (by omega)
    unfold runA at hq
    refine b_X10_goDays_18 (fun _ _ => i0) (fun _ _ => by omega) (fun q => absurd q (by omega)) (fun _ q => absurd q (by omega)) (fun _ _ => ?_)
    rw [f 104 (by omega) (by omega) (by omega) (by omega) (by omega), f 105 (by omega) (by omega) (by omega) (by omega) (by omega), f 106 (by omega) (by omega) (by omega) (by omega) (by omega), hk.1, hk.2.1, hk.2.2.1]
    refine c_X10_whyNot hc ok hk.2.2.2 ?_
    by_cases hw : whyA A (K i) (Xs i) (Ys i) = 0
    · rw [if_pos hw] at hq
      refine b_X10_goDays_55 (fun _ => ?_) (fun q => absurd q (by omega))
      refine b_X10_goDays_67 (fun _ => ?_) (fun q => absurd q (by omega))
      refine b_X10_goDays_81 (fun _ => i0) (fun _ => by omega) (fun q => absurd hw q) (fun _ => ?_)
      have hx : ∀ c, c ≠ 96 → jupd (jupd M 96 23 (-6)) 96 24 (-6) c = M c := fun c hcc => by rw [jupd_c, if_neg hcc, jupd_c, if_neg hcc]
      have hx2 : ∀ j : Int, jupd (jupd M 96 23 (-6)) 96 24 (-6) 96 j = M 96 j := fun j => by
        simp [jupd]
        by_cases e1 : j = 24
        · rw [if_pos e1, e1, h24]
        · rw [if_neg e1]
          by_cases e2 : j = 23
          · rw [if_pos e2, e2, h23]
          · rw [if_neg e2]
      have hall : jupd (jupd M 96 23 (-6)) 96 24 (-6) = M := by
        funext c
        by_cases e : c = 96
        · subst e
          funext j
          exact hx2 j
        · exact hx c e
      rw [hall, f 104 (by omega) (by omega) (by omega) (by omega) (by omega), f 105 (by omega) (by omega) (by omega) (by omega) (by omega), f 106 (by omega) (by omega) (by omega) (by omega) (by omega), hk.1, hk.2.1, hk.2.2.1]
      have o3 := okD_day (k := K i) (x := Xs i) (y := Ys i) od (by omega)
      have e8 : dayA A (K i) (Xs i) (Ys i) 8 = A 8 := by
        unfold dayA
        by_cases e : K i = 46
        · rw [if_pos e, tellA_c _ (by omega) (by omega), wakeA_c _ (by omega), copyA_c _ (by omega)]
        · rw [if_neg e, actA_c _ _ _ _ (by omega)]
      refine c_X10_happen hc ok od hd (by omega) hk.2.2.2 hw (fun M' n1 n2 n3 => b_X10_goDays_110 (jInd (by omega)) ?_)
      refine ih _ _ _ (by omega) (by omega) (fun c g1 g2 g3 g4 g5 => (n3.1 c g1 g2 g3 g4 g5).trans (f c g1 g2 g3 g4 g5)) (fun j g1 g2 g3 g4 g5 g6 g7 g8 => (n3.2 j g1 g2 g3 g4 g5 g6).trans (g j g1 g2 g3 g4 g5 g6 g7 g8)) n1 (okA_day ok hw) o3.1 (by omega) n2 ?_ ?_ (by rw [e8]; exact h8) (by rw [e8]; exact h9) hq
      · rw [n3.2 23 (by omega) (by omega) (by omega) (by omega) (by omega) (by omega)]; exact h23
      · rw [n3.2 24 (by omega) (by omega) (by omega) (by omega) (by omega) (by omega)]; exact h24
    · rw [if_neg hw] at hq
      have hpos : 0 < whyA A (K i) (Xs i) (Ys i) := by
        revert hw
        unfold whyA
        split
        · omega
        · split
          · omega
          · split
            · split
              · omega
              · split
                · omega
                · split
                  · omega
                  · split <;> omega
            · split
              · omega
              · split
                · omega
                · split <;> omega
      refine b_X10_goDays_55 (fun q => absurd q (by omega)) (fun _ => ?_)
      refine b_X10_goDays_67 (fun q => absurd q (by omega)) (fun _ => ?_)
      refine b_X10_goDays_81 (fun q => absurd q (by omega)) (fun q => absurd q (by omega)) (fun _ => ?_) (fun q => absurd q (by omega))
      have hx : ∀ c, c ≠ 96 → jupd (jupd M 96 23 i) 96 24 (whyA A (K i) (Xs i) (Ys i)) c = M c := fun c hcc => by rw [jupd_c, if_neg hcc, jupd_c, if_neg hcc]
      have hx2 : ∀ j : Int, j ≠ 23 → j ≠ 24 → jupd (jupd M 96 23 i) 96 24 (whyA A (K i) (Xs i) (Ys i)) 96 j = M 96 j := fun j e2 e1 => by
        simp [jupd, e1, e2]
      refine b_X10_goDays_110 (jInd (by omega)) (b_X10_goDays_18 (fun _ q => ?_) (fun _ q => ?_) (fun _ => ?_) (fun _ _ => ?_) (fun _ q => ?_))
      · simp [jupd] at q; omega
      · simp [jupd] at q; omega
      all_goals try (simp [jupd] at q; omega)
      all_goals
        refine hq _ _ rfl ?_ ?_ ?_ ?_ (fun c g1 g2 g3 g4 g5 => (hx c g1).trans (f c g1 g2 g3 g4 g5)) (fun j g1 g2 g3 g4 g5 g6 g7 g8 => (hx2 j g7 g8).trans (g j g1 g2 g3 g4 g5 g6 g7 g8))
        · refine cM_eq (A := A) ?_ (fun c hcc => badA_c A _ _ (by omega))
          refine ⟨?_, fun k k0 k1 => ?_⟩
          · rw [hx2 0 (by omega) (by omega), hx2 1 (by omega) (by omega), hx2 2 (by omega) (by omega), hx2 3 (by omega) (by omega)]
            exact hc.1
          · rw [hx 97 (by omega), hx 98 (by omega), hx 99 (by omega), hx 100 (by omega)]
            exact hc.2 k k0 k1
        · exact mD_eq hd (badA_c A _ _ (by omega)) (badA_c A _ _ (by omega)) (hx2 17 (by omega) (by omega)) (hx2 18 (by omega) (by omega)) (hx2 19 (by omega) (by omega)) (hx 107 (by omega))
        · simp [jupd, badA]
        · simp [jupd, badA]
end MDAY
