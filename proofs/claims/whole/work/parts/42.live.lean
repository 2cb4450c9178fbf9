/-! ## the days of the class -/
theorem tellA_c (A : Nat → Int → Int) {c : Nat} (h5 : c ≠ 5) (h6 : c ≠ 6) : tellA A c = A c := by
  funext j
  simp [tellA, h5, h6]
theorem wakeA_c (A : Nat → Int → Int) {c : Nat} (h5 : 5 ≤ c) : wakeA A c = A c := by
  funext j
  simp [wakeA, show c ≠ 1 by omega, show c ≠ 4 by omega, show c ≠ 0 by omega]
theorem copyA_c (A : Nat → Int → Int) {c : Nat} (h : c ≠ 7) : copyA A c = A c := by
  funext j
  simp [copyA, h]
theorem actA_c (A : Nat → Int → Int) (k x y : Int) {c : Nat} (h5 : 5 ≤ c) : actA A k x y c = A c := by
  unfold actA
  split
  · rw [jupd_c, if_neg (by omega)]
  · split
    · exact wakeA_c A h5
    · split
      · rw [jupd_c, if_neg (by omega)]
      · split
        · rw [jupd_c, if_neg (by omega), jupd_c, if_neg (by omega)]
        · rw [jupd_c, if_neg (by omega), jupd_c, if_neg (by omega)]
theorem cH_eq {h : Nat} {M A A' : Nat → Int → Int} (hc : cH h M A) (e : ∀ c, c ≤ 4 → A' c = A c) : cH h M A' := by
  unfold cH
  rw [e 0 (by omega), e 1 (by omega), e 2 (by omega), e 3 (by omega), e 4 (by omega)]
  exact hc
theorem cH_M {h : Nat} {M M' A : Nat → Int → Int} (hc : cH h M A) (e : ∀ c, h ≤ c → c ≤ h + 4 → M' c = M c) : cH h M' A := by
  unfold cH
  rw [e h (by omega) (by omega), e (h + 1) (by omega) (by omega), e (h + 2) (by omega) (by omega), e (h + 3) (by omega) (by omega), e (h + 4) (by omega) (by omega)]
  exact hc
theorem okA_eq {A A' : Nat → Int → Int} (ok : okA A) (e : ∀ c, c ≤ 4 → A' c = A c) : okA A' := by
  unfold okA
  rw [e 0 (by omega), e 1 (by omega), e 2 (by omega), e 3 (by omega), e 4 (by omega)]
  exact ok
theorem okD_eq {A A' : Nat → Int → Int} (ok : okD A) (e : A' 5 = A 5) : okD A' := by
  unfold okD
  rw [e]
  exact ok
theorem okA_day {A : Nat → Int → Int} {k x y : Int} (ok : okA A) (hw : whyA A k x y = 0) : okA (dayA A k x y) := by
  unfold dayA
  by_cases e : k = 46
  · rw [if_pos e]
    exact okA_eq (okA_wake (okA_eq ok (fun c hc => copyA_c A (by omega)))) (fun c hc => tellA_c _ (by omega) (by omega))
  · rw [if_neg e]
    exact okA_act ok hw
theorem okD_day {A : Nat → Int → Int} {k x y : Int} (ok : okD A) (h5 : A 5 0 < 100) : okD (dayA A k x y) ∧ A 5 0 ≤ dayA A k x y 5 0 ∧ dayA A k x y 5 0 ≤ A 5 0 + 1 := by
  unfold dayA
  by_cases e : k = 46
  · rw [if_pos e]
    have e5 : wakeA (copyA A) 5 = A 5 := by rw [wakeA_c _ (by omega), copyA_c _ (by omega)]
    refine ⟨okD_tell (okD_eq ok e5) (by rw [e5]; exact h5), ?_⟩
    have : tellA (wakeA (copyA A)) 5 0 = A 5 0 + 1 := by
      have : tellA (wakeA (copyA A)) 5 0 = wakeA (copyA A) 5 0 + 1 := by simp [tellA]
      rw [this, e5]
    omega
  · rw [if_neg e]
    have e5 := actA_c A k x y (c := 5) (by omega)
    exact ⟨okD_eq ok e5, by rw [e5]; omega, by rw [e5]; omega⟩
def badA (A : Nat → Int → Int) (i w : Int) : Nat → Int → Int := jupd (jupd A 8 0 i) 8 1 w
theorem badA_c (A : Nat → Int → Int) (i w : Int) {c : Nat} (h : c ≠ 8) : badA A i w c = A c := by
  unfold badA
  rw [jupd_c, if_neg h, jupd_c, if_neg h]
def runA (K Xs Ys : Int → Int) : Nat → Int → (Nat → Int → Int) → Nat → Int → Int
  | 0, _, A => A
  | m + 1, i, A => if whyA A (K i) (Xs i) (Ys i) = 0 then runA K Xs Ys m (i + 1) (dayA A (K i) (Xs i) (Ys i)) else badA A i (whyA A (K i) (Xs i) (Ys i))
def startA (M : Nat → Int → Int) : Nat → Int → Int := fun c j => if c = 0 then M 1 j else if c = 1 then M 2 j else if c = 2 then M 3 j else if c = 3 then M 4 j else if c = 4 then M 5 j else if c = 5 then (if j = 0 then 0 else -6) else if c = 8 then -6 else 0
theorem okA_start {M : Nat → Int → Int} (hI : Inv M) : okA (startA M) := by
  obtain ⟨_, hr, hk⟩ := hI.1
  refine ⟨?_, fun k k0 k1 => ?_⟩
  · simp [startA]; omega
  · have := hk k k0 k1
    simp [startA]
    refine ⟨by omega, by omega, by omega, by omega, fun q => (this.2.1 q).2⟩
theorem okD_start (M : Nat → Int → Int) : okD (startA M) := by
  refine ⟨by simp [startA], Or.inl ⟨by simp [startA], by simp [startA]⟩⟩
section LIVE
variable {l : Launch} {z d : Nat} {X : jX} {M A : Nat → Int → Int} {Q : Option jV → jM → Prop}
theorem c_X0_tellMorning (hc : cH 12 M A) (ok : okA A) (od : okD A) (hd : cD M A) (ha : ∀ k : Int, 0 ≤ k → k < 6 → M 17 k = A 7 k) (h60 : A 5 0 < 60) (hq : ∀ M', cH 12 M' (tellA A) → cD M' (tellA A) → (∀ c, c ≠ 11 → c ≠ 18 → M' c = M c) → M' 11 4 = M 11 4 → M' 11 5 = M 11 5 → Q none (jG, M')) : J l z X (d + 3) mX0_tellMorning (0, 0) 0 [jR 11] [] (jG, M) Q := by
  obtain ⟨⟨d1, d2, d3⟩, d4⟩ := hd
  have o1 := od.1
  have o2 := od.2
  have hend : ∀ M1 : Nat → Int → Int, (∀ c, c ≠ 11 → M1 c = M c) → M1 11 3 = M 11 3 → M1 11 4 = M 11 4 → M1 11 5 = M 11 5 → M1 11 6 = tellA A 5 1 → M1 11 7 = tellA A 5 2 → J l z X (d + 3) mX0_tellMorning (0, 0) 59 [jR 11] [] (jG, M1) Q := by
    intro M1 f1 f3 f4 f5 f6 f7
    have hc1 : cH 12 M1 A := cH_M hc (fun c g1 g2 => f1 c (by omega))
    refine b_X0_tellMorning_59 (c_X1_oldestOne hi_12 hc1 ok ?_)
    refine b_X0_tellMorning_74 (by omega) (by omega) ?_ (hq _ ?_ ?_ (fun c g1 g2 => ?_) ?_ ?_)
    · simp [jupd]
      exact jInd (by omega)
    · refine cH_eq (cH_M hc1 (fun c g1 g2 => ?_)) (fun c g => tellA_c A (by omega) (by omega))
      rw [jupd_c, if_neg (by omega), jupd_c, if_neg (by omega)]
    · refine ⟨⟨?_, ?_, ?_⟩, fun i i0 i1 => ?_⟩
      · simp [jupd, f3, d1, tellA]
      · simp [jupd, f6]
      · simp [jupd, f7]
      · have e0 : tellA A 5 0 = A 5 0 + 1 := by simp [tellA]
        have e6 : tellA A 6 i = if i = A 5 0 then oldA A else A 6 i := by simp [tellA]
        rw [e0] at i1
        rw [e6]
        simp [jupd, f3, d1]
        by_cases e : i = A 5 0
        · rw [if_pos e, if_pos e]
        · rw [if_neg e, if_neg e, f1 18 (by omega)]
          exact d4 i i0 (by omega)
    · rw [jupd_c, if_neg g1, jupd_c, if_neg g2]
      exact f1 c g1
    · simp [jupd, f4]
    · simp [jupd, f5]
  refine b_X0_tellMorning_0 (fun q => absurd q (by omega)) (fun _ _ c => ?_) (fun _ _ c => ?_) (fun _ q => absurd q (by omega))
  · refine hend M (fun _ _ => rfl) rfl rfl rfl ?_ ?_
    · rw [d3] at c
      simp [tellA, c, d2]
    · rw [d3] at c
      simp [tellA, passA, c, d3]
  · rw [d3] at c
    refine b_X0_leastPass_0 (c_X0_leastPass_2 hc ha 6 0 (by omega) (by omega) ?_)
    have ep : passA A = pairI A 6 := by unfold passA; rw [if_pos c]
    rw [← ep]
    refine b_X0_tellMorning_34 (fun g => b_X0_tellMorning_56 (hend _ (fun c g1 => ?_) ?_ ?_ ?_ ?_ ?_)) (fun g => b_X0_tellMorning_56 (hend _ (fun c g1 => ?_) ?_ ?_ ?_ ?_ ?_))
    · rw [jupd_c, if_neg g1, jupd_c, if_neg g1]
    · simp [jupd]
    · simp [jupd]
    · simp [jupd]
    · rw [jupd_s] at g
      simp [jupd, tellA, c, g, d1]
    · simp [jupd, tellA]
    · rw [jupd_c, if_neg g1, jupd_c, if_neg g1]
    · simp [jupd]
    · simp [jupd]
    · simp [jupd]
    · rw [jupd_s] at g
      simp [jupd, tellA, c, g]
    · simp [jupd, tellA]
theorem c_X0_live_39 {K Xs Ys : Int → Int} {M0 : Nat → Int → Int} (h60 : M0 6 5 ≤ 60) (hK : ∀ i : Int, 0 ≤ i → i < M0 6 5 → M0 8 i = K i ∧ M0 9 i = Xs i ∧ M0 10 i = Ys i) : ∀ (m : Nat) (i : Int) (M A : Nat → Int → Int), i = M0 6 5 - (m : Int) → 0 ≤ i → (∀ c, ¬ (11 ≤ c ∧ c ≤ 18) → M c = M0 c) → cH 12 M A → okA A → okD A → A 5 0 ≤ i → cD M A → M 11 4 = A 8 0 → M 11 5 = A 8 1 → (∀ M' A', A' = runA K Xs Ys m i A → cH 12 M' A' → okA A' → cD M' A' → A' 5 0 ≤ 60 → M' 11 4 = A' 8 0 → M' 11 5 = A' 8 1 → (∀ c, ¬ (11 ≤ c ∧ c ≤ 18) → M' c = M0 c) → Q none (jG, M')) → J l z X (d + 4) mX0_live (0, 0) 39 [jR 11, jR 1, jR 6, jI i, jN, jN] [] (jG, M) Q := by
  intro m
  induction m with
  | zero =>
    intro i M A hi i0 f hc ok od h5 hd h8 h9 hq
    refine b_X0_live_39 (fun q => ?_) (fun q => ?_) (fun _ => hq M A rfl hc ok hd (by omega) h8 h9 f) (fun q => ?_) (fun q => ?_)
    all_goals (rw [f 6 (by omega)] at q; exact absurd q (by omega))
  | succ m ih =>
    intro i M A hi i0 f hc ok od h5 hd h8 h9 hq
    have e6 : M 6 5 = M0 6 5 := by rw [f 6 (by omega)]
    have hk := hK i i0 (by omega)
    unfold runA at hq
    refine b_X0_live_39 (fun _ _ => i0) (fun _ q => q) (fun q => absurd q (by omega)) (fun _ q => absurd q (by omega)) (fun _ _ => ?_)
    rw [f 8 (by omega), f 9 (by omega), f 10 (by omega), hk.1, hk.2.1, hk.2.2]
    refine c_X1_whyNot hi_12 hc ok (b_X0_live_82 (fun c c2 => ?_) (fun c c2 => ?_) (fun c => ?_))
    · rw [if_pos c] at hq
      have ed : dayA A (K i) (Xs i) (Ys i) = doA A (K i) (Xs i) (Ys i) := by
        unfold dayA doA
        rw [if_neg c2, if_pos c]
      refine b_X0_live_126 i0 (by omega) ?_
      rw [f 9 (by omega), f 10 (by omega), hk.2.1, hk.2.2]
      refine c_X1_act hi_12 hc ok (fun M' g1 g2 => ?_)
      rw [← ed] at g1
      refine b_X0_live_147 (fun _ => b_X0_live_158 (jInd (by omega)) ?_) (fun q => absurd q c2)
      have o3 := okD_day (k := K i) (x := Xs i) (y := Ys i) od (by omega)
      have e5 : ∀ c, 5 ≤ c → dayA A (K i) (Xs i) (Ys i) c = A c := fun c hcc => by
        unfold dayA
        rw [if_neg c2]
        exact actA_c A _ _ _ hcc
      refine ih _ _ _ (by omega) (by omega) (fun c hcc => ?_) g1 (okA_day ok c) o3.1 (by omega) ?_ ?_ ?_ hq
      · rw [g2 c (by omega)]
        exact f c hcc
      · unfold cD
        rw [e5 5 (by omega), e5 6 (by omega), g2 11 (by omega), g2 18 (by omega)]
        exact hd
      · rw [g2 11 (by omega), e5 8 (by omega)]; exact h8
      · rw [g2 11 (by omega), e5 8 (by omega)]; exact h9
    · rw [if_pos c] at hq
      have hc2 : cH 12 (jcpy M 13 17 6) (copyA A) := cH_eq (cH_M hc (fun c g1 g2 => by rw [jcpy_c, if_neg (by omega)])) (fun c hcc => copyA_c A (by omega))
      have ok2 : okA (copyA A) := okA_eq ok (fun c hcc => copyA_c A (by omega))
      refine b_X0_live_126 i0 (by omega) ?_
      have ej : ∀ c, c ≠ 17 → jcpy M 13 17 6 c = M c := fun c hcc => by rw [jcpy_c, if_neg hcc]
      rw [ej 9 (by omega), ej 10 (by omega), f 9 (by omega), f 10 (by omega), hk.2.1, hk.2.2]
      refine c_X1_act hi_12 hc2 ok2 (fun M' g1 g2 => ?_)
      have ed : doA (copyA A) (K i) (Xs i) (Ys i) = wakeA (copyA A) := by
        unfold doA actA
        have : whyA (copyA A) (K i) (Xs i) (Ys i) = 0 := by
          unfold whyA
          rw [if_pos (Or.inr c2)]
        rw [if_pos this, if_neg (by omega), if_pos c2]
      rw [ed] at g1
      have e5 : ∀ c, 5 ≤ c → c ≠ 7 → wakeA (copyA A) c = A c := fun c hcc h7 => by
        rw [wakeA_c _ hcc, copyA_c _ h7]
      have ok3 : okA (wakeA (copyA A)) := okA_wake ok2
      have hd3 : cD M' (wakeA (copyA A)) := by
        unfold cD
        rw [e5 5 (by omega) (by omega), e5 6 (by omega) (by omega), g2 11 (by omega), g2 18 (by omega), ej 11 (by omega), ej 18 (by omega)]
        exact hd
      have od3 : okD (wakeA (copyA A)) := okD_eq od (e5 5 (by omega) (by omega))
      have hdy : dayA A (K i) (Xs i) (Ys i) = tellA (wakeA (copyA A)) := by
        unfold dayA
        rw [if_pos c2]
      rw [hdy] at hq
      refine b_X0_live_147 (fun q => absurd c2 q) (fun _ => c_X0_tellMorning g1 ok3 od3 hd3 (fun k k0 k1 => ?_) ?_ (fun M2 m1 m2 m3 m4 m5 => b_X0_live_158 (jInd (by omega)) ?_))
      · rw [g2 17 (by omega), wakeA_c _ (by omega)]
        have e13 : M 13 k = A 1 k := (hc.2 k k0 k1).1.1
        simp [jcpy, copyA, k0, k1, e13]
      · rw [e5 5 (by omega) (by omega)]; omega
      · have e50 : tellA (wakeA (copyA A)) 5 0 = A 5 0 + 1 := by
          have : tellA (wakeA (copyA A)) 5 0 = wakeA (copyA A) 5 0 + 1 := by simp [tellA]
          rw [this, e5 5 (by omega) (by omega)]
        have e8 : tellA (wakeA (copyA A)) 8 = A 8 := by rw [tellA_c _ (by omega) (by omega), e5 8 (by omega) (by omega)]
        refine ih _ _ _ (by omega) (by omega) (fun c hcc => ?_) m1 (okA_eq ok3 (fun c hcc => tellA_c _ (by omega) (by omega))) (okD_tell od3 (by rw [e5 5 (by omega) (by omega)]; omega)) (by omega) m2 ?_ ?_ hq
        · rw [m3 c (by omega) (by omega), g2 c (by omega), ej c (by omega)]
          exact f c hcc
        · rw [m4, g2 11 (by omega), ej 11 (by omega), e8]; exact h8
        · rw [m5, g2 11 (by omega), ej 11 (by omega), e8]; exact h9
    · rw [if_neg c] at hq
      refine hq _ _ rfl ?_ ?_ ?_ ?_ ?_ ?_ (fun c9 hcc => ?_)
      · exact cH_eq (cH_M hc (fun c g1 g2 => by rw [jupd_c, if_neg (by omega), jupd_c, if_neg (by omega)])) (fun c hcc => badA_c A _ _ (by omega))
      · exact okA_eq ok (fun c hcc => badA_c A _ _ (by omega))
      · unfold cD
        rw [badA_c A _ _ (by omega : (5 : Nat) ≠ 8), badA_c A _ _ (by omega : (6 : Nat) ≠ 8)]
        simp [jupd]
        exact ⟨by simpa using hd.1, hd.2⟩
      · rw [badA_c A _ _ (by omega : (5 : Nat) ≠ 8)]; omega
      · simp [jupd, badA]
      · simp [jupd, badA]
      · rw [jupd_c, if_neg (by omega), jupd_c, if_neg (by omega)]
        exact f c9 hcc
theorem c_X0_live {K Xs Ys : Int → Int} (hI : Inv M) (h60 : 0 ≤ M 6 5 ∧ M 6 5 ≤ 60) (hK : ∀ i : Int, 0 ≤ i → i < M 6 5 → M 8 i = K i ∧ M 9 i = Xs i ∧ M 10 i = Ys i) (hq : ∀ M' A', A' = runA K Xs Ys (M 6 5).toNat 0 (startA M) → cH 12 M' A' → okA A' → cD M' A' → A' 5 0 ≤ 60 → M' 11 4 = A' 8 0 → M' 11 5 = A' 8 1 → (∀ c, ¬ (11 ≤ c ∧ c ≤ 18) → M' c = M c) → Q none (jG, M')) : J l z X (d + 4) mX0_live (0, 0) 0 [jR 11, jR 1, jR 6, jN, jN, jN] [] (jG, M) Q := by
  obtain ⟨_, hr, hk⟩ := hI.1
  refine b_X0_live_0 (c_tk_12_1 (fun M' e4 e5 e6 e7 e13 e14 e15 e16 hf _ => b_X0_live_8 ?_))
  have hc' : ∀ M2 : Nat → Int → Int, (∀ c, c ≠ 11 → M2 c = M' c) → cH 12 M2 (startA M) := by
    intro M2 h2
    refine ⟨?_, fun k k0 k1 => ?_⟩
    · rw [h2 12 (by omega)]
      simp [startA, e4, e5, e6, e7]
    · have := hk k k0 k1
      rw [h2 _ (by omega), h2 _ (by omega), h2 _ (by omega), h2 _ (by omega)]
      simp [startA, e13, e14, e15, e16, k0, k1]
      omega
  have ef : ∀ c : Nat, ¬ (11 ≤ c ∧ c ≤ 18) → jupd (jupd (jupd (jupd (jupd M' 11 3 0) 11 4 (-6)) 11 5 (-6)) 11 6 (-6)) 11 7 (-6) c = M c := by
    intro c hcc
    rw [jupd_c, if_neg (by omega), jupd_c, if_neg (by omega), jupd_c, if_neg (by omega), jupd_c, if_neg (by omega), jupd_c, if_neg (by omega)]
    exact hf c (by omega)
  refine c_X0_live_39 (M0 := M) h60.2 hK (M 6 5).toNat 0 _ (startA M) (by omega) (by omega) ef (hc' _ (fun c hcc => ?_)) (okA_start hI) (okD_start M) (by simp [startA]) ⟨⟨?_, ?_, ?_⟩, fun i i0 i1 => ?_⟩ ?_ ?_ hq
  · rw [jupd_c, if_neg hcc, jupd_c, if_neg hcc, jupd_c, if_neg hcc, jupd_c, if_neg hcc, jupd_c, if_neg hcc]
  · simp [jupd, startA]
  · simp [jupd, startA]
  · simp [jupd, startA]
  · simp [startA] at i1
    omega
  · simp [jupd, startA]
  · simp [jupd, startA]
end LIVE
