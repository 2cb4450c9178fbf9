/-! ## the hill, the acts: one account for the class's and the reference's -/
def whyA (A : Nat → Int → Int) (k x y : Int) : Int :=
  if k = 33 ∨ k = 46 then 0
  else if hasB (A 0 4) x = false then 1
  else if k = 62 then (if hasB (A 0 4) y = false then 1 else if x = y then 2 else if A 4 y = 2 then 3 else if A 4 x = 0 then 5 else 0)
  else if k = 120 then 0
  else if 2 < A 4 x + (if k = 98 then 2 else 1) then 3
  else if A 0 5 < (if k = 98 then 2 else 1) then 4 else 0
def wakeA (A : Nat → Int → Int) : Nat → Int → Int := fun c j => if c = 1 then (if hasB (A 0 4) j = true then agF (A 2 j) (A 3 j) (A 1 j) (A 4 j) else A 1 j) else if c = 4 then 0 else if c = 0 ∧ j = 5 then (if A 0 7 = 1 then A 0 6 else 0) else A c j
def actA (A : Nat → Int → Int) (k x y : Int) : Nat → Int → Int :=
  if k = 33 then jupd A 0 7 (1 - A 0 7)
  else if k = 46 then wakeA A
  else if k = 120 then jupd A 0 4 (jand (A 0 4) (jxor (jshl 1 x) (-1)))
  else if k = 62 then jupd (jupd A 4 x (A 4 x - 1)) 4 y (A 4 y + 1)
  else jupd (jupd A 4 x (A 4 x + (if k = 98 then 2 else 1))) 0 5 (A 0 5 - (if k = 98 then 2 else 1))
def doA (A : Nat → Int → Int) (k x y : Int) : Nat → Int → Int := if whyA A k x y = 0 then actA A k x y else A
def okA (A : Nat → Int → Int) : Prop := ((0 ≤ A 0 4 ∧ A 0 4 ≤ 63) ∧ (0 ≤ A 0 5 ∧ A 0 5 ≤ 99) ∧ (0 ≤ A 0 6 ∧ A 0 6 ≤ 40) ∧ 0 ≤ A 0 7 ∧ A 0 7 ≤ 1) ∧ ∀ k : Int, 0 ≤ k → k < 6 → (0 ≤ A 1 k ∧ A 1 k ≤ 99) ∧ (0 ≤ A 2 k ∧ A 2 k ≤ 9) ∧ (0 ≤ A 3 k ∧ A 3 k ≤ A 1 k) ∧ (0 ≤ A 4 k ∧ A 4 k ≤ 2) ∧ (hasB (A 0 4) k = true → 1 ≤ A 2 k)
def cH (h : Nat) (M A : Nat → Int → Int) : Prop := (M h 4 = A 0 4 ∧ M h 5 = A 0 5 ∧ M h 6 = A 0 6 ∧ M h 7 = A 0 7) ∧ ∀ k : Int, 0 ≤ k → k < 6 → (M (h + 1) k = A 1 k ∧ M (h + 2) k = A 2 k ∧ M (h + 3) k = A 3 k) ∧ (hasB (A 0 4) k = true → M (h + 4) k = A 4 k) ∧ 0 ≤ M (h + 4) k ∧ M (h + 4) k ≤ 2
def cM (M A : Nat → Int → Int) : Prop := (M 96 0 = A 0 4 ∧ M 96 1 = A 0 5 ∧ M 96 2 = A 0 6 ∧ M 96 3 = A 0 7) ∧ ∀ k : Int, 0 ≤ k → k < 6 → (M 97 k = A 1 k ∧ M 98 k = A 2 k ∧ M 99 k = A 3 k) ∧ (hasB (A 0 4) k = true → M 100 k = A 4 k) ∧ 0 ≤ M 100 k ∧ M 100 k ≤ 2
theorem agF_rng {p y a e : Int} (ha : 0 ≤ a ∧ a ≤ 99) (hp : 0 ≤ p ∧ p ≤ 9) (hy : 0 ≤ y ∧ y ≤ a) : 0 ≤ agF p y a e ∧ agF p y a e ≤ 99 ∧ y ≤ agF p y a e := by
  unfold agF
  split
  · omega
  · split <;> omega
theorem agH_F {p y a e : Int} (he : 0 ≤ e ∧ e ≤ 2) : agH true p y a e = agF p y a e := by
  unfold agH agF
  rw [if_pos rfl]
  by_cases e1 : e = 1
  · rw [if_pos e1, if_neg (by omega), if_pos e1]
  · rw [if_neg e1]
    by_cases e2 : e = 2
    · rw [if_neg (by omega), if_pos e2]; omega
    · rw [if_pos (by omega), if_neg e2, if_neg e1]; omega
theorem okA_wake {A : Nat → Int → Int} (ok : okA A) : okA (wakeA A) := by
  obtain ⟨⟨o1, o2, o3, o4⟩, ho⟩ := ok
  refine ⟨?_, fun k k0 k1 => ?_⟩
  · simp [wakeA]
    refine ⟨o1, ?_, o3, o4⟩
    split <;> omega
  · have hk := ho k k0 k1
    simp [wakeA]
    by_cases e : hasB (A 0 4) k = true
    · have := agF_rng (e := A 4 k) hk.1 hk.2.1 hk.2.2.1
      rw [if_pos e]
      exact ⟨⟨this.1, this.2.1⟩, hk.2.1, ⟨hk.2.2.1.1, this.2.2⟩, hk.2.2.2.2⟩
    · rw [if_neg e]
      exact ⟨hk.1, hk.2.1, hk.2.2.1, hk.2.2.2.2⟩
theorem okA_act {A : Nat → Int → Int} {k x y : Int} (ok : okA A) (hw : whyA A k x y = 0) : okA (actA A k x y) := by
  unfold actA
  by_cases e1 : k = 33
  · rw [if_pos e1]
    obtain ⟨⟨o1, o2, o3, o4⟩, ho⟩ := ok
    refine ⟨by simp [jupd]; omega, fun k k0 k1 => ?_⟩
    simpa [jupd] using ho k k0 k1
  rw [if_neg e1]
  by_cases e2 : k = 46
  · rw [if_pos e2]; exact okA_wake ok
  rw [if_neg e2]
  unfold whyA at hw
  rw [if_neg (by omega)] at hw
  by_cases b1 : hasB (A 0 4) x = false
  · rw [if_pos b1] at hw; omega
  rw [if_neg b1] at hw
  have b2 : hasB (A 0 4) x = true := by simpa using b1
  have hx := hasB_in b2
  obtain ⟨⟨o1, o2, o3, o4⟩, ho⟩ := ok
  by_cases e3 : k = 120
  · rw [if_pos e3]
    have hb := bit_clr (t := A 0 4) (k := x) o1 hx
    refine ⟨by simp [jupd]; omega, fun k k0 k1 => ?_⟩
    have hk := ho k k0 k1
    simp [jupd]
    rw [hb.2]
    refine ⟨hk.1, hk.2.1, hk.2.2.1, hk.2.2.2.1, ?_⟩
    by_cases e : k = x
    · rw [if_pos e]; exact fun q => absurd q (by decide)
    · rw [if_neg e]; exact hk.2.2.2.2
  rw [if_neg e3]
  by_cases e4 : k = 62
  · rw [if_pos e4]
    rw [if_pos e4] at hw
    by_cases c1 : hasB (A 0 4) y = false
    · rw [if_pos c1] at hw; omega
    rw [if_neg c1] at hw
    by_cases c2 : x = y
    · rw [if_pos c2] at hw; omega
    rw [if_neg c2] at hw
    by_cases c3 : A 4 y = 2
    · rw [if_pos c3] at hw; omega
    rw [if_neg c3] at hw
    by_cases c4 : A 4 x = 0
    · rw [if_pos c4] at hw; omega
    have hy := hasB_in (show hasB (A 0 4) y = true by simpa using c1)
    have hkx := ho x hx.1 hx.2
    have hky := ho y hy.1 hy.2
    refine ⟨by simp [jupd]; omega, fun k k0 k1 => ?_⟩
    have hk := ho k k0 k1
    simp [jupd]
    refine ⟨hk.1, hk.2.1, hk.2.2.1, ?_, hk.2.2.2.2⟩
    by_cases f1 : k = y
    · simp [f1]; omega
    · by_cases f2 : k = x
      · simp [f2, c2]; omega
      · simp [f1, f2]; omega
  rw [if_neg e4]
  rw [if_neg e4, if_neg e3] at hw
  have hkx := ho x hx.1 hx.2
  generalize hn : (if k = 98 then (2 : Int) else 1) = n at hw ⊢
  have hn2 : 1 ≤ n ∧ n ≤ 2 := by rw [← hn]; split <;> omega
  by_cases c1 : 2 < A 4 x + n
  · rw [if_pos c1] at hw; omega
  rw [if_neg c1] at hw
  by_cases c2 : A 0 5 < n
  · rw [if_pos c2] at hw; omega
  refine ⟨by simp [jupd]; omega, fun k k0 k1 => ?_⟩
  have hk := ho k k0 k1
  simp [jupd]
  refine ⟨hk.1, hk.2.1, hk.2.2.1, ?_, hk.2.2.2.2⟩
  by_cases f2 : k = x
  · simp [f2]; omega
  · simp [f2]; omega
section HILLACT
variable {l : Launch} {z d : Nat} {X : jX} {M A : Nat → Int → Int} {Q : Option jV → jM → Prop} {h : Nat}
theorem c_X1_whyNotGive (hh : jHi h) (hc : cH h M A) (ok : okA A) {x y : Int} (hx : hasB (A 0 4) x = true) (hy : hasB (A 0 4) y = true) (kk : Q (some (jI (if x = y then 2 else if A 4 y = 2 then 3 else if A 4 x = 0 then 5 else 0))) (jG, M)) : J l z X d mX1_whyNotGive (0, 0) 0 [jR h, jI x, jI y] [] (jG, M) Q := by
  have hx' := hasB_in hx
  have hy' := hasB_in hy
  have ex := (hc.2 x hx'.1 hx'.2).2.1 hx
  have ey := (hc.2 y hy'.1 hy'.2).2.1 hy
  have oy := (ok.2 y hy'.1 hy'.2).2.2.2.1
  refine b_X1_whyNotGive_0 hh (fun _ => hy'.1) (fun _ => hy'.2) (fun _ => jInd (by omega)) (fun _ _ => hx'.1) (fun _ _ => hx'.2) (fun c1 c2 c3 => ?_) (fun c1 c2 c3 => ?_) (fun c1 c2 => ?_) (fun c1 => ?_)
  · rw [if_neg c1, if_neg (by omega), if_neg (by omega)] at kk; exact kk
  · rw [if_neg c1, if_neg (by omega), if_pos (by omega)] at kk; exact kk
  · rw [if_neg c1, if_pos (by omega)] at kk; exact kk
  · rw [if_pos c1] at kk; exact kk
theorem c_X1_whyNot (hh : jHi h) (hc : cH h M A) (ok : okA A) {k x y : Int} (kk : Q (some (jI (whyA A k x y))) (jG, M)) : J l z X (d + 1) mX1_whyNot (0, 0) 0 [jR h, jI k, jI x, jI y, jN] [] (jG, M) Q := by
  have e4 := hc.1.1
  have e5 := hc.1.2.1
  have hgo : k ≠ 33 → k ≠ 46 → hasB (M h 4) x = true → (k = 62 → hasB (M h 4) y = true) → J l z X (d + 1) mX1_whyNot (0, 0) 38 [jR h, jI k, jI x, jI y, jN] [] (jG, M) Q := by
    intro c1 c2 c3 c4
    rw [e4] at c3 c4
    have hx' := hasB_in c3
    have ex := (hc.2 x hx'.1 hx'.2).2.1 c3
    have ox := (ok.2 x hx'.1 hx'.2).2.2.2.1
    unfold whyA at kk
    rw [if_neg (by omega), if_neg (by rw [c3]; decide)] at kk
    have hn2 : 1 ≤ (if k = 98 then (2 : Int) else 1) ∧ (if k = 98 then (2 : Int) else 1) ≤ 2 := by split <;> omega
    refine b_X1_whyNot_38 hh (fun _ _ => hx'.1) (fun _ _ => hx'.2) (fun _ _ => jInd (by omega)) (fun g1 g2 g3 g4 => ?_) (fun g1 g2 g3 g4 => ?_) (fun g1 g2 g3 => ?_) (fun g1 g2 => ?_) (fun g1 => ?_)
    · rw [if_neg g2, if_neg g1, if_neg (by omega), if_neg (by omega)] at kk; exact kk
    · rw [if_neg g2, if_neg g1, if_neg (by omega), if_pos (by omega)] at kk; exact kk
    · rw [if_neg g2, if_neg g1, if_pos (by omega)] at kk; exact kk
    · rw [if_pos g2, if_neg (by rw [c4 g2]; decide)] at kk
      exact c_X1_whyNotGive hh hc ok c3 (c4 g2) (b_X1_whyNot_58 hh kk)
    · rw [if_neg (by omega), if_pos g1] at kk; exact kk
  refine b_X1_whyNot_0 hh (fun c => ?_) (fun c1 c2 c3 c4 => hgo c1 c2 c3 (fun q => absurd q c4)) (fun c1 c2 c3 c4 c5 => hgo c1 c2 c3 (fun _ => c5)) (fun c1 c2 c3 c4 c5 => ?_) (fun c1 c2 c3 => ?_) (fun c1 c2 => ?_)
  all_goals unfold whyA at kk
  · rw [if_pos (Or.inl c)] at kk; exact kk
  · rw [e4] at c3 c5
    rw [if_neg (by omega), if_neg (by rw [c3]; decide), if_pos c4, if_pos c5] at kk; exact kk
  · rw [e4] at c3
    rw [if_neg (by omega), if_pos c3] at kk; exact kk
  · rw [if_pos (Or.inr c2)] at kk; exact kk
theorem c_X1_wake_2 (hh : jHi h) (hc : cH h M A) (ok : okA A) (hq : ∀ M', cH h M' (wakeA A) → (∀ c, ¬ (h ≤ c ∧ c ≤ h + 4) → M' c = M c) → Q none (jG, M')) : ∀ (n : Nat) (x : Int) (M1 : Nat → Int → Int), x = 6 - (n : Int) → 0 ≤ x → (∀ c, c ≠ h + 1 → c ≠ h + 4 → M1 c = M c) → (∀ j, 0 ≤ j → j < 6 → M1 (h + 1) j = (if j < x ∧ hasB (A 0 4) j = true then agF (A 2 j) (A 3 j) (A 1 j) (A 4 j) else A 1 j) ∧ M1 (h + 4) j = (if j < x ∧ hasB (A 0 4) j = true then 0 else M (h + 4) j)) → J l z X (d + 2) mX1_wake (0, 0) 2 [jR h, jI x] [] (jG, M1) Q := by
  intro n
  induction n with
  | zero =>
    intro x M1 hx x0 f1 f2
    have g4 : M1 h = M h := f1 h (by omega) (by omega)
    have hend : ∀ v : Int, v = (if A 0 7 = 1 then A 0 6 else 0) → Q none (jG, jupd M1 h 5 v) := by
      intro v hv
      refine hq _ ⟨?_, fun k k0 k1 => ?_⟩ (fun c hcc => ?_)
      · simp [jupd, wakeA, g4, hc.1, hv]
      · have h1 := hc.2 k k0 k1
        have h2 := f2 k k0 k1
        have g2 : M1 (h + 2) = M (h + 2) := f1 _ (by omega) (by omega)
        have g3 : M1 (h + 3) = M (h + 3) := f1 _ (by omega) (by omega)
        simp [jupd, wakeA, g2, g3, h1.1, h2.1, h2.2]
        by_cases e : hasB (A 0 4) k = true
        · simp [e, show k < x by omega]
        · simp [e, h1.2.2]
      · funext j
        unfold jupd
        rw [if_neg (by omega), f1 c (by omega) (by omega)]
    refine b_X1_wake_2 hh (fun q => absurd q (by omega)) (fun q => absurd q (by omega)) (fun q => absurd q (by omega)) (fun _ c => hend _ ?_) (fun _ c => hend _ ?_) (fun q => absurd q (by omega)) (fun q => absurd q (by omega))
    · rw [g4, hc.1.2.2.2] at c
      rw [if_neg c]
    · rw [g4, hc.1.2.2.2] at c
      rw [if_pos c, g4, hc.1.2.2.1]
  | succ n ih =>
    intro x M1 hx x0 f1 f2
    have g4 : M1 h = M h := f1 h (by omega) (by omega)
    have g2 : M1 (h + 2) = M (h + 2) := f1 _ (by omega) (by omega)
    have g3 : M1 (h + 3) = M (h + 3) := f1 _ (by omega) (by omega)
    have h1 := hc.2 x x0 (by omega)
    have h2 := f2 x x0 (by omega)
    have h3 := ok.2 x x0 (by omega)
    rw [if_neg (by omega), if_neg (by omega)] at h2
    refine b_X1_wake_2 hh (fun _ _ => x0) (fun q _ => q) (fun _ _ _ => ?_) (fun q => absurd q (by omega)) (fun q => absurd q (by omega)) (fun _ c => b_X1_wake_46 hh (jInd (by omega)) ?_) (fun _ c => b_X1_wake_46 hh (jInd (by omega)) ?_)
    · rw [g2, h2.1, h1.1.2.1]; omega
    · refine ih _ _ (by omega) (by omega) (fun c9 c1 c2 => ?_) (fun j j0 j1 => ?_)
      · funext j
        unfold jupd
        rw [if_neg (by omega), if_neg (by omega), f1 c9 c1 c2]
      · have h4 := f2 j j0 j1
        rw [g4, hc.1.1] at c ⊢
        rw [c, g2, g3, h2.1, h2.2, h1.1.2.1, h1.1.2.2, h1.2.1 c, agH_F h3.2.2.2.1]
        by_cases e : j = x
        · subst e
          simp [jupd, c]
          exact ⟨fun q => absurd q (by omega), fun q => absurd q (by omega)⟩
        · have e9 : (j < x + 1 ∧ hasB (A 0 4) j = true) ↔ (j < x ∧ hasB (A 0 4) j = true) := by
            constructor
            · exact fun q => ⟨by omega, q.2⟩
            · exact fun q => ⟨by omega, q.2⟩
          simp only [e9]
          simp [jupd, e, h4]
    · refine ih _ _ (by omega) (by omega) f1 (fun j j0 j1 => ?_)
      have h4 := f2 j j0 j1
      rw [g4, hc.1.1] at c
      have e9 : (j < x + 1 ∧ hasB (A 0 4) j = true) ↔ (j < x ∧ hasB (A 0 4) j = true) := by
        constructor
        · intro q
          refine ⟨?_, q.2⟩
          by_cases e : j = x
          · rw [e, c] at q
            exact absurd q.2 (by decide)
          · omega
        · exact fun q => ⟨by omega, q.2⟩
      simp only [e9]
      exact h4
theorem c_X1_act (hh : jHi h) (hc : cH h M A) (ok : okA A) {k x y : Int} (hq : ∀ M', cH h M' (doA A k x y) → (∀ c, ¬ (h ≤ c ∧ c ≤ h + 4) → M' c = M c) → Q none (jG, M')) : J l z X (d + 3) mX1_act (0, 0) 0 [jR h, jI k, jI x, jI y] [] (jG, M) Q := by
  have e4 := hc.1.1
  have e5 := hc.1.2.1
  refine b_X1_act_0 hh (c_X1_whyNot hh hc ok ?_)
  by_cases hw : whyA A k x y = 0
  · have hq2 : ∀ M', cH h M' (actA A k x y) → (∀ c, ¬ (h ≤ c ∧ c ≤ h + 4) → M' c = M c) → Q none (jG, M') := by
      unfold doA at hq
      rw [if_pos hw] at hq
      exact hq
    have hb : k ≠ 33 → k ≠ 46 → hasB (A 0 4) x = true ∧ (k = 62 → hasB (A 0 4) y = true ∧ x ≠ y) := by
      intro g1 g2
      unfold whyA at hw
      rw [if_neg (by omega)] at hw
      by_cases b1 : hasB (A 0 4) x = false
      · rw [if_pos b1] at hw; omega
      rw [if_neg b1] at hw
      refine ⟨by simpa using b1, fun g3 => ?_⟩
      rw [if_pos g3] at hw
      by_cases b2 : hasB (A 0 4) y = false
      · rw [if_pos b2] at hw; omega
      rw [if_neg b2] at hw
      refine ⟨by simpa using b2, fun g4 => ?_⟩
      rw [if_pos g4] at hw
      omega
    unfold actA at hq2
    have heat : k ≠ 33 → k ≠ 46 → k ≠ 120 → k ≠ 62 → J l z X (d + 3) mX1_act (0, 0) 102 [jR h, jI k, jI x, jI y] [] (jG, M) Q := by
      intro g1 g2 g3 g4
      rw [if_neg g1, if_neg g2, if_neg g3, if_neg g4] at hq2
      have hx := (hb g1 g2).1
      have hx' := hasB_in hx
      have h1 := hc.2 x hx'.1 hx'.2
      have h3 := ok.2 x hx'.1 hx'.2
      have h2 := ok.1
      have hw2 : A 4 x + (if k = 98 then 2 else 1) ≤ 2 := by
        unfold whyA at hw
        rw [if_neg (by omega), if_neg (by rw [hx]; decide), if_neg g4, if_neg g3] at hw
        by_cases b1 : 2 < A 4 x + (if k = 98 then 2 else 1)
        · rw [if_pos b1] at hw; omega
        · omega
      have hn2 : 1 ≤ (if k = 98 then (2 : Int) else 1) ∧ (if k = 98 then (2 : Int) else 1) ≤ 2 := by split <;> omega
      refine b_X1_act_102 hh (fun _ => hx'.1) (fun _ => hx'.2) (fun _ => jInd (by rw [h1.2.1 hx]; omega)) (fun _ => ?_) (fun _ => ?_) (fun q => ?_)
      · have e9 : (jupd M (h + 4) x (M (h + 4) x + if k = 98 then 2 else 1)) h 5 = A 0 5 := by
          unfold jupd
          rw [if_neg (by omega), e5]
        rw [e9]
        exact jInd (by omega)
      · have e9 : (jupd M (h + 4) x (M (h + 4) x + if k = 98 then 2 else 1)) h 5 = A 0 5 := by
          unfold jupd
          rw [if_neg (by omega), e5]
        rw [e9, h1.2.1 hx]
        refine hq2 _ ⟨?_, fun j j0 j1 => ?_⟩ (fun c hcc => ?_)
        · simp [jupd, hc.1]
        · have h4 := hc.2 j j0 j1
          simp [jupd]
          refine ⟨h4.1, ?_⟩
          by_cases e : j = x
          · simp [e]; omega
          · simp [e]
            exact h4.2
        · funext j
          unfold jupd
          rw [if_neg (by omega), if_neg (by omega)]
      · rw [e4, hx] at q
        exact absurd q (by decide)
    refine b_X1_act_7 hh (fun _ _ _ _ c5 c6 _ => (hasB_in c6).1) (fun _ _ _ _ c5 c6 _ => (hasB_in c6).2) (fun _ _ _ _ c5 c6 _ => ?_) (fun _ _ _ _ c5 _ c6 => (hasB_in c6).1) (fun _ _ _ _ c5 _ c6 => (hasB_in c6).2) (fun _ _ _ _ c5 c6 c7 => ?_) (fun _ c => ?_) (fun _ c1 c2 c3 c4 => heat c1 c2 c3 c4) (fun _ c1 c2 c3 c4 c5 c6 => ?_) (fun _ c1 c2 c3 c4 c5 c6 => ?_) (fun _ c1 c2 c3 c4 c5 => ?_) (fun _ c1 c2 c3 => ?_) (fun _ c1 c2 => ?_) (fun _ c1 => ?_) (fun c => absurd hw c)
    · rw [e4] at c6
      have hx' := hasB_in c6
      have h1 := hc.2 x hx'.1 hx'.2
      exact jInd (by omega)
    · rw [e4] at c6 c7
      have hx' := hasB_in c6
      have hy' := hasB_in c7
      have h1 := hc.2 x hx'.1 hx'.2
      have h2 := hc.2 y hy'.1 hy'.2
      have e9 := ((hb (by omega) (by omega)).2 c5).2
      have e8 : (jupd M (h + 4) x (M (h + 4) x - 1)) (h + 4) y = M (h + 4) y := by
        unfold jupd
        rw [if_neg (by omega)]
      rw [e8]
      exact jInd (by omega)
    · have h2 := ok.1
      rw [hc.1.2.2.2]
      exact jInd (by omega)
    · have e9 := ((hb c1 c2).2 c4).2
      rw [if_neg c1, if_neg c2, if_neg c3, if_pos c4] at hq2
      rw [e4] at c5 c6
      have hx' := hasB_in c5
      have hy' := hasB_in c6
      have h1 := hc.2 x hx'.1 hx'.2
      have h2 := hc.2 y hy'.1 hy'.2
      have h3 := ok.2 x hx'.1 hx'.2
      have h4 := ok.2 y hy'.1 hy'.2
      have e8 : (jupd M (h + 4) x (M (h + 4) x - 1)) (h + 4) y = M (h + 4) y := by
        unfold jupd
        rw [if_neg (by omega)]
      rw [e8, h1.2.1 c5, h2.2.1 c6]
      unfold whyA at hw
      rw [if_neg (by omega), if_neg (by rw [c5]; decide), if_pos c4, if_neg (by rw [c6]; decide), if_neg e9] at hw
      by_cases b3 : A 4 y = 2
      · rw [if_pos b3] at hw; omega
      rw [if_neg b3] at hw
      by_cases b4 : A 4 x = 0
      · rw [if_pos b4] at hw; omega
      refine hq2 _ ⟨?_, fun j j0 j1 => ?_⟩ (fun c hcc => ?_)
      · simp [jupd, hc.1]
      · have h5 := hc.2 j j0 j1
        simp [jupd]
        refine ⟨h5.1, ?_⟩
        by_cases f1 : j = y
        · simp [f1]; omega
        · by_cases f2 : j = x
          · simp [f2, e9]; omega
          · simp [f1, f2]
            exact h5.2
      · funext j
        unfold jupd
        rw [if_neg (by omega), if_neg (by omega)]
    · have e9 := ((hb c1 c2).2 c4).1
      rw [e4, e9] at c6
      exact absurd c6 (by decide)
    · have e9 := (hb c1 c2).1
      rw [e4, e9] at c5
      exact absurd c5 (by decide)
    · rw [if_neg c1, if_neg c2, if_pos c3] at hq2
      have e9 := (hb c1 c2).1
      have hx' := hasB_in e9
      have hbb := bit_clr (t := A 0 4) (k := x) ok.1.1 hx'
      refine b_X1_drop_0 hh (fun _ => b_X1_act_54 hh ?_) (fun q => ?_)
      · rw [e4]
        refine hq2 _ ⟨?_, fun j j0 j1 => ?_⟩ (fun c hcc => ?_)
        · simp [jupd, hc.1]
        · have h5 := hc.2 j j0 j1
          simp [jupd]
          refine ⟨h5.1, fun q => h5.2.1 ?_, h5.2.2⟩
          rw [hbb.2] at q
          by_cases f : j = x
          · rw [if_pos f] at q; exact absurd q (by decide)
          · rw [if_neg f] at q; exact q
        · funext j
          unfold jupd
          rw [if_neg (by omega)]
      · rw [e4, e9] at q
        exact absurd q (by decide)
    · rw [if_neg c1, if_pos c2] at hq2
      refine b_X1_wake_0 hh (c_X1_wake_2 hh hc ok (fun M' m1 m2 => b_X1_act_40 hh (hq2 M' m1 m2)) 6 0 M (by omega) (by omega) (fun _ _ _ => rfl) (fun j j0 j1 => ?_))
      rw [if_neg (by omega), if_neg (by omega)]
      exact ⟨(hc.2 j j0 j1).1.1, rfl⟩
    · rw [if_pos c1] at hq2
      rw [hc.1.2.2.2]
      refine hq2 _ ⟨?_, fun j j0 j1 => ?_⟩ (fun c hcc => ?_)
      · simp [jupd, hc.1]
      · have h5 := hc.2 j j0 j1
        simp [jupd]
        exact h5
      · funext j
        unfold jupd
        rw [if_neg (by omega)]
  · unfold doA at hq
    rw [if_neg hw] at hq
    exact b_X1_act_7 hh (fun q => absurd q hw) (fun q => absurd q hw) (fun q => absurd q hw) (fun q => absurd q hw) (fun q => absurd q hw) (fun q => absurd q hw) (fun q => absurd q hw) (fun q => absurd q hw) (fun q => absurd q hw) (fun q => absurd q hw) (fun q => absurd q hw) (fun q => absurd q hw) (fun q => absurd q hw) (fun q => absurd q hw) (fun _ => hq M hc (fun _ _ => rfl))
end HILLACT
