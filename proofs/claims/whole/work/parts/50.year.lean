/-! ## a drawn year -/
def stepA (A : Nat → Int → Int) (k x y : Int) : Nat → Int → Int := if whyA A k x y = 0 then dayA A k x y else A
def nextX (x : Int) : Int := (75 * x + 74) % 65537
def yearA : Nat → Int → (Nat → Int → Int) → Nat → Int → Int
  | 0, _, A => A
  | n + 1, x, A => yearA n (nextX x) (stepA A (kindF (nextX x / 6 % 7)) (nextX x % 6) (nextX x / 42 % 6))
theorem stepA_do (A : Nat → Int → Int) (k x y : Int) {c : Nat} (hc : c ≤ 4) : stepA A k x y c = doA A k x y c := by
  unfold stepA doA
  split
  · unfold dayA
    by_cases e : k = 46
    · rw [if_pos e, tellA_c _ (by omega) (by omega)]
      unfold actA
      rw [if_neg (by omega), if_pos e]
      funext j
      simp [wakeA, copyA, show c ≠ 7 by omega]
    · rw [if_neg e]
  · rfl
theorem stepA_50 (A : Nat → Int → Int) (k x y : Int) : stepA A k x y 5 0 = A 5 0 + (if k = 46 then 1 else 0) := by
  unfold stepA
  by_cases e : k = 46
  · have hw : whyA A k x y = 0 := by unfold whyA; rw [if_pos (Or.inr e)]
    rw [if_pos hw, if_pos e]
    unfold dayA
    rw [if_pos e]
    have e5 : wakeA (copyA A) 5 = A 5 := by rw [wakeA_c _ (by omega), copyA_c _ (by omega)]
    have : tellA (wakeA (copyA A)) 5 0 = wakeA (copyA A) 5 0 + 1 := by simp [tellA]
    rw [this, e5]
  · rw [if_neg e, Int.add_zero]
    split
    · unfold dayA
      rw [if_neg e, actA_c _ _ _ _ (by omega)]
    · rfl
theorem okA_step {A : Nat → Int → Int} {k x y : Int} (ok : okA A) : okA (stepA A k x y) := by
  unfold stepA
  split
  · rename_i h
    exact okA_day ok h
  · exact ok
theorem okD_step {A : Nat → Int → Int} {k x y : Int} (ok : okD A) (h : A 5 0 < 100) : okD (stepA A k x y) := by
  unfold stepA
  split
  · exact (okD_day ok h).1
  · exact ok
theorem kindF_K (x : Int) : isK (kindF x) := by
  unfold kindF isK
  split
  · omega
  · split
    · omega
    · split
      · omega
      · split <;> omega
def sumA6 (A : Nat → Int → Int) (k : Int) : Int := if hasB (A 0 4) k = true then A 1 k else 0
section YEAR
variable {l : Launch} {z d : Nat} {X : jX} {M A : Nat → Int → Int} {Q : Option jV → jM → Prop}
theorem c_X8_live_19 {M0 : Nat → Int → Int} {s m : Int} (hm : m ≤ 99) : ∀ (n : Nat) (i x : Int) (M A : Nat → Int → Int), i = m - (n : Int) → 0 ≤ i → 0 ≤ x ∧ x ≤ 65536 → cH 72 M A → okA A → M 71 1 = A 5 0 → 0 ≤ A 5 0 ∧ A 5 0 ≤ i → (∀ c, ¬ (71 ≤ c ∧ c ≤ 76) → M c = M0 c) → (∀ M' A', A' = yearA n x A → cH 72 M' A' → okA A' → M' 71 1 = A' 5 0 → (∀ c, ¬ (71 ≤ c ∧ c ≤ 76) → M' c = M0 c) → Q none (jG, M')) → J l z X (d + 4) mX8_live (0, 0) 19 [jR 71, jR 1, jI s, jI m, jI x, jI i, jN] [] (jG, M) Q := by
  intro n
  induction n with
  | zero =>
    intro i x M A hi i0 hx hc ok h1 h5 f hq
    exact b_X8_live_19 (fun q => absurd q (by omega)) (fun q => absurd q (by omega)) (fun q => absurd q (by omega)) (fun q => absurd q (by omega)) (fun q => absurd q (by omega)) (fun q => absurd q (by omega)) (fun _ => hq M A rfl hc ok h1 f) (fun q => absurd q (by omega))
  | succ n ih =>
    intro i x M A hi i0 hx hc ok h1 h5 f hq
    unfold yearA at hq
    have hx' : 0 ≤ nextX x ∧ nextX x ≤ 65536 := by unfold nextX; omega
    refine b_X8_live_19 (fun _ => jInd (by omega)) (fun _ => jInd (by omega)) (fun _ => by omega) (fun _ => by omega) (fun _ => by omega) (fun _ => by omega) (fun q => absurd q (by omega)) (fun _ => ?_)
    rw [show (75 * x + 74) % 65537 = nextX x from rfl]
    refine c_X1_act hi_72 hc ok (fun M' g1 g2 => ?_)
    have h50 := stepA_50 A (kindF (nextX x / 6 % 7)) (nextX x % 6) (nextX x / 42 % 6)
    have hc' : cH 72 M' (stepA A (kindF (nextX x / 6 % 7)) (nextX x % 6) (nextX x / 42 % 6)) := cH_eq g1 (fun c hcc => stepA_do A _ _ _ hcc)
    have e71 : M' 71 1 = A 5 0 := by rw [g2 71 (by omega)]; exact h1
    have hend : ∀ v : Int, v = (if kindF (nextX x / 6 % 7) = 46 then 1 else 0) → J l z X (d + 4) mX8_live (0, 0) 90 [jR 71, jR 1, jI s, jI m, jI (nextX x), jI i, jI (kindF (nextX x / 6 % 7))] [jI v, jI (M' 71 1), jR 71] (jG, M') Q := by
      intro v hv
      rw [← hv] at h50
      have hv2 : 0 ≤ v ∧ v ≤ 1 := by rw [hv]; split <;> omega
      refine b_X8_live_90 (jInd (by omega)) (jInd (by omega)) (ih _ _ _ _ (by omega) (by omega) hx' (cH_M hc' (fun c c1 c2 => by rw [jupd_c, if_neg (by omega)])) (okA_step ok) ?_ (by omega) (fun c hcc => ?_) hq)
      · rw [jupd_s, h50, e71]
      · rw [jupd_c, if_neg (by omega), g2 c (by omega)]
        exact f c hcc
    exact b_X8_live_73 (fun c => hend 0 (by rw [if_neg c])) (fun c => hend 1 (by rw [if_pos c]))
theorem c_X8_live {s m : Int} (hI : Inv M) (hs : 0 ≤ s ∧ s ≤ 9999) (hm : 1 ≤ m ∧ m ≤ 99) (hq : ∀ M' A', A' = yearA m.toNat s (startA M) → cH 72 M' A' → okA A' → M' 71 1 = A' 5 0 → (∀ c, ¬ (71 ≤ c ∧ c ≤ 76) → M' c = M c) → Q none (jG, M')) : J l z X (d + 4) mX8_live (0, 0) 0 [jR 71, jR 1, jI s, jI m, jN, jN, jN] [] (jG, M) Q := by
  obtain ⟨_, hr, hk⟩ := hI.1
  refine b_X8_live_0 (c_tk_72_1 (fun M' e4 e5 e6 e7 e13 e14 e15 e16 hf _ => b_X8_live_8 ?_))
  have ej : ∀ c, c ≠ 71 → jupd M' 71 1 0 c = M' c := fun c hcc => by rw [jupd_c, if_neg hcc]
  refine c_X8_live_19 (M0 := M) hm.2 m.toNat 0 s _ (startA M) (by omega) (by omega) (by omega) ⟨?_, fun k k0 k1 => ?_⟩ (okA_start hI) (by simp [jupd, startA]) (by simp [startA]) (fun c hcc => ?_) hq
  · rw [ej 72 (by omega)]
    simp [startA, e4, e5, e6, e7]
  · have := hk k k0 k1
    rw [ej _ (by omega), ej _ (by omega), ej _ (by omega), ej _ (by omega)]
    simp [startA, e13, e14, e15, e16, k0, k1]
    omega
  · rw [ej c (by omega)]
    exact hf c (by omega)
/-- the reference's -/
theorem c_X10_year_53 {M0 : Nat → Int → Int} {s m w : Int} (hm : m ≤ 99) : ∀ (n : Nat) (i x : Int) (M A : Nat → Int → Int), i = m - (n : Int) → 0 ≤ i → 0 ≤ x ∧ x ≤ 65536 → cM M A → okA A → okD A → mD M A → A 5 0 ≤ i → mF M0 M → (∀ M' A' x', A' = yearA n x A → cM M' A' → okA A' → mD M' A' → mF M0 M' → J l z X (d + 5) mX10_year (0, 0) 181 [jR 96, jI s, jI m, jI w, jI x', jI 0, jI 0, jN, jN] [] (jG, M') Q) → J l z X (d + 5) mX10_year (0, 0) 53 [jR 96, jI s, jI m, jI w, jI x, jI i, jN, jN, jN] [] (jG, M) Q := by
  intro n
  induction n with
  | zero =>
    intro i x M A hi i0 hx hc ok od hd h5 f hq
    exact b_X10_year_53 (fun q => absurd q (by omega)) (fun q => absurd q (by omega)) (fun q => absurd q (by omega)) (fun q => absurd q (by omega)) (fun q => absurd q (by omega)) (fun q => absurd q (by omega)) (fun _ => hq M A x rfl hc ok hd f) (fun q => absurd q (by omega)) (fun q => absurd q (by omega)) (fun q => absurd q (by omega)) (fun q => absurd q (by omega)) (fun q => absurd q (by omega))
  | succ n ih =>
    intro i x M A hi i0 hx hc ok od hd h5 f hq
    unfold yearA at hq
    have hx' : 0 ≤ nextX x ∧ nextX x ≤ 65536 := by unfold nextX; omega
    have h50 := stepA_50 A (kindF (nextX x / 6 % 7)) (nextX x % 6) (nextX x / 42 % 6)
    have h51 : (if kindF (nextX x / 6 % 7) = 46 then (1 : Int) else 0) ≤ 1 := by split <;> omega
    have hby : 0 ≤ nextX x / 6 % 7 ∧ nextX x / 6 % 7 ≤ 6 := by omega
    have hgo : ∀ k : Int, k = kM (kindF (nextX x / 6 % 7)) → J l z X (d + 5) mX10_year (0, 0) 128 [jR 96, jI s, jI m, jI w, jI (nextX x), jI i, jI (nextX x / 6 % 7), jN, jN] [jI k] (jG, M) Q := by
      intro k hk
      subst hk
      refine b_X10_year_128 hx'.1 (by omega) (c_X10_whyNot hc ok (kindF_K _) ?_)
      have hod := okD_step (k := kindF (nextX x / 6 % 7)) (x := nextX x % 6) (y := nextX x / 42 % 6) od (by omega)
      refine b_X10_year_153 (fun _ => hx'.1) (fun c => b_X10_year_169 (jInd (by omega)) ?_) (fun c => ?_)
      · refine ih _ _ _ (stepA A (kindF (nextX x / 6 % 7)) (nextX x % 6) (nextX x / 42 % 6)) (by omega) (by omega) hx' ?_ (okA_step ok) hod ?_ (by omega) f hq
        · unfold stepA; rw [if_neg c]; exact hc
        · unfold stepA; rw [if_neg c]; exact hd
      · refine c_X10_happen hc ok od hd (by omega) (kindF_K _) c (fun M' n1 n2 n3 => b_X10_year_169 (jInd (by omega)) ?_)
        have es : stepA A (kindF (nextX x / 6 % 7)) (nextX x % 6) (nextX x / 42 % 6) = dayA A (kindF (nextX x / 6 % 7)) (nextX x % 6) (nextX x / 42 % 6) := by unfold stepA; rw [if_pos c]
        refine ih _ _ _ (stepA A (kindF (nextX x / 6 % 7)) (nextX x % 6) (nextX x / 42 % 6)) (by omega) (by omega) hx' (by rw [es]; exact n1) (okA_step ok) hod (by rw [es]; exact n2) (by omega) (mF_trans f n3) hq
    refine b_X10_year_53 (fun _ => ?_) (fun _ => ?_) (fun _ => by omega) (fun _ => jInd (by omega)) (fun _ => by omega) (fun _ => by omega) (fun q => absurd q (by omega)) (fun _ g1 g2 g3 g4 => ?_) (fun _ g1 g2 g3 g4 => ?_) (fun _ g1 g2 g3 => ?_) (fun _ g1 g2 => ?_) (fun _ g1 => ?_)
    · unfold jInL; omega
    · unfold jInL; omega
    all_goals
      rw [show (75 * x + 74) % 65537 = nextX x from rfl] at *
      refine hgo _ ?_
      generalize nextX x / 6 % 7 = v at *
      unfold kindF
    · rw [if_neg (by omega), if_neg (by omega), if_neg (by omega), if_neg (by omega)]; decide
    · rw [if_neg (by omega), if_neg (by omega), if_neg (by omega), if_pos (by omega)]; decide
    · rw [if_neg (by omega), if_neg (by omega), if_pos (by omega)]; decide
    · rw [if_neg (by omega), if_pos (by omega)]; decide
    · rw [if_pos (by omega)]; decide
theorem c_X10_year_181 {s m w x : Int} (hc : cM M A) (ok : okA A) : ∀ (n : Nat) (k acc : Int), k = 6 - (n : Int) → 0 ≤ k → 0 ≤ acc → acc ≤ 100 * k → J l z X (d + 5) mX10_year (0, 0) 223 [jR 96, jI s, jI m, jI w, jI x, jI (acc + tailS (sumA6 A) n), jI 6, jN, jN] [jI (oldA A)] (jG, M) Q → J l z X (d + 5) mX10_year (0, 0) 181 [jR 96, jI s, jI m, jI w, jI x, jI acc, jI k, jN, jN] [] (jG, M) Q := by
  have e4 : M 96 0 = A 0 4 := hc.1.1
  intro n
  induction n with
  | zero =>
    intro k acc hk k0 a0 a1 kk
    refine b_X10_year_181 (fun q => absurd q (by omega)) (fun q => absurd q (by omega)) (fun _ => c_X10_oldestNow hc ?_) (fun q => absurd q (by omega)) (fun q => absurd q (by omega))
    have ek : k = 6 := by omega
    subst ek
    simpa [tailS] using kk
  | succ n ih =>
    intro k acc hk k0 a0 a1 kk
    have h1 := hc.2 k k0 (by omega)
    have h2 := ok.2 k k0 (by omega)
    unfold tailS at kk
    rw [← hk, ← Int.add_assoc] at kk
    have hgo : ∀ v : Int, v = sumA6 A k → 0 ≤ v → v ≤ 99 → J l z X (d + 5) mX10_year (0, 0) 210 [jR 96, jI s, jI m, jI w, jI x, jI acc, jI k, jN, jN] [jI v, jI acc] (jG, M) Q := by
      intro v hv v0 v1
      rw [← hv] at kk
      exact b_X10_year_210 (jInd (by omega)) (jInd (by omega)) (ih _ _ (by omega) (by omega) (by omega) (by omega) kk)
    refine b_X10_year_181 (fun _ _ => k0) (fun q _ => q) (fun q => absurd q (by omega)) (fun _ c => hgo _ ?_ (by omega) (by omega)) (fun _ c => hgo _ ?_ (by omega) (by omega))
    · rw [e4] at c
      unfold sumA6
      rw [if_pos c, h1.1.1]
    · rw [e4] at c
      unfold sumA6
      rw [if_neg (by rw [c]; decide)]
end YEAR
