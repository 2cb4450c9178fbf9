theorem shR_step (M : Nat → Int → Int) (c : Int) (m : Nat) (q dd sum dg pw : Int) (s : Int → Int) (hd : 0 ≤ dd ∧ dd ≤ 2) : shR M c (m + 1) (3 * q + dd) sum dg pw s = if hasB (M 1 4) m = false ∧ 0 < dd then -6 else shR M c m q (sum + dd) (dg + pw * (if hasB (M 1 4) m = true then dd else 3)) (pw * 10) (setS s m dd) := by
  have e1 : (3 * q + dd) % 3 = dd := by omega
  have e2 : (3 * q + dd) / 3 = q := by omega
  conv => lhs; unfold shR
  rw [e1, e2]
theorem tv_step (M : Nat → Int → Int) (n : Nat) (left dg dd r : Int) (s : Int → Int) (hd : 0 ≤ dd ∧ dd ≤ 2) (hr : 0 ≤ r ∧ r < 3 ^ n) : tv M (n + 1) left dg s (3 ^ n * dd + r) = if hasB (M 1 4) (6 - ((n + 1 : Nat) : Int)) = false ∧ 0 < dd then -6 else tv M n (left - dd) (dg * 10 + (if hasB (M 1 4) (6 - ((n + 1 : Nat) : Int)) = true then dd else 3)) (setS s (6 - ((n + 1 : Nat) : Int)) dd) r := by
  have h3 : dd = 0 ∨ dd = 1 ∨ dd = 2 := by omega
  generalize hp : (3 : Int) ^ n = p at hr ⊢
  conv => lhs; unfold tv
  rw [hp]
  rcases h3 with e | e | e <;> subst e
  · rw [if_pos (by omega), show p * 0 + r = r by omega]
    cases hasB (M 1 4) (6 - ((n + 1 : Nat) : Int))
    · simp
    · simp
  · rw [if_neg (by omega), if_pos (by omega), show p * 1 + r - p = r by omega]
    cases hasB (M 1 4) (6 - ((n + 1 : Nat) : Int))
    · simp
    · simp
  · rw [if_neg (by omega), if_neg (by omega), show p * 2 + r - (p + p) = r by omega]
    cases hasB (M 1 4) (6 - ((n + 1 : Nat) : Int))
    · simp
    · simp
theorem tv_shR (M : Nat → Int → Int) (c r : Int) (s s' : Int → Int) (hr : 0 ≤ r ∧ r < 729) : tv M 6 c 0 s r = shR M c 6 r 0 0 1 s' := by
  obtain ⟨d0, d1, d2, d3, d4, d5, h0, h1, h2, h3, h4, h5, hr1⟩ : ∃ d0 d1 d2 d3 d4 d5 : Int, (0 ≤ d0 ∧ d0 ≤ 2) ∧ (0 ≤ d1 ∧ d1 ≤ 2) ∧ (0 ≤ d2 ∧ d2 ≤ 2) ∧ (0 ≤ d3 ∧ d3 ≤ 2) ∧ (0 ≤ d4 ∧ d4 ≤ 2) ∧ (0 ≤ d5 ∧ d5 ≤ 2) ∧ r = 243 * d0 + 81 * d1 + 27 * d2 + 9 * d3 + 3 * d4 + d5 :=
    ⟨r / 243, r % 243 / 81, r % 81 / 27, r % 27 / 9, r % 9 / 3, r % 3, by omega, by omega, by omega, by omega, by omega, by omega, by omega⟩
  have eL : tv M 6 c 0 s r = tv M 6 c 0 s (3 ^ 5 * d0 + (3 ^ 4 * d1 + (3 ^ 3 * d2 + (3 ^ 2 * d3 + (3 ^ 1 * d4 + (3 ^ 0 * d5 + 0)))))) := by
    congr 1
    omega
  have eR : shR M c 6 r 0 0 1 s' = shR M c 6 (3 * (3 * (3 * (3 * (3 * (3 * 0 + d0) + d1) + d2) + d3) + d4) + d5) 0 0 1 s' := by
    congr 1
    omega
  rw [eL, eR]
  rw [tv_step M 5 c 0 d0 _ s h0 (by omega), shR_step M c 5 _ d5 _ _ _ _ h5]
  rw [tv_step M 4 _ _ d1 _ _ h1 (by omega), shR_step M c 4 _ d4 _ _ _ _ h4]
  rw [tv_step M 3 _ _ d2 _ _ h2 (by omega), shR_step M c 3 _ d3 _ _ _ _ h3]
  rw [tv_step M 2 _ _ d3 _ _ h3 (by omega), shR_step M c 2 _ d2 _ _ _ _ h2]
  rw [tv_step M 1 _ _ d4 _ _ h4 (by omega), shR_step M c 1 _ d1 _ _ _ _ h1]
  rw [tv_step M 0 _ _ d5 _ _ h5 (by omega), shR_step M c 0 _ d0 _ _ _ _ h0]
  simp only [show (6 : Int) - ((5 + 1 : Nat) : Int) = 0 by omega, show (6 : Int) - ((4 + 1 : Nat) : Int) = 1 by omega, show (6 : Int) - ((3 + 1 : Nat) : Int) = 2 by omega, show (6 : Int) - ((2 + 1 : Nat) : Int) = 3 by omega, show (6 : Int) - ((1 + 1 : Nat) : Int) = 4 by omega, show (6 : Int) - ((0 + 1 : Nat) : Int) = 5 by omega, show ((5 : Nat) : Int) = 5 by omega, show ((4 : Nat) : Int) = 4 by omega, show ((3 : Nat) : Int) = 3 by omega, show ((2 : Nat) : Int) = 2 by omega, show ((1 : Nat) : Int) = 1 by omega, show ((0 : Nat) : Int) = 0 by omega, show (6 : Int) - 6 = 0 by omega, show (6 : Int) - 5 = 1 by omega, show (6 : Int) - 4 = 2 by omega, show (6 : Int) - 3 = 3 by omega, show (6 : Int) - 2 = 4 by omega, show (6 : Int) - 1 = 5 by omega]
  by_cases b0 : hasB (M 1 4) 0 = false ∧ 0 < d0
  · simp only [if_pos b0, ite_self]
  by_cases b1 : hasB (M 1 4) 1 = false ∧ 0 < d1
  · simp only [if_pos b1, ite_self]
  by_cases b2 : hasB (M 1 4) 2 = false ∧ 0 < d2
  · simp only [if_pos b2, ite_self]
  by_cases b3 : hasB (M 1 4) 3 = false ∧ 0 < d3
  · simp only [if_pos b3, ite_self]
  by_cases b4 : hasB (M 1 4) 4 = false ∧ 0 < d4
  · simp only [if_pos b4, ite_self]
  by_cases b5 : hasB (M 1 4) 5 = false ∧ 0 < d5
  · simp only [if_pos b5, ite_self]
  rw [if_neg b0, if_neg b1, if_neg b2, if_neg b3, if_neg b4, if_neg b5, if_neg b5, if_neg b4, if_neg b3, if_neg b2, if_neg b1, if_neg b0]
  unfold tv shR
  generalize (if hasB (M 1 4) 0 = true then d0 else 3) = e0
  generalize (if hasB (M 1 4) 1 = true then d1 else 3) = e1
  generalize (if hasB (M 1 4) 2 = true then d2 else 3) = e2
  generalize (if hasB (M 1 4) 3 = true then d3 else 3) = e3
  generalize (if hasB (M 1 4) 4 = true then d4 else 3) = e4
  generalize (if hasB (M 1 4) 5 = true then d5 else 3) = e5
  have hs : eA M (setS (setS (setS (setS (setS (setS s 0 d0) 1 d1) 2 d2) 3 d3) 4 d4) 5 d5) 6 = eA M (setS (setS (setS (setS (setS (setS s' 5 d5) 4 d4) 3 d3) 2 d2) 1 d1) 0 d0) 6 := by
    refine eA_congr (fun j j0 j1 => ?_) 6 (by omega)
    have hj : j = 0 ∨ j = 1 ∨ j = 2 ∨ j = 3 ∨ j = 4 ∨ j = 5 := by omega
    rcases hj with e | e | e | e | e | e <;> subst e <;> simp [setS]
  rw [hs]
  have hc : (c - d0 - d1 - d2 - d3 - d4 - d5 = 0) ↔ (0 + d5 + d4 + d3 + d2 + d1 + d0 = c) := by omega
  by_cases g : 0 + d5 + d4 + d3 + d2 + d1 + d0 = c
  · rw [if_pos (hc.2 g), if_pos g]
    by_cases g2 : eA M (setS (setS (setS (setS (setS (setS s' 5 d5) 4 d4) 3 d3) 2 d2) 1 d1) 0 d0) 6 = true
    · rw [if_pos g2, if_pos g2]
      omega
    · rw [if_neg g2, if_neg g2]
  · rw [if_neg (fun q => g (hc.1 q)), if_neg g]
def shV (M : Nat → Int → Int) (c x : Int) : Int := shR M c 6 x 0 0 1 (fun _ => 0)
theorem cls_num (M : Nat → Int → Int) (c : Int) (s : Int → Int) : clsL M 6 c 0 s = numL (shV M c) 729 0 := by
  rw [clsL_ful M 6 c 0 s (by omega) (fun a b a0 a1 b0 b1 => by omega), ful_num M 6 c 0 s (by omega)]
  refine numL_congr 729 0 0 (fun i i0 i1 => ?_)
  rw [Int.zero_add]
  exact tv_shR M c i s _ ⟨i0, by omega⟩
section ENVY2
variable {l : Launch} {z d : Nat} {X : jX} {M : Nat → Int → Int} {Q : Option jV → jM → Prop}
theorem c_X10_envy_36 (hI : Inv M) {c w : Int} (hq : ∀ M2, (∀ c, c ≠ 116 → M2 c = M c) → Q (some (jI (if w = 0 then ((numL (shV M c) 729 0).length : Int) else (numL (shV M c) 729 0).headD (-6)))) (jG, M2)) : ∀ (m : Nat) (x n f : Int) (u : jV) (M1 : Nat → Int → Int), m ≤ 729 → x = (m : Int) - 1 → n = (numL (shV M c) (729 - m) m).length → f = (numL (shV M c) (729 - m) m).headD (-6) → (∀ c, c ≠ 116 → M1 c = M c) → J l z X (d + 4) mX10_envy (0, 0) 36 [jR 96, jI c, jI w, jI n, jI f, jI x, u] [] (jG, M1) Q := by
  intro m
  induction m with
  | zero =>
    intro x n f u M1 _ hx hn hf h1
    refine J_weak [jR 96, jI c, jI w, jI n, jI f, jI x, jN] ⟨Or.inr rfl, Or.inr rfl, Or.inr rfl, Or.inr rfl, Or.inr rfl, Or.inr rfl, Or.inl rfl, trivial⟩ ?_
    have := hq M1 h1
    refine b_X10_envy_36 (fun _ g => ?_) (fun _ g => ?_) (fun q => absurd q (by omega))
    · rw [if_neg g] at this
      rw [hf]; exact this
    · rw [if_pos g] at this
      rw [hn]; exact this
  | succ m ih =>
    intro x n f u M1 hm hx hn hf h1
    refine J_weak [jR 96, jI c, jI w, jI n, jI f, jI x, jN] ⟨Or.inr rfl, Or.inr rfl, Or.inr rfl, Or.inr rfl, Or.inr rfl, Or.inr rfl, Or.inl rfl, trivial⟩ ?_
    have hlen := numL_len (shV M c) (729 - (m + 1)) ((m + 1 : Nat) : Int)
    have ex : x = (m : Int) := by omega
    have eL : numL (shV M c) (729 - m) (m : Int) = (if 0 ≤ shV M c m then [shV M c m] else []) ++ numL (shV M c) (729 - (m + 1)) ((m + 1 : Nat) : Int) := by
      rw [show 729 - m = (729 - (m + 1)) + 1 by omega]
      rfl
    refine b_X10_envy_36 (fun q => absurd q (by omega)) (fun q => absurd q (by omega)) (fun _ => b_X10_shareOf_0 ?_)
    refine c_X10_shareOf_14 hI 6 5 x 0 0 1 M1 (by omega) (by omega) (by omega) (by omega) (by simp [dB]) (by omega) h1 (fun M2 h2 => ?_)
    have eV : shR M c 6 x 0 0 1 (M1 116) = shV M c m := by
      rw [ex]
      exact shR_congr 6 _ _ _ _ _ _ (fun j j0 j1 => by omega)
    rw [eV]
    refine b_X10_envy_48 (fun g => ?_) (fun g => ?_)
    · refine b_X10_envy_61 (jInd (by omega)) (fun _ => b_X10_envy_75 (jInd (by omega)) (ih _ _ _ _ M2 (by omega) (by omega) ?_ ?_ h2)) (fun q => absurd q (by omega))
      · rw [eL, if_neg (by omega), hn]; simp
      · rw [eL, if_neg (by omega), hf]; simp
    · refine b_X10_envy_61 (jInd (by omega)) (fun q => absurd q (by omega)) (fun _ => b_X10_envy_75 (jInd (by omega)) (ih _ _ _ _ M2 (by omega) (by omega) ?_ ?_ h2))
      · rw [eL, if_pos g, hn]
        simp
      · rw [eL, if_pos g]; simp
theorem pr_envy (a w : Int) : Pair l z X mX9_envy mX10_envy [jR 0, jI a, jI w] [jR 96, jI a, jI w, jN, jN, jN, jN] := by
  intro M hI
  have hbad : ¬ (0 ≤ a ∧ a ≤ 12 ∧ 0 ≤ w ∧ w ≤ 1) → J l z X 20 mX10_envy (0, 0) 0 [jR 96, jI a, jI w, jN, jN, jN, jN] [] (jG, M) (fun r' μ' => r' = some (jI (-2)) ∧ ∃ M'' : Nat → Int → Int, μ' = (jG, M'') ∧ Inv M'') := fun h =>
    b_X10_envy_0 (fun q1 q2 => absurd ⟨q1.1, q1.2, q2.1, q2.2⟩ h) (fun _ _ => ⟨rfl, _, rfl, hI⟩) (fun _ => ⟨rfl, _, rfl, hI⟩)
  refine b_X9_envy_0 (fun c1 c2 => b_X5_weigh_0 ?_) (fun c1 c2 => ⟨_, _, rfl, rfl, hbad (by omega)⟩) (fun c1 => ⟨_, _, rfl, rfl, hbad (by omega)⟩)
  have hlen := clsL_len M 6 a 0 (fun _ => 0)
  have ej : ∀ c, c ≠ 66 → jupd (jupd M 66 1 0) 66 2 (-6) c = M c := fun c hc => by rw [jupd_c, if_neg hc, jupd_c, if_neg hc]
  have e1 : jupd (jupd M 66 1 0) 66 2 (-6) 66 1 = 0 := by simp [jupd]
  have e2 : jupd (jupd M 66 1 0) 66 2 (-6) 66 2 = -6 := by simp [jupd]
  refine c_X5_share (d := 9) hI 6 0 a 0 (fun _ => 0) _ _ (by omega) (by omega) (by omega) (by simp [dB]) (fun c h1 h2 => ej c h1) (fun j j0 j1 => by omega) (by rw [e1]; omega) (by rw [e1]; omega) (fun M1 f1 a1 _ => b_X5_weigh_19 ?_)
  rw [e1, e2, cls_num] at a1
  obtain ⟨a1, a2⟩ := a1
  rw [if_pos rfl] at a2
  rw [Int.zero_add] at a1
  have hI1 : Inv M1 := Inv_same (fun c i hc => by unfold core at hc; rw [f1 c (by omega) (by omega)]) hI
  have eV : shV M1 a = shV M a := by
    have hb : badP M1 = badP M := by
      funext s x y
      unfold badP evF
      rw [f1 1 (by omega) (by omega), f1 2 (by omega) (by omega), f1 3 (by omega) (by omega), f1 4 (by omega) (by omega)]
    have hB : ∀ s x n, eB M1 s x n = eB M s x n := fun s x n => by
      induction n with
      | zero => rfl
      | succ n ih => unfold eB; rw [hb, ih]
    have hA : ∀ s n, eA M1 s n = eA M s n := fun s n => by
      induction n with
      | zero => rfl
      | succ n ih => unfold eA; rw [hB, ih]
    have hR : ∀ (m : Nat) (num sum dg pw : Int) (s : Int → Int), shR M1 a m num sum dg pw s = shR M a m num sum dg pw s := fun m => by
      induction m with
      | zero => intro num sum dg pw s; unfold shR; rw [hA]
      | succ m ih => intro num sum dg pw s; unfold shR; rw [ih, f1 1 (by omega) (by omega)]
    funext x
    exact hR _ _ _ _ _ _
  have hm : ∀ v : Int, v = (if w = 0 then ((numL (shV M a) 729 0).length : Int) else (numL (shV M a) 729 0).headD (-6)) → J l z X 20 mX10_envy (0, 0) 0 [jR 96, jI a, jI w, jN, jN, jN, jN] [] (jG, M1) (fun r' μ' => r' = some (jI v) ∧ ∃ M'' : Nat → Int → Int, μ' = (jG, M'') ∧ Inv M'') := by
    intro v hv
    refine b_X10_envy_0 (fun _ _ => c_X10_envy_36 hI1 (fun M2 h2 => ⟨by rw [eV, hv], M2, rfl, Inv_same (fun c i hc => by unfold core at hc; rw [h2 c (by omega)]) hI1⟩) 729 728 0 (-6) _ M1 (by omega) (by omega) ?_ ?_ (fun _ _ => rfl)) (fun _ q => absurd c2 q) (fun q => absurd c1 q)
    · rfl
    · rfl
  exact b_X9_envy_34 (fun g => ⟨_, _, rfl, rfl, hm _ (by rw [if_neg g, a2])⟩) (fun g => ⟨_, _, rfl, rfl, hm _ (by rw [if_pos g, a1])⟩)
end ENVY2
