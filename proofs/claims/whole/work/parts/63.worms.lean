section WORMSPAIR
variable {l : Launch} {z : Nat} {X : jX}
theorem pr_worms (one a t v part : Int) : PairL l z X mX9_worms mX10_worms [jR 0, jI one, jI a, jI t, jI v, jI part, jN, jN, jN, jN] [jR 96, jI one, jI a, jI t, jI v, jI part, jN, jN, jN, jN, jN] := by
  intro M hI
  obtain ⟨⟨q1, q2, q3, q4⟩, hr, hk⟩ := id hI.1
  have hq : hasB (M 96 0) = hasB (M 1 4) := by rw [q1]
  have hgone : hasB (M 1 4) one = false → J l z X 20 mX10_worms (0, 0) 0 [jR 96, jI one, jI a, jI t, jI v, jI part, jN, jN, jN, jN, jN] [] (jG, M) (fun r' μ' => r' = some (jL (-1000000000000000001)) ∧ ∃ M'' : Nat → Int → Int, μ' = (jG, M'') ∧ Inv M'') := fun g => by
    refine b_X10_worms_0 (fun c => ?_) (fun c => ?_) (fun c => ?_) (fun c => ?_) (fun c => ?_) (fun _ => ⟨rfl, _, rfl, hI⟩)
    all_goals (rw [hq, g] at c; exact absurd c (by decide))
  have hout : hasB (M 1 4) one = true → ¬ (0 ≤ a ∧ a ≤ 6 ∧ 0 ≤ t ∧ t ≤ 10 ∧ -1 ≤ v ∧ v ≤ 99 ∧ 0 ≤ part ∧ part ≤ 1) → J l z X 20 mX10_worms (0, 0) 0 [jR 96, jI one, jI a, jI t, jI v, jI part, jN, jN, jN, jN, jN] [] (jG, M) (fun r' μ' => r' = some (jL (-1000000000000000002)) ∧ ∃ M'' : Nat → Int → Int, μ' = (jG, M'') ∧ Inv M'') := fun g h => by
    refine b_X10_worms_0 (fun _ c1 c2 c3 c4 => absurd ⟨c1.1, c1.2, c2.1, c2.2, c3.1, c3.2, c4.1, c4.2⟩ h) (fun _ _ _ _ _ => ⟨rfl, _, rfl, hI⟩) (fun _ _ _ _ => ⟨rfl, _, rfl, hI⟩) (fun _ _ _ => ⟨rfl, _, rfl, hI⟩) (fun _ _ => ⟨rfl, _, rfl, hI⟩) (fun c => ?_)
    rw [hq, g] at c
    exact absurd c (by decide)
  refine b_X9_worms_0 (fun g c1 c2 c3 c4 => ?_) (fun g c1 c2 c3 c4 => ⟨_, _, rfl, rfl, hout g (by omega)⟩) (fun g c1 c2 c3 => ⟨_, _, rfl, rfl, hout g (by omega)⟩) (fun g c1 c2 => ⟨_, _, rfl, rfl, hout g (by omega)⟩) (fun g c1 => ⟨_, _, rfl, rfl, hout g (by omega)⟩) (fun g => ⟨_, _, rfl, rfl, hgone g⟩)
  have hin := hasB_in g
  have hkk := hk one hin.1 hin.2
  obtain ⟨an, rfl⟩ : ∃ n : Nat, a = (n : Int) := ⟨a.toNat, by omega⟩
  have ha : an ≤ 6 := by omega
  have h2a := two_pow ha
  have h10 := powF_ten ha
  have hp : 0 ≤ M 3 one ∧ M 3 one ≤ 9 := by omega
  have hy : 0 ≤ M 4 one ∧ M 4 one ≤ 99 := by omega
  have hx : 0 ≤ M 2 one ∧ M 2 one ≤ 99 := by omega
  have hU := eE_rng (v := v) hp hy c2 an (M 2 one) hx
  refine b_X7_weigh_0 (c_X7_weigh_6 hI g ha c2 (2 ^ an) 0 0 (by omega) (by omega) (by omega) ?_)
  rw [sum_eE _ _ _ _ _ _ ha, Int.zero_add]
  refine b_X9_worms_72 (c_X7_power (by omega) (by omega) ?_)
  rw [show ((an : Int)).toNat = an by omega]
  generalize hUe : eE t (M 3 one) (M 4 one) v an (M 2 one) = U at hU
  generalize hWe : powF 10 an = W at h10 hU
  have hT1 : gT 200 U W := gT_more 61 200 U W (gT_pow 30 U W hU.1 (by omega) (by have : (2 : Int) ^ 30 = 1073741824 := rfl; omega)) (by omega)
  have hT2 : gT 61 W U := gT_pow 30 W U (by omega) hU.1 (by have : (2 : Int) ^ 30 = 1073741824 := rfl; omega)
  have hsw : gE 200 U W = gE 61 W U := gE_swap 200 61 U W hU.1 (by omega) hT1 hT2
  have hpos : 0 < gE 61 W U := gE_pos 61 W U (by omega) hU.1
  have hm : ∀ u : Int, u = (if part = 0 then U / gE 61 W U else W / gE 61 W U) → J l z X 20 mX10_worms (0, 0) 0 [jR 96, jI one, jI (an : Int), jI t, jI v, jI part, jN, jN, jN, jN, jN] [] (jG, M) (fun r' μ' => r' = some (jL u) ∧ ∃ M'' : Nat → Int → Int, μ' = (jG, M'') ∧ Inv M'') := by
    intro u hu
    refine b_X10_worms_0 (fun _ _ _ _ _ => ?_) (fun _ _ _ _ q => absurd c4 q) (fun _ _ _ q => absurd c3 q) (fun _ _ q => absurd c2 q) (fun _ q => absurd c1 q) (fun c => by rw [hq, g] at c; exact absurd c (by decide))
    refine c_X10_worms_69 (M0 := M) (x0 := M 2 one) hin hkk.1.1 (fun M2 f2 g2 => ?_) 100 0 M (by omega) (by omega) (fun _ _ => rfl) (fun k k0 k1 => by omega)
    have hdot : ∀ h : Int → Int, dotF (M2 117) h = h (M 2 one) := fun h => by
      have e1 : dotF (M2 117) h = dotF (fun k => if k = M 2 one then (fun _ => (0 : Int)) (M 2 one) + 1 else (fun _ => (0 : Int)) k) h := dot_congr (fun k k0 k1 => ⟨g2 k k0 k1, rfl⟩)
      have e3 := dot_upd (P := fun _ => (0 : Int)) (g := h) (j := M 2 one) (c := 1) ⟨hx.1, by omega⟩
      have e2 : dotF (fun _ => (0 : Int)) h = 0 := sumF_zero (fun k => by show 0 * h k = 0; omega) 100 0
      rw [e1]
      refine e3.trans ?_
      rw [e2]
      omega
    have := c_X10_worms_111 (l := l) (z := z) (d := 18) (X := X) (Q := fun r' μ' => r' = some (jL u) ∧ ∃ M'' : Nat → Int → Int, μ' = (jG, M'') ∧ Inv M'') (one := one) (t := t) (v := v) (part := part) (p := M 3 one) (y := M 4 one) (x0 := M 2 one) (a := an) (M0 := M2) (n := 61) (by rw [f2 98 (by omega)]; exact hkk.1.2.1) (by rw [f2 99 (by omega)]; exact hkk.1.2.2) hin hp hy c2 ha hx c3.1 (by rw [hUe, hWe]; exact hT2) (fun M3 f3 => ⟨by rw [hUe, hWe, hu], M3, rfl, Inv_same (fun c i hc => by unfold core at hc; rw [f3 c (by omega) (by omega), f2 c (by omega)]) hI⟩) an 0 M2 (by omega) (fun _ _ _ => rfl) (fun k k0 k1 => by rw [g2 k k0 k1]; split <;> omega) (hdot _) (hdot _)
    exact this
  refine b_X9_worms_81 (fun e => b_X9_worms_95 (c_X7_commonDivisor hU.1 (by omega) (b_X9_worms_102 (by omega) (by omega) ⟨_, _, rfl, rfl, hm _ ?_⟩))) (fun e => b_X9_worms_95 (c_X7_commonDivisor hU.1 (by omega) (b_X9_worms_102 (by omega) (by omega) ⟨_, _, rfl, rfl, hm _ ?_⟩)))
  · rw [if_neg e, hsw, show max 1 (gE 61 W U) = gE 61 W U by omega]
  · rw [if_pos e, hsw, show max 1 (gE 61 W U) = gE 61 W U by omega]
end WORMSPAIR
