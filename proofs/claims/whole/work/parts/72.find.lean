section FIND
variable {l : Launch} {z d : Nat} {X : jX} {M : Nat → Int → Int} {Q : Option jV → jM → Prop}
/-- the place of an age in a row: there already, or put at its end -/
theorem c_X3_findAge {pl age : Int} (hp : 0 ≤ pl ∧ pl < 21) (hn : 0 ≤ M 43 pl ∧ M 43 pl ≤ 13) (hx : (∀ j : Int, 0 ≤ j → j < M 43 pl → M (22 + pl.toNat) j ≠ age) → M 43 pl < 13) (k1 : ∀ i : Int, 0 ≤ i → i < M 43 pl → M (22 + pl.toNat) i = age → (∀ j : Int, 0 ≤ j → j < i → M (22 + pl.toNat) j ≠ age) → Q (some (jI i)) (jG, M)) (k2 : (∀ j : Int, 0 ≤ j → j < M 43 pl → M (22 + pl.toNat) j ≠ age) → Q (some (jI (M 43 pl))) (jG, jupd (jupd M (22 + pl.toNat) (M 43 pl) age) 43 pl (M 43 pl + 1))) : J l z X d mX3_findAge (0, 0) 0 [jR 19, jI pl, jI age, jN, jN] [] (jG, M) Q := by
  have hloop : ∀ (m : Nat) (i : Int), i = M 43 pl - (m : Int) → 0 ≤ i → (∀ j : Int, 0 ≤ j → j < i → M (22 + pl.toNat) j ≠ age) → J l z X d mX3_findAge (0, 0) 26 [jR 19, jI pl, jI age, jI (M 43 pl), jI i] [] (jG, M) Q := by
    intro m
    induction m with
    | zero =>
      intro i hi i0 hno
      have hlt := hx (fun j j0 j1 => hno j j0 (by omega))
      have e43 : jupd M (22 + pl.toNat) (M 43 pl) age 43 pl = M 43 pl := by
        rw [jupd_c, if_neg (by omega)]
      refine b_X3_findAge_26 (fun q => absurd q (by omega)) (fun q => absurd q (by omega)) (fun q => absurd q (by omega)) (fun q => absurd q (by omega)) (fun q => absurd q (by omega)) (fun _ => ?_) (fun q => absurd q (by omega)) (fun q => absurd q (by omega)) (fun q => absurd q (by omega))
      refine b_X3_findAge_61 (fun _ _ => hp.1) (fun _ _ => hp.2) (fun _ _ => hn.1) (fun _ _ => hlt) (fun _ _ => by rw [e43]; exact jInd (by omega)) (fun q => absurd q (by omega)) (fun _ _ => ?_) (fun _ q => absurd q (by omega))
      rw [e43]
      exact k2 (fun j j0 j1 => hno j j0 (by omega))
    | succ m ih =>
      intro i hi i0 hno
      refine b_X3_findAge_26 (fun _ _ => hp.1) (fun _ _ => hp.2) (fun _ _ => i0) (fun _ _ => by omega) (fun _ _ _ => jInd (by omega)) (fun q => absurd q (by omega)) (fun _ q => absurd q (by omega)) (fun _ _ g => ih (i + 1) (by omega) (by omega) (fun j j0 j1 => ?_)) (fun _ _ g => k1 i i0 (by omega) g hno)
      by_cases e : j = i
      · rw [e]; exact g
      · exact hno j j0 (by omega)
  exact b_X3_findAge_0 (fun _ _ => hp.1) (fun _ _ => hp.2) (fun q => absurd q (by omega)) (fun _ _ => hloop (M 43 pl).toNat 0 (by omega) (by omega) (fun j j0 j1 => by omega)) (fun _ q => absurd q (by omega))
theorem c_X3_countOf {dd s : Int} (hd : 0 ≤ dd ∧ dd ≤ 6) (hs : 0 ≤ s ∧ s < 3) (k : Q (some (jI (M 43 (dd * 3 + s)))) (jG, M)) : J l z X d mX3_countOf (0, 0) 0 [jR 19, jI dd, jI s, jN] [] (jG, M) Q :=
  b_X3_countOf_0 (jInd (by omega)) (jInd (by omega)) (fun _ _ => by omega) (fun _ _ => by omega) (fun q => absurd q (by omega)) (fun _ q => absurd q (by omega)) (fun _ _ => k)
theorem c_X3_next {dd s i e : Int} (hd : 0 ≤ dd ∧ dd < 6) (hs : 0 ≤ s ∧ s < 3) (hi : 0 ≤ i ∧ i < 13) (he : 0 ≤ e ∧ e < 3) (k : Q (some (jI (M (45 + (dd * 3 + s).toNat) (i * 3 + e)))) (jG, M)) : J l z X d mX3_next (0, 0) 0 [jR 19, jI dd, jI s, jI i, jI e, jN, jN] [] (jG, M) Q :=
  b_X3_next_0 (jInd (by omega)) (jInd (by omega)) (jInd (by omega)) (jInd (by omega)) (fun _ _ _ _ => by omega) (fun _ _ _ _ => by omega) (fun _ _ _ _ => by omega) (fun _ _ _ _ => by omega) (fun q => absurd q (by omega)) (fun _ q => absurd q (by omega)) (fun _ _ q => absurd q (by omega)) (fun _ _ _ q => absurd q (by omega)) (fun _ _ _ _ => k)
end FIND
