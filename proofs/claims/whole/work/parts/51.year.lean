section YEAR2
variable {l : Launch} {z d : Nat} {X : jX} {M A : Nat → Int → Int} {Q : Option jV → jM → Prop}
theorem c_X1_looksTogether_4 {h : Nat} (hh : jHi h) (hc : cH h M A) (ok : okA A) : ∀ (n : Nat) (k acc : Int), k = 6 - (n : Int) → 0 ≤ k → 0 ≤ acc → acc ≤ 100 * k → Q (some (jI (acc + tailS (sumA6 A) n))) (jG, M) → J l z X (d + 1) mX1_looksTogether (0, 0) 4 [jR h, jI acc, jI k] [] (jG, M) Q := by
  have e4 : M h 4 = A 0 4 := hc.1.1
  intro n
  induction n with
  | zero =>
    intro k acc hk k0 a0 a1 kk
    refine b_X1_looksTogether_4 hh (fun q => absurd q (by omega)) (fun q => absurd q (by omega)) (fun _ => ?_) (fun q => absurd q (by omega)) (fun q => absurd q (by omega))
    simpa [tailS] using kk
  | succ n ih =>
    intro k acc hk k0 a0 a1 kk
    have h1 := hc.2 k k0 (by omega)
    have h2 := ok.2 k k0 (by omega)
    unfold tailS at kk
    rw [← hk, ← Int.add_assoc] at kk
    have hgo : ∀ v : Int, v = sumA6 A k → 0 ≤ v → v ≤ 99 → J l z X (d + 1) mX1_looksTogether (0, 0) 29 [jR h, jI acc, jI k] [jI v, jI acc] (jG, M) Q := by
      intro v hv v0 v1
      rw [← hv] at kk
      exact b_X1_looksTogether_29 hh (jInd (by omega)) (jInd (by omega)) (ih _ _ (by omega) (by omega) (by omega) (by omega) kk)
    refine b_X1_looksTogether_4 hh (fun _ _ => k0) (fun q _ => q) (fun q => absurd q (by omega)) (fun _ c => hgo _ ?_ (by omega) (by omega)) (fun _ c => hgo _ ?_ (by omega) (by omega))
    · rw [e4] at c
      unfold sumA6
      rw [if_pos c, h1.1.1]
    · rw [e4] at c
      unfold sumA6
      rw [if_neg (by rw [c]; decide)]
theorem pr_year (a b w : Int) : Pair l z X mX9_year mX10_year [jR 0, jI a, jI b, jI w] [jR 96, jI a, jI b, jI w, jN, jN, jN, jN, jN] := by
  intro M hI
  have hbad : ¬ (0 ≤ a ∧ a ≤ 9999 ∧ 1 ≤ b ∧ b ≤ 99 ∧ 0 ≤ w ∧ w ≤ 2) → J l z X 20 mX10_year (0, 0) 0 [jR 96, jI a, jI b, jI w, jN, jN, jN, jN, jN] [] (jG, M) (fun r' μ' => r' = some (jI (-2)) ∧ ∃ M'' : Nat → Int → Int, μ' = (jG, M'') ∧ Inv M'') := fun h =>
    b_X10_year_0 (fun q1 q2 q3 => absurd ⟨q1.1, q1.2, q2.1, q2.2, q3.1, q3.2⟩ h) (fun _ _ _ => ⟨rfl, _, rfl, hI⟩) (fun _ _ => ⟨rfl, _, rfl, hI⟩) (fun _ => ⟨rfl, _, rfl, hI⟩)
  refine b_X9_year_0 (fun c1 c2 c3 => ?_) (fun c1 c2 c3 => ⟨_, _, rfl, rfl, hbad (by omega)⟩) (fun c1 c2 => ⟨_, _, rfl, rfl, hbad (by omega)⟩) (fun c1 => ⟨_, _, rfl, rfl, hbad (by omega)⟩)
  refine c_X8_live hI c1 c2 (fun M1 A1 eA hc ok h71 hf => ?_)
  have hI1 : Inv M1 := Inv_same (fun c i hcc => by unfold core at hcc; rw [hf c (by omega)]) hI
  have hm : ∀ v : Int, (w = 0 → v = tailS (sumA6 A1) 6) → (w = 1 → v = oldA A1) → (w = 2 → v = A1 5 0) → J l z X 20 mX10_year (0, 0) 0 [jR 96, jI a, jI b, jI w, jN, jN, jN, jN, jN] [] (jG, M1) (fun r' μ' => r' = some (jI v) ∧ ∃ M'' : Nat → Int → Int, μ' = (jG, M'') ∧ Inv M'') := by
    intro v v0 v1 v2
    refine b_X10_year_0 (fun _ _ _ => ?_) (fun _ _ q => absurd c3 q) (fun _ q => absurd c2 q) (fun q => absurd c1 q)
    refine b_X10_keepNow_0 (c_X10_keepNow_2 (M := M1) 6 0 M1 (by omega) (by omega) (fun _ _ => rfl) (fun j j0 j1 => by omega) (fun M2 f1 g1 g2 g3 g4 => b_X10_year_43 ?_))
    refine b_X10_beginCount_0 (b_X10_year_47 ?_)
    generalize hM4 : (jupd (jupd (jupd M2 96 17 0) 96 18 (-6)) 96 19 (-6)) = M4
    have k1 : ∀ c, c ≠ 96 → M4 c = M2 c := fun c hcc => by
      rw [← hM4, jupd_c, if_neg hcc, jupd_c, if_neg hcc, jupd_c, if_neg hcc]
    have k2 : ∀ j : Int, j ≠ 17 → j ≠ 18 → j ≠ 19 → M4 96 j = M2 96 j := fun j h1 h2 h3 => by
      rw [← hM4]; simp [jupd, h1, h2, h3]
    have hb4 : ∀ j : Int, j = 0 ∨ j = 1 ∨ j = 2 ∨ j = 3 → M4 96 j = M1 96 j := fun j hj => by
      rw [k2 j (by omega) (by omega) (by omega), f1 96 (by omega)]
    have hc4 : ∀ c, c ≠ 96 → c ≠ 109 → M4 c = M1 c := fun c h1 h5 => by rw [k1 c h1, f1 c h5]
    refine c_X10_year_53 (M0 := M4) c2.2 b.toNat 0 a M4 (startA M1) (by omega) (by omega) (by omega) (cM_start hI1 hb4 (hc4 97 (by omega) (by omega)) (hc4 98 (by omega) (by omega)) (hc4 99 (by omega) (by omega)) (hc4 100 (by omega) (by omega))) (okA_start hI1) (okD_start M1) ⟨?_, fun i i0 i1 => ?_⟩ (by simp [startA]) (mF_rfl M4) (fun M5 A5 x' eA5 n1 n2 n3 n4 => ?_)
    · rw [← hM4]
      simp [jupd, startA]
    · simp [startA] at i1
      omega
    · have eq5 : A5 = A1 := by
        rw [eA5, eA, startA_eq (M := M) (M' := M1) (fun c d1 d2 => hf c (by omega))]
      rw [eq5] at n1 n2 n3
      have hmp5 : mP M1 M5 := by
        have e109 : M5 109 = M2 109 := by
          rw [n4.1 109 (by omega) (by omega) (by omega) (by omega) (by omega), k1 109 (by omega)]
        refine ⟨fun c hcc => ?_, fun j h0 h1 h3 h16 h17 h18 h19 h23 h24 => ?_, fun j j0 j1 => ?_, ?_, ?_, ?_⟩
        · rw [n4.1 c (by omega) (by omega) (by omega) (by omega) (by omega)]
          exact hc4 c (by omega) (by omega)
        · rw [n4.2 j h0 h1 h3 h17 h18 h19, k2 j h17 h18 h19, f1 96 (by omega)]
        · rw [e109]
          exact g1 j j0 j1
        · rw [e109]; exact g2
        · rw [e109]; exact g3
        · rw [e109]; exact g4
      refine c_X10_year_181 n1 n2 6 0 0 (by omega) (by omega) (by omega) (by omega) ?_
      have hend : ∀ u x4 x5 x6 : Int, u = v → J l z X 20 mX10_year (0, 0) 249 [jR 96, jI a, jI b, jI w, jI x4, jI x5, jI x6, jN, jN] [jI u, jR 96] (jG, M5) (fun r' μ' => r' = some (jI v) ∧ ∃ M'' : Nat → Int → Int, μ' = (jG, M'') ∧ Inv M'') := fun u x4 x5 x6 e =>
        b_X10_year_249 (c_X10_back (fun M6 t1 t2 t3 t4 t5 t6 => b_X10_year_252 ⟨by rw [e], M6, rfl, Inv_back hI1 hmp5 t1 t2 t3 t4 t5 t6⟩))
      refine b_X10_year_223 (fun h1 h2 => hend _ _ _ _ ?_) (fun h1 h2 => hend _ _ _ _ ?_) (fun h1 => hend _ _ _ _ ?_)
      · rw [v2 (by omega), n3.1.1]
      · rw [v1 h2]
      · rw [v0 h1, Int.zero_add]
  refine b_X9_year_46 (fun h1 h2 => ⟨_, _, rfl, rfl, hm _ (fun q => absurd q h1) (fun q => absurd q h2) (fun _ => h71)⟩) (fun h1 h2 => c_X1_oldestOne hi_72 hc ok (b_X9_year_76 ⟨_, _, rfl, rfl, hm _ (fun q => absurd q h1) (fun _ => rfl) (fun q => absurd q (by omega))⟩)) (fun h1 => ?_)
  refine b_X1_looksTogether_0 hi_72 (c_X1_looksTogether_4 hi_72 hc ok 6 0 0 (by omega) (by omega) (by omega) (by omega) (b_X9_year_60 ⟨_, _, rfl, rfl, hm _ (fun _ => ?_) (fun q => absurd q (by omega)) (fun q => absurd q (by omega))⟩))
  rw [Int.zero_add]
end YEAR2
