theorem readV_rng {p : Int → Int} {L : Int} (hL : 0 ≤ L) : ∀ (m : Nat) (i : Int) (B : Nat → Int → Int), 0 ≤ i → readV p L m i B = -6 ∨ 0 ≤ readV p L m i B
  | 0, i, B, h => by
    unfold readV
    split
    · exact Or.inl rfl
    · exact Or.inr hL
  | m + 1, i, B, h => by
    unfold readV
    split
    · exact Or.inr h
    · exact readV_rng hL m _ _ (by omega)
theorem Vof_rng {M : Nat → Int → Int} (hI : Inv M) : Vof M = -6 ∨ 0 ≤ Vof M := readV_rng hI.2.2.1.2.1 _ _ _ (by omega)
theorem runA_bad {K Xs Ys : Int → Int} : ∀ (m : Nat) (i : Int) (A : Nat → Int → Int), 0 ≤ i → A 8 0 = -6 → runA K Xs Ys m i A 8 0 = -6 ∨ 0 ≤ runA K Xs Ys m i A 8 0
  | 0, _, _, _, h => Or.inl h
  | m + 1, i, A, hi, h => by
    unfold runA
    split
    · refine runA_bad m _ _ (by omega) ?_
      have e8 : dayA A (K i) (Xs i) (Ys i) 8 = A 8 := by
        unfold dayA
        by_cases e : K i = 46
        · rw [if_pos e, tellA_c _ (by omega) (by omega), wakeA_c _ (by omega), copyA_c _ (by omega)]
        · rw [if_neg e, actA_c _ _ _ _ (by omega)]
      rw [e8]; exact h
    · right
      simp [badA, jupd]
      exact hi
theorem Aof_bad (M : Nat → Int → Int) : Aof M 8 0 = -6 ∨ 0 ≤ Aof M 8 0 := runA_bad _ _ _ (by omega) (by simp [startA])
section JUDGE
variable {l : Launch} {z d : Nat} {X : jX} {M : Nat → Int → Int} {Q : Option jV → jM → Prop}
theorem c_X10_fault {N : Nat → Int → Int} (hI : Inv M) (hN : ∀ c, 96 ≤ c → c ≠ 109 → N c = M c) (hq : ∀ M', (Vof M = -6 → rM M' (Bof M)) → fM N M' → Q (some (jI (Vof M))) (jG, M')) : J l z X (d + 3) mX10_fault (0, 0) 0 [jR 96, jN, jN] [] (jG, N) Q := by
  have hp := hI.2.2.1
  refine b_X10_fault_0 (c_X10_fault_9 (M0 := N) (p := M 7) (L := M 6 4) hp.2.2.1 ⟨by rw [hN 96 (by omega) (by omega)]; exact hp.1, fun i i0 i1 => by rw [hN 103 (by omega) (by omega)]; exact hp.2.2.2 i i0 i1⟩ (M 6 4).toNat 0 zB _ (by have := hp.2.1; omega) (by omega) okB_z ⟨by simp [jupd, zB], fun i i0 i1 => by simp [zB] at i1; omega, fun q => absurd rfl q⟩ ⟨fun c g1 g2 g3 g4 => by rw [jupd_c, if_neg g1], fun j g => by simp [jupd, g]⟩ hq)
theorem c_X10_refusal {N : Nat → Int → Int} (hI : Inv M) (hN : ∀ c, 96 ≤ c → c ≠ 109 → N c = M c) (hq5 : Vof M ≠ -6 → ∀ M', mP N M' → Q (some (jI (-5))) (jG, M')) (hq : Vof M = -6 → ∀ M', mP N M' → cM M' (Aof M) → mD M' (Aof M) → M' 96 23 = Aof M 8 0 → M' 96 24 = Aof M 8 1 → M' 96 16 = Bof M 0 0 → Q (some (jI (if Aof M 8 0 = -6 then -6 else -3))) (jG, M')) : J l z X (d + 6) mX10_refusal (0, 0) 0 [jR 96] [] (jG, N) Q := by
  obtain ⟨ob, l0, l1⟩ := Bof_ok hI
  refine b_X10_refusal_0 (b_X10_keepNow_0 (c_X10_keepNow_2 (M := N) 6 0 N (by omega) (by omega) (fun _ _ => rfl) (fun j j0 j1 => by omega) (fun M1 f1 g1 g2 g3 g4 => b_X10_refusal_4 ?_)))
  have hN1 : ∀ c, 96 ≤ c → c ≠ 109 → M1 c = M c := fun c h1 h2 => (f1 c h2).trans (hN c h1 h2)
  refine c_X10_fault hI hN1 (fun M2 r2 f2 => ?_)
  have hmp : mP N M2 := by
    refine ⟨fun c hc => ?_, fun j h0 h1 h3 h16 h17 h18 h19 h23 h24 => ?_, fun j j0 j1 => ?_, ?_, ?_, ?_⟩
    · rw [f2.1 c (by omega) (by omega) (by omega) (by omega)]
      exact f1 c (by omega)
    · rw [f2.2 j h16, f1 96 (by omega)]
    · rw [f2.1 109 (by omega) (by omega) (by omega) (by omega)]
      exact g1 j j0 j1
    · rw [f2.1 109 (by omega) (by omega) (by omega) (by omega)]; exact g2
    · rw [f2.1 109 (by omega) (by omega) (by omega) (by omega)]; exact g3
    · rw [f2.1 109 (by omega) (by omega) (by omega) (by omega)]; exact g4
  refine b_X10_refusal_8 (fun hv => ?_) (fun hv => hq5 (by omega) M2 hmp)
  have hv6 : Vof M = -6 := by have := Vof_rng hI; omega
  obtain ⟨r16, rK, _⟩ := r2 hv6
  refine b_X10_goDays_0 (b_X10_beginCount_0 (b_X10_goDays_4 ?_))
  generalize hM4 : (jupd (jupd (jupd (jupd (jupd M2 96 17 0) 96 18 (-6)) 96 19 (-6)) 96 23 (-6)) 96 24 (-6)) = M4
  have k1 : ∀ c, c ≠ 96 → M4 c = M2 c := fun c hc => by
    rw [← hM4, jupd_c, if_neg hc, jupd_c, if_neg hc, jupd_c, if_neg hc, jupd_c, if_neg hc, jupd_c, if_neg hc]
  have k2 : ∀ j : Int, j ≠ 17 → j ≠ 18 → j ≠ 19 → j ≠ 23 → j ≠ 24 → M4 96 j = M2 96 j := fun j h1 h2 h3 h4 h5 => by
    rw [← hM4]; simp [jupd, h1, h2, h3, h4, h5]
  have hb4 : ∀ j : Int, j = 0 ∨ j = 1 ∨ j = 2 ∨ j = 3 → M4 96 j = M 96 j := fun j hj => by
    rw [k2 j (by omega) (by omega) (by omega) (by omega) (by omega), f2.2 j (by omega), hN1 96 (by omega) (by omega)]
  have hc4 : ∀ c, c ≠ 96 → c ≠ 104 → c ≠ 105 → c ≠ 106 → c ≠ 109 → M4 c = N c := fun c h1 h2 h3 h4 h5 => by
    rw [k1 c h1, f2.1 c h1 h2 h3 h4, f1 c h5]
  have e16 : M4 96 16 = Bof M 0 0 := by rw [k2 16 (by omega) (by omega) (by omega) (by omega) (by omega)]; exact r16
  refine c_X10_goDays_18 (K := Bof M 1) (Xs := Bof M 2) (Ys := fun i => if Bof M 1 i = 62 then Bof M 3 i else 0) (M0 := M4) (by have := ob.1.2; omega) (fun i i0 i1 => ?_) (Bof M 0 0).toNat 0 M4 (startA M) (by have := ob.1.1; omega) (by omega) (fun _ _ _ _ _ _ => rfl) (fun _ _ _ _ _ _ _ _ _ => rfl) (cM_start hI hb4 ((hc4 97 (by omega) (by omega) (by omega) (by omega) (by omega)).trans (hN 97 (by omega) (by omega))) ((hc4 98 (by omega) (by omega) (by omega) (by omega) (by omega)).trans (hN 98 (by omega) (by omega))) ((hc4 99 (by omega) (by omega) (by omega) (by omega) (by omega)).trans (hN 99 (by omega) (by omega))) ((hc4 100 (by omega) (by omega) (by omega) (by omega) (by omega)).trans (hN 100 (by omega) (by omega)))) (okA_start hI) (okD_start M) (by simp [startA]) ⟨?_, fun i i0 i1 => ?_⟩ ?_ ?_ (by simp [startA]) (by simp [startA]) (fun M5 A5 eA n1 n2 n3 n4 n5 n6 => ?_)
  · have := rK i i0 (by omega)
    rw [k1 104 (by omega), k1 105 (by omega), k1 106 (by omega)]
    exact ⟨this.1, this.2.1, this.2.2, ob.2.2 i i0 (by omega)⟩
  · rw [← hM4]
    simp [jupd, startA]
  · simp [startA] at i1
    omega
  · rw [← hM4]
    simp [jupd]
  · rw [← hM4]
    simp [jupd]
  · have eA5 : A5 = Aof M := by
      rw [eA, runA_congr (Ys := Bof M 3) (fun i hi => if_pos hi)]
      rfl
    rw [eA5] at n1 n2 n3 n4
    have hmp5 : mP N M5 := by
      have e109 : M5 109 = M1 109 := by
        rw [n5 109 (by omega) (by omega) (by omega) (by omega) (by omega), k1 109 (by omega), f2.1 109 (by omega) (by omega) (by omega) (by omega)]
      refine ⟨fun c hc => ?_, fun j h0 h1 h3 h16 h17 h18 h19 h23 h24 => ?_, fun j j0 j1 => ?_, ?_, ?_, ?_⟩
      · rw [n5 c (by omega) (by omega) (by omega) (by omega) (by omega)]
        exact hc4 c (by omega) (by omega) (by omega) (by omega) (by omega)
      · rw [n6 j h0 h1 h3 h17 h18 h19 h23 h24, k2 j h17 h18 h19 h23 h24, f2.2 j h16, f1 96 (by omega)]
      · rw [e109]
        exact g1 j j0 j1
      · rw [e109]; exact g2
      · rw [e109]; exact g3
      · rw [e109]; exact g4
    have e16' : M5 96 16 = Bof M 0 0 := by
      rw [n6 16 (by omega) (by omega) (by omega) (by omega) (by omega) (by omega) (by omega) (by omega)]; exact e16
    have := hq hv6 M5 hmp5 n1 n2 n3 n4 e16'
    have hbad := Aof_bad M
    refine b_X10_refusal_18 (fun g => ?_) (fun g => ?_)
    · rw [if_pos (by omega)] at this
      exact this
    · rw [if_neg (by omega)] at this
      exact this
theorem pr_fault : Pair l z X mX9_fault mX10_fault [jR 0] [jR 96, jN, jN] := by
  intro M hI
  refine b_X9_fault_0 (c_X4_read hI (fun M1 r1 f1 => b_X9_fault_7 ⟨_, _, rfl, rfl, ?_⟩))
  have fr1 : frL M M1 := ⟨fun c hc => f1.1 c (by omega) (by omega) (by omega) (by omega), f1.2⟩
  have hI1 := Inv_frL hI fr1
  rw [← (frL_eq fr1).2.1]
  refine c_X10_fault hI1 (fun _ _ _ => rfl) (fun M2 r2 f2 => ⟨rfl, M2, rfl, Inv_same (fun c i hc => ?_) hI1⟩)
  unfold core at hc
  by_cases e : c = 96
  · subst e
    exact f2.2 i (by omega)
  · rw [f2.1 c e (by omega) (by omega) (by omega)]
theorem pr_judge (a : Int) : Pair l z X mX9_judge mX10_judge [jR 0, jI a, jN] [jR 96, jI a, jN] := by
  intro M hI
  refine b_X9_judge_0 (fun ca => c_X9_liveDays hI (fun hv M1 fr => ?_) (fun hv M1 fr hc ok hd h5 h8 h9 hn => ?_)) (fun ca => ⟨_, _, rfl, rfl, b_X10_judge_0 (fun q => absurd q ca) (fun _ => ⟨rfl, _, rfl, hI⟩)⟩)
  · have hI1 := Inv_frL hI fr
    have eV := (frL_eq fr).2.1
    refine b_X9_judge_16 (fun _ => ⟨_, _, rfl, rfl, ?_⟩) (fun q => absurd rfl q) (fun q => absurd rfl q) (fun q => absurd rfl q)
    refine b_X10_judge_0 (fun _ => c_X10_refusal hI1 (fun _ _ _ => rfl) (fun _ M2 mp => ?_) (fun q => absurd (eV.symm.trans q) hv)) (fun q => absurd ca q)
    refine b_X10_judge_20 (c_X10_back (fun M3 t1 t2 t3 t4 t5 t6 => ?_))
    exact b_X10_judge_23 (fun _ => ⟨rfl, M3, rfl, Inv_back hI1 mp t1 t2 t3 t4 t5 t6⟩) (fun q => absurd rfl q) (fun q => absurd rfl q) (fun q => absurd rfl q)
  · have hI1 := Inv_frL hI fr
    have eV := (frL_eq fr).2.1
    have eA := (frL_eq fr).2.2
    have hbad := Aof_bad M
    have hm : ∀ w : Int, (a = 0 → w = Aof M 8 0) → (a = 1 → w = Aof M 8 1) → (a = 2 → w = if Aof M 8 0 = -6 then Aof M 5 0 else -3) → J l z X 20 mX10_judge (0, 0) 0 [jR 96, jI a, jN] [] (jG, M1) (fun r' μ' => r' = some (jI w) ∧ ∃ M'' : Nat → Int → Int, μ' = (jG, M'') ∧ Inv M'') := by
      intro w w0 w1 w2
      refine b_X10_judge_0 (fun _ => c_X10_refusal hI1 (fun _ _ _ => rfl) (fun q => absurd (eV.trans hv) q) (fun _ M2 mp m1 m2 m3 m4 m5 => ?_)) (fun q => absurd ca q)
      rw [eA] at m1 m2 m3 m4 ⊢
      refine b_X10_judge_20 (c_X10_back (fun M3 t1 t2 t3 t4 t5 t6 => ?_))
      have hI3 := Inv_back hI1 mp t1 t2 t3 t4 t5 t6
      have hgo : J l z X 20 mX10_judge (0, 0) 43 [jR 96, jI a, jI (if Aof M 8 0 = -6 then -6 else -3)] [] (jG, M3) (fun r' μ' => r' = some (jI w) ∧ ∃ M'' : Nat → Int → Int, μ' = (jG, M'') ∧ Inv M'') ∨ (a = 2 ∧ Aof M 8 0 ≠ -6) := by
        by_cases g : a = 2 ∧ Aof M 8 0 ≠ -6
        · exact Or.inr g
        · left
          refine b_X10_judge_43 (fun h1 h2 => ⟨?_, M3, rfl, hI3⟩) (fun h1 h2 => ⟨?_, M3, rfl, hI3⟩) (fun h1 => ⟨?_, M3, rfl, hI3⟩)
          · rw [w2 (by omega), if_pos (by omega), t2 17 (by omega) (by omega) (by omega), m2.1.1]
          · rw [w1 h2, t2 24 (by omega) (by omega) (by omega), m4]
          · rw [w0 h1, t2 23 (by omega) (by omega) (by omega), m3]
      rcases hgo with hgo | ⟨g1, g2⟩
      · refine b_X10_judge_23 (fun q => ?_) (fun _ _ => hgo) (fun _ _ _ => hgo) (fun q1 q2 q3 => ?_)
        · exfalso
          revert q
          split <;> omega
        · have h0 : Aof M 8 0 ≠ -6 := by
            intro h
            rw [if_pos h] at q3
            omega
          refine ⟨?_, M3, rfl, hI3⟩
          rw [w2 (by omega)]
          rw [if_neg h0, if_neg h0]
      · rw [if_neg g2]
        refine b_X10_judge_23 (fun q => absurd q (by omega)) (fun _ q => absurd q (by omega)) (fun _ _ q => absurd rfl q) (fun _ _ _ => ⟨?_, M3, rfl, hI3⟩)
        rw [w2 g1, if_neg g2]
    have h36 : ∀ t : Int, (a = 2 → Aof M 8 0 = -6) → J l z X 20 mX9_judge (0, 0) 36 [jR 0, jI a, jI t] [] (jG, M1) (fun r μ => ∃ (v : Int) (M' : Nat → Int → Int), r = some (jI v) ∧ μ = (jG, M') ∧ J l z X 20 mX10_judge (0, 0) 0 [jR 96, jI a, jN] [] (jG, M') (fun r' μ' => r' = some (jI v) ∧ ∃ M'' : Nat → Int → Int, μ' = (jG, M'') ∧ Inv M'')) := by
      intro t ht
      refine b_X9_judge_36 (fun g1 g2 => ⟨_, _, rfl, rfl, hm _ (fun q => absurd q g2) (fun _ => h9) (fun q => absurd q g1)⟩) (fun g1 g2 => ⟨_, _, rfl, rfl, hm _ (fun _ => h8) (fun q => absurd q (by omega)) (fun q => absurd q g1)⟩) (fun g1 => ⟨_, _, rfl, rfl, hm _ (fun q => absurd q (by omega)) (fun q => absurd q (by omega)) (fun _ => ?_)⟩)
      rw [if_pos (ht g1)]
      exact hd.1.1
    refine b_X9_judge_16 (fun q => ?_) (fun _ g => h36 _ (fun q => absurd q g)) (fun _ g g2 => h36 _ (fun _ => ?_)) (fun _ g g2 => ⟨_, _, rfl, rfl, hm _ (fun q => absurd q (by omega)) (fun q => absurd q (by omega)) (fun _ => ?_)⟩)
    · exfalso
      revert q
      split <;> omega
    · by_cases e : Aof M 8 0 = -6
      · exact e
      · rw [if_neg e] at g2
        exact absurd rfl g2
    · by_cases e : Aof M 8 0 = -6
      · rw [if_pos e] at g2
        omega
      · rw [if_neg e, if_neg e]
end JUDGE
