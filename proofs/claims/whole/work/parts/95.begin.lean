/-! ## the law, from its entry to its loop -/
theorem wc_L_7 : Cond.classLink RL 7 RX9 ∈ jW := jW_mem (jtb 15 (by decide +kernel)) (by decide +kernel)
theorem wc_L_10 : Cond.classLink RL 10 RX10 ∈ jW := jW_mem (jtb 660 (by decide +kernel)) (by decide +kernel)
theorem wmi_L_9 : Cond.methodLink RL 9 yX9_init ∈ jW := jW_mem (jtb 17 (by decide +kernel)) (by decide +kernel)
theorem wmi_L_12 : Cond.methodLink RL 12 yX10_init ∈ jW := jW_mem (jtb 662 (by decide +kernel)) (by decide +kernel)
def jM9 : Nat → Int → Int := (jupd (jupd (jupd (jupd (jupd (jupd (jupd (jupd (jupd (jupd (fun _ _ => 0) (0 + 1) 6 12) (0 + 1) 7 1) (0 + 12) 6 12) (0 + 12) 7 1) (0 + 72) 6 12) (0 + 72) 7 1) (0 + 79) 6 12) (0 + 79) 7 1) (0 + 88) 6 12) (0 + 88) 7 1)
def jM10 : Nat → Int → Int := (jupd (jupd jM9 96 2 12) 96 3 1)
theorem hasB_0 (k : Int) : hasB 0 k = false := by
  by_cases h : 0 ≤ k ∧ k < 6
  · obtain ⟨q, rfl⟩ := jfin (n := 6) h.1 h.2
    have hall : ∀ q : Fin 6, hasB 0 ((q : Nat) : Int) = false := by decide +kernel
    exact hall q
  · exact hasB_o (by omega)
theorem jM10_inv : Inv jM10 := by
  refine ⟨⟨⟨rfl, rfl, rfl, rfl⟩, ?_, fun k k0 k1 => ?_⟩, ⟨rfl, ?_, ?_, fun i i0 i1 => ?_⟩, ⟨rfl, ?_, ?_, fun i i0 i1 => ?_⟩, ⟨rfl, Or.inl rfl, fun h => ?_⟩, ⟨rfl, Or.inl rfl, fun h => ?_⟩⟩
  · show (0 : Int) ≤ 0 ∧ (0 : Int) ≤ 63 ∧ (0 : Int) ≤ 0 ∧ (0 : Int) ≤ 99 ∧ (0 : Int) ≤ 12 ∧ (12 : Int) ≤ 40 ∧ (0 : Int) ≤ 1 ∧ (1 : Int) ≤ 1
    decide
  · refine ⟨⟨rfl, rfl, rfl⟩, fun q => ?_, ?_⟩
    · replace q : hasB 0 k = true := q
      rw [hasB_0] at q
      exact absurd q (by decide)
    · show (0 : Int) ≤ 0 ∧ (0 : Int) ≤ 99 ∧ (0 : Int) ≤ 0 ∧ (0 : Int) ≤ 9 ∧ (0 : Int) ≤ 0 ∧ (0 : Int) ≤ 0 ∧ (0 : Int) ≤ 0 ∧ (0 : Int) ≤ 2 ∧ (0 : Int) ≤ 0 ∧ (0 : Int) ≤ 2
      decide
  · show (0 : Int) ≤ 0
    decide
  · show (0 : Int) ≤ 8
    decide
  · replace i1 : i < 0 := i1
    omega
  · show (0 : Int) ≤ 0
    decide
  · show (0 : Int) ≤ 60
    decide
  · replace i1 : i < 0 := i1
    omega
  · replace h : (0 : Int) = 1 := h
    omega
  · replace h : (0 : Int) = 1 := h
    omega
section LAWBEGIN
variable {l : Launch} {z : Nat} {X : jX} {nm : String} {Q : Option jV → jM → Prop}
theorem lw_begin (hk : ∀ M : Nat → Int → Int, Inv M → J l z X (20 + 1) (mL nm) (0, 0) 18 [jS, jR 0, jR 96, jI 0] [] (jG, M) Q) : J l z X (20 + 1) (mL nm) (121, 128314) 0 [jS, jN, jN, jN] [] ([], fun _ _ => 0) Q := by
  refine J_eqG (G' := [] ++ []) rfl ?_
  refine K_new (b := 0) (120, 128306) rfl rfl (K' := [(13, 8, [none, none, none, none, none, none, none, none])]) (h := 0) rfl rfl jcl_X9 dfv_X9 dL_law_0 wc_L_7 wn_X9 wi_X9 ?_
  refine J_dupR dL_law_3 ?_
  refine K_callI (a1 := (95, 4186)) (h := 0) (mm' := mX9_init) (K1 := []) (K2 := [(13, 8, [some (0 + 1), some (0 + 6), some (0 + 11), some (0 + 19), some (0 + 66), some (0 + 68), some (0 + 71), some (0 + 77)]), (6, 8, [some (0 + 2), some (0 + 3), some (0 + 4), some (0 + 5), none, none, none, none]), (0, 6, []), (0, 6, []), (0, 6, []), (0, 6, []), (9, 6, [some (0 + 7), some (0 + 8), some (0 + 9), some (0 + 10), none, none]), (0, 60, []), (0, 60, []), (0, 60, []), (0, 60, []), (5, 8, [some (0 + 12), some (0 + 17), some (0 + 18), none, none, none, none, none]), (6, 8, [some (0 + 13), some (0 + 14), some (0 + 15), some (0 + 16), none, none, none, none]), (0, 6, []), (0, 6, []), (0, 6, []), (0, 6, []), (0, 6, []), (0, 60, []), (8, 11, [some (0 + 20), some (0 + 21), some (0 + 43), some (0 + 44), some (0 + 63), some (0 + 64), some (0 + 65), none, none, none, none]), (0, 3, []), (3, 21, [some (0 + 22), some (0 + 23), some (0 + 24), some (0 + 25), some (0 + 26), some (0 + 27), some (0 + 28), some (0 + 29), some (0 + 30), some (0 + 31), some (0 + 32), some (0 + 33), some (0 + 34), some (0 + 35), some (0 + 36), some (0 + 37), some (0 + 38), some (0 + 39), some (0 + 40), some (0 + 41), some (0 + 42)]), (0, 13, []), (0, 13, []), (0, 13, []), (0, 13, []), (0, 13, []), (0, 13, []), (0, 13, []), (0, 13, []), (0, 13, []), (0, 13, []), (0, 13, []), (0, 13, []), (0, 13, []), (0, 13, []), (0, 13, []), (0, 13, []), (0, 13, []), (0, 13, []), (0, 13, []), (0, 13, []), (0, 13, []), (0, 21, []), (3, 18, [some (0 + 45), some (0 + 46), some (0 + 47), some (0 + 48), some (0 + 49), some (0 + 50), some (0 + 51), some (0 + 52), some (0 + 53), some (0 + 54), some (0 + 55), some (0 + 56), some (0 + 57), some (0 + 58), some (0 + 59), some (0 + 60), some (0 + 61), some (0 + 62)]), (0, 39, []), (0, 39, []), (0, 39, []), (0, 39, []), (0, 39, []), (0, 39, []), (0, 39, []), (0, 39, []), (0, 39, []), (0, 39, []), (0, 39, []), (0, 39, []), (0, 39, []), (0, 39, []), (0, 39, []), (0, 39, []), (0, 39, []), (0, 39, []), (0, 2556, []), (0, 7, []), (0, 18, []), (10, 3, [some (0 + 67), none, none]), (0, 6, []), (11, 3, [some (0 + 69), some (0 + 70), none]), (0, 8, []), (0, 8, []), (12, 2, [some (0 + 72), none]), (6, 8, [some (0 + 73), some (0 + 74), some (0 + 75), some (0 + 76), none, none, none, none]), (0, 6, []), (0, 6, []), (0, 6, []), (0, 6, []), (4, 2, [some (0 + 78), some (0 + 87)]), (7, 3, [some (0 + 79), some (0 + 84), none]), (6, 8, [some (0 + 80), some (0 + 81), some (0 + 82), some (0 + 83), none, none, none, none]), (0, 6, []), (0, 6, []), (0, 6, []), (0, 6, []), (11, 3, [some (0 + 85), some (0 + 86), none]), (0, 8, []), (0, 8, []), (7, 3, [some (0 + 88), some (0 + 93), none]), (6, 8, [some (0 + 89), some (0 + 90), some (0 + 91), some (0 + 92), none, none, none, none]), (0, 6, []), (0, 6, []), (0, 6, []), (0, 6, []), (11, 3, [some (0 + 94), some (0 + 95), none]), (0, 8, []), (0, 8, [])]) (K' := jG.take 96) (M2 := jM9) (25, 124120) rfl rfl rfl md_X9_init im_X9_init rfl rfl dL_law_4 wmi_L_9 rfl (Nat.le_of_ble_eq_true rfl) (Nat.le_of_ble_eq_true rfl) rfl (fun Q' hk' => c_X9_init (d := 17) (K_len (b := 0) rfl rfl) hk') ?_
  refine J_astore_n dL_law_7 (Nat.le_of_ble_eq_true rfl) ?_
  refine J_eqG (G' := jG.take 96 ++ []) (List.append_nil _).symm ?_
  have hb : (jG.take 96).length = 96 := by decide +kernel
  refine K_new (24, 124082) rfl hb (K' := [(14, 38, [none, none, none, none, none, none, none, none, none, none, none, none, none, none, none, none, none, none, none, none, none, none, none, none, none, none, none, none, none, none, none, none, none, none, none, none, none, none])]) (h := 96) rfl rfl jcl_X10 dfv_X10 dL_law_8 wc_L_10 wn_X10 wi_X10 ?_
  refine J_dupR dL_law_11 ?_
  refine K_callI (a1 := (24, 124082)) (h := 96) (mm' := mX10_init) (K1 := []) (K2 := [(14, 38, [none, none, none, none, some (96 + 1), some (96 + 2), some (96 + 3), some (96 + 4), some (96 + 5), some (96 + 6), none, some (96 + 7), none, some (96 + 8), some (96 + 9), some (96 + 10), none, none, none, none, some (96 + 11), some (96 + 12), some (96 + 13), none, none, some (96 + 14), some (96 + 15), some (96 + 16), some (96 + 17), some (96 + 18), some (96 + 19), some (96 + 20), some (96 + 21), some (96 + 22), some (96 + 23), some (96 + 24), none, none]), (0, 6, []), (0, 6, []), (0, 6, []), (0, 6, []), (0, 8, []), (0, 8, []), (0, 60, []), (0, 60, []), (0, 60, []), (0, 60, []), (0, 100, []), (0, 6, []), (0, 15, []), (0, 3, []), (0, 78, []), (0, 3, []), (0, 234, []), (0, 123032, []), (0, 3, []), (0, 6, []), (1, 100, []), (1, 100, []), (0, 120, []), (2, 2, [])]) (K' := [(14, 38, [none, none, none, none, some (96 + 1), some (96 + 2), some (96 + 3), some (96 + 4), some (96 + 5), some (96 + 6), none, some (96 + 7), none, some (96 + 8), some (96 + 9), some (96 + 10), none, none, none, none, some (96 + 11), some (96 + 12), some (96 + 13), none, none, some (96 + 14), some (96 + 15), some (96 + 16), some (96 + 17), some (96 + 18), some (96 + 19), some (96 + 20), some (96 + 21), some (96 + 22), some (96 + 23), some (96 + 24), none, none]), (0, 6, []), (0, 6, []), (0, 6, []), (0, 6, []), (0, 8, []), (0, 8, []), (0, 60, []), (0, 60, []), (0, 60, []), (0, 60, []), (0, 100, []), (0, 6, []), (0, 15, []), (0, 3, []), (0, 78, []), (0, 3, []), (0, 234, []), (0, 123032, []), (0, 3, []), (0, 6, []), (1, 100, []), (1, 100, []), (0, 120, []), (2, 2, [])]) (M2 := jM10) (0, 0) rfl rfl rfl md_X10_init im_X10_init rfl rfl dL_law_12 wmi_L_12 rfl (Nat.le_of_ble_eq_true rfl) (Nat.le_of_ble_eq_true rfl) rfl (fun Q' hk' => c_X10_init (d := 19) (K_len hb rfl) hk') ?_
  refine J_astore_n dL_law_15 (Nat.le_of_ble_eq_true rfl) ?_
  refine J_iconst dL_law_16 jc_0 ?_
  refine J_istore_n dL_law_17 (Nat.le_of_ble_eq_true rfl) ?_
  refine J_eqG (G' := jG) rfl ?_
  exact hk jM10 jM10_inv
end LAWBEGIN
