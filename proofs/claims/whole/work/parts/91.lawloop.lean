/-! ## the law's loop -/
section LAWLOOP
variable {l : Launch} {z : Nat} {X : jX} {nm : String} {Q : Option jV → jM → Prop}
theorem lw_loop (hX : ∀ j, jIn (X.2.2 j)) (hL : X.2.1 ≤ 3584) (hQ : ∀ M : Nat → Int → Int, Inv M → Q (some (jI 1)) (jG, M)) : ∀ (n : Nat) (i : Int) (M : Nat → Int → Int), (X.2.1 : Int) - i ≤ (n : Int) → 0 ≤ i → i ≤ 10000 → Inv M → J l z X (20 + 1) (mL nm) (0, 0) 18 [jS, jR 0, jR 96, jI i] [] (jG, M) Q := by
  intro n
  induction n with
  | zero =>
    intro i M hn h0 hb hI
    exact (J_iload_n dL_law_18 rfl (J_aload_nS dL_law_19 rfl (J_slen dL_law_20 rfl (J_bipush dL_law_21 jc_7 jb_7 (J_isub dL_law_23 (jInd (by omega)) (J_icmp_gt dL_law_24 (tgt := 976) (by decide) (fun _ => J_iconst dL_law_976 jc_1 (J_zret dL_law_977 rfl (Or.inr rfl) (hQ M hI))) (fun c => absurd c (by omega))))))))
  | succ n ih =>
    intro i M hn h0 hb hI
    refine (J_iload_n dL_law_18 rfl (J_aload_nS dL_law_19 rfl (J_slen dL_law_20 rfl (J_bipush dL_law_21 jc_7 jb_7 (J_isub dL_law_23 (jInd (by omega)) (J_icmp_gt dL_law_24 (tgt := 976) (by decide) (fun _ => J_iconst dL_law_976 jc_1 (J_zret dL_law_977 rfl (Or.inr rfl) (hQ M hI))) (fun c => ?_)))))))
    have h1 : i + 7 ≤ X.2.1 := by omega
    have kk : ∀ M2 : Nat → Int → Int, Inv M2 → J l z X (20 + 1) (mL nm) (0, 0) 970 [jS, jR 0, jR 96, jI i] [] (jG, M2) Q := fun M2 hI2 => J_iinc dL_law_970 rfl jc_7 (jInd (by omega)) (J_goto dL_law_973 (tgt := 18) (by decide) (ih (i + 7) M2 (by omega) (by omega) (by omega) hI2))
    refine (J_aload_nS dL_law_27 rfl (J_iload_n dL_law_28 rfl (J_sld dL_law_29 rfl (by omega) (by omega) (hX _) (J_bipush dL_law_30 jc_31 jb_31 (J_iand dL_law_32 (jsw_L (kk M hI) (lw_case_0 hI hX hL h0 h1 kk) (lw_case_1 hI hX hL h0 h1 kk) (lw_case_2 hI hX hL h0 h1 kk) (lw_case_3 hI hX hL h0 h1 kk) (lw_case_4 hI hX hL h0 h1 kk) (lw_case_5 hI hX hL h0 h1 kk) (lw_case_6 hI hX hL h0 h1 kk) (lw_case_7 hI hX hL h0 h1 kk) (lw_case_8 hI hX hL h0 h1 kk) (lw_case_9 hI hX hL h0 h1 kk) (lw_case_10 hI hX hL h0 h1 kk) (lw_case_11 hI hX hL h0 h1 kk) (lw_case_12 hI hX hL h0 h1 kk) (lw_case_13 hI hX hL h0 h1 kk) (lw_case_14 hI hX hL h0 h1 kk) (lw_case_15 hI hX hL h0 h1 kk) (lw_case_16 hI hX hL h0 h1 kk) (lw_case_17 hI hX hL h0 h1 kk) (lw_case_18 hI hX hL h0 h1 kk) (lw_case_19 hI hX hL h0 h1 kk) (lw_case_20 hI hX hL h0 h1 kk) (lw_case_21 hI hX hL h0 h1 kk) (lw_case_22 hI hX hL h0 h1 kk) (lw_case_23 hI hX hL h0 h1 kk) (lw_case_24 hI hX hL h0 h1 kk) (lw_case_25 hI hX hL h0 h1 kk) (lw_case_26 hI hX hL h0 h1 kk)))))))
end LAWLOOP
