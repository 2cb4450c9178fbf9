/-! ## the law: its words, its switch, its cases -/
abbrev mL (nm : String) : jMt := (⟨RL, nm, "([I)Z"⟩, cL_law, 4, (some .boolean), true)
theorem wm_L_13 : Cond.methodLink RL 13 yX9_one ∈ jW := jW_mem (jtb 281 (by decide +kernel)) (by decide +kernel)
theorem wm_L_17 : Cond.methodLink RL 17 yX10_one ∈ jW := jW_mem (jtb 784 (by decide +kernel)) (by decide +kernel)
theorem wm_L_18 : Cond.methodLink RL 18 yX9_leave ∈ jW := jW_mem (jtb 302 (by decide +kernel)) (by decide +kernel)
theorem wm_L_22 : Cond.methodLink RL 22 yX10_leave ∈ jW := jW_mem (jtb 797 (by decide +kernel)) (by decide +kernel)
theorem wm_L_23 : Cond.methodLink RL 23 yX9_set ∈ jW := jW_mem (jtb 315 (by decide +kernel)) (by decide +kernel)
theorem wm_L_27 : Cond.methodLink RL 27 yX10_set ∈ jW := jW_mem (jtb 805 (by decide +kernel)) (by decide +kernel)
theorem wm_L_28 : Cond.methodLink RL 28 yX9_say ∈ jW := jW_mem (jtb 319 (by decide +kernel)) (by decide +kernel)
theorem wm_L_31 : Cond.methodLink RL 31 yX10_say ∈ jW := jW_mem (jtb 811 (by decide +kernel)) (by decide +kernel)
theorem wm_L_32 : Cond.methodLink RL 32 yX9_wipe ∈ jW := jW_mem (jtb 327 (by decide +kernel)) (by decide +kernel)
theorem wm_L_36 : Cond.methodLink RL 36 yX10_wipe ∈ jW := jW_mem (jtb 817 (by decide +kernel)) (by decide +kernel)
theorem wm_L_37 : Cond.methodLink RL 37 yX9_fault ∈ jW := jW_mem (jtb 331 (by decide +kernel)) (by decide +kernel)
theorem wm_L_40 : Cond.methodLink RL 40 yX10_fault ∈ jW := jW_mem (jtb 821 (by decide +kernel)) (by decide +kernel)
theorem wm_L_41 : Cond.methodLink RL 41 yX9_judge ∈ jW := jW_mem (jtb 346 (by decide +kernel)) (by decide +kernel)
theorem wm_L_44 : Cond.methodLink RL 44 yX10_judge ∈ jW := jW_mem (jtb 838 (by decide +kernel)) (by decide +kernel)
theorem wm_L_45 : Cond.methodLink RL 45 yX9_behind ∈ jW := jW_mem (jtb 417 (by decide +kernel)) (by decide +kernel)
theorem wm_L_48 : Cond.methodLink RL 48 yX10_behind ∈ jW := jW_mem (jtb 895 (by decide +kernel)) (by decide +kernel)
theorem wm_L_49 : Cond.methodLink RL 49 yX9_basket ∈ jW := jW_mem (jtb 421 (by decide +kernel)) (by decide +kernel)
theorem wm_L_52 : Cond.methodLink RL 52 yX10_basket ∈ jW := jW_mem (jtb 899 (by decide +kernel)) (by decide +kernel)
theorem wm_L_53 : Cond.methodLink RL 53 yX9_passed ∈ jW := jW_mem (jtb 425 (by decide +kernel)) (by decide +kernel)
theorem wm_L_56 : Cond.methodLink RL 56 yX10_passed ∈ jW := jW_mem (jtb 903 (by decide +kernel)) (by decide +kernel)
theorem wm_L_57 : Cond.methodLink RL 57 yX9_oldest ∈ jW := jW_mem (jtb 429 (by decide +kernel)) (by decide +kernel)
theorem wm_L_60 : Cond.methodLink RL 60 yX10_oldest ∈ jW := jW_mem (jtb 907 (by decide +kernel)) (by decide +kernel)
theorem wm_L_61 : Cond.methodLink RL 61 yX9_done ∈ jW := jW_mem (jtb 433 (by decide +kernel)) (by decide +kernel)
theorem wm_L_64 : Cond.methodLink RL 64 yX10_done ∈ jW := jW_mem (jtb 911 (by decide +kernel)) (by decide +kernel)
theorem wm_L_65 : Cond.methodLink RL 65 yX9_lasts ∈ jW := jW_mem (jtb 438 (by decide +kernel)) (by decide +kernel)
theorem wm_L_68 : Cond.methodLink RL 68 yX10_lasts ∈ jW := jW_mem (jtb 915 (by decide +kernel)) (by decide +kernel)
theorem wm_L_69 : Cond.methodLink RL 69 yX9_keeps ∈ jW := jW_mem (jtb 442 (by decide +kernel)) (by decide +kernel)
theorem wm_L_72 : Cond.methodLink RL 72 yX10_keeps ∈ jW := jW_mem (jtb 919 (by decide +kernel)) (by decide +kernel)
theorem wm_L_73 : Cond.methodLink RL 73 yX9_plan ∈ jW := jW_mem (jtb 499 (by decide +kernel)) (by decide +kernel)
theorem wm_L_77 : Cond.methodLink RL 77 yX10_plan ∈ jW := jW_mem (jtb 967 (by decide +kernel)) (by decide +kernel)
theorem wm_L_78 : Cond.methodLink RL 78 yX9_envy ∈ jW := jW_mem (jtb 511 (by decide +kernel)) (by decide +kernel)
theorem wm_L_81 : Cond.methodLink RL 81 yX10_envy ∈ jW := jW_mem (jtb 975 (by decide +kernel)) (by decide +kernel)
theorem wm_L_82 : Cond.methodLink RL 82 yX9_refuses ∈ jW := jW_mem (jtb 537 (by decide +kernel)) (by decide +kernel)
theorem wm_L_85 : Cond.methodLink RL 85 yX10_refuses ∈ jW := jW_mem (jtb 988 (by decide +kernel)) (by decide +kernel)
theorem wm_L_86 : Cond.methodLink RL 86 yX9_seen ∈ jW := jW_mem (jtb 543 (by decide +kernel)) (by decide +kernel)
theorem wm_L_89 : Cond.methodLink RL 89 yX10_seen ∈ jW := jW_mem (jtb 993 (by decide +kernel)) (by decide +kernel)
theorem wm_L_90 : Cond.methodLink RL 90 yX9_forget ∈ jW := jW_mem (jtb 551 (by decide +kernel)) (by decide +kernel)
theorem wm_L_93 : Cond.methodLink RL 93 yX10_forget ∈ jW := jW_mem (jtb 997 (by decide +kernel)) (by decide +kernel)
theorem wm_L_94 : Cond.methodLink RL 94 yX9_gave ∈ jW := jW_mem (jtb 555 (by decide +kernel)) (by decide +kernel)
theorem wm_L_97 : Cond.methodLink RL 97 yX10_gave ∈ jW := jW_mem (jtb 1001 (by decide +kernel)) (by decide +kernel)
theorem wm_L_98 : Cond.methodLink RL 98 yX9_ask ∈ jW := jW_mem (jtb 572 (by decide +kernel)) (by decide +kernel)
theorem wm_L_101 : Cond.methodLink RL 101 yX10_ask ∈ jW := jW_mem (jtb 1017 (by decide +kernel)) (by decide +kernel)
theorem wm_L_102 : Cond.methodLink RL 102 yX9_thieves ∈ jW := jW_mem (jtb 581 (by decide +kernel)) (by decide +kernel)
theorem wm_L_106 : Cond.methodLink RL 106 yX10_thieves ∈ jW := jW_mem (jtb 1025 (by decide +kernel)) (by decide +kernel)
theorem wm_L_107 : Cond.methodLink RL 107 yX9_worms ∈ jW := jW_mem (jtb 585 (by decide +kernel)) (by decide +kernel)
theorem wm_L_111 : Cond.methodLink RL 111 yX10_worms ∈ jW := jW_mem (jtb 1029 (by decide +kernel)) (by decide +kernel)
theorem wm_L_112 : Cond.methodLink RL 112 yX9_year ∈ jW := jW_mem (jtb 611 (by decide +kernel)) (by decide +kernel)
theorem wm_L_115 : Cond.methodLink RL 115 yX10_year ∈ jW := jW_mem (jtb 1044 (by decide +kernel)) (by decide +kernel)
theorem wm_L_116 : Cond.methodLink RL 116 yX9_image ∈ jW := jW_mem (jtb 630 (by decide +kernel)) (by decide +kernel)
theorem wm_L_119 : Cond.methodLink RL 119 yX10_image ∈ jW := jW_mem (jtb 1052 (by decide +kernel)) (by decide +kernel)
theorem wm_L_120 : Cond.methodLink RL 120 yX9_restore ∈ jW := jW_mem (jtb 644 (by decide +kernel)) (by decide +kernel)
theorem wm_L_123 : Cond.methodLink RL 123 yX10_restore ∈ jW := jW_mem (jtb 1064 (by decide +kernel)) (by decide +kernel)
theorem wm_L_124 : Cond.methodLink RL 124 yX9_told ∈ jW := jW_mem (jtb 652 (by decide +kernel)) (by decide +kernel)
theorem wm_L_127 : Cond.methodLink RL 127 yX10_told ∈ jW := jW_mem (jtb 1068 (by decide +kernel)) (by decide +kernel)
theorem jc_31 : jIn 31 := ⟨by decide, by decide⟩
theorem jb_31 : (Int8.ofInt 31).toInt32 = Int32.ofInt 31 := by decide +kernel
theorem jsw_L {l : Launch} {z d : Nat} {X : jX} {nm : String} {a : Nat × Nat} {L S : List jV} {μ : jM} {Q : Option jV → jM → Prop} {x : Int} (kd : J l z X d (mL nm) a 970 L S μ Q) (k0 : J l z X d (mL nm) a 156 L S μ Q) (k1 : J l z X d (mL nm) a 209 L S μ Q) (k2 : J l z X d (mL nm) a 232 L S μ Q) (k3 : J l z X d (mL nm) a 265 L S μ Q) (k4 : J l z X d (mL nm) a 288 L S μ Q) (k5 : J l z X d (mL nm) a 301 L S μ Q) (k6 : J l z X d (mL nm) a 314 L S μ Q) (k7 : J l z X d (mL nm) a 337 L S μ Q) (k8 : J l z X d (mL nm) a 370 L S μ Q) (k9 : J l z X d (mL nm) a 383 L S μ Q) (k10 : J l z X d (mL nm) a 406 L S μ Q) (k11 : J l z X d (mL nm) a 429 L S μ Q) (k12 : J l z X d (mL nm) a 442 L S μ Q) (k13 : J l z X d (mL nm) a 475 L S μ Q) (k14 : J l z X d (mL nm) a 528 L S μ Q) (k15 : J l z X d (mL nm) a 603 L S μ Q) (k16 : J l z X d (mL nm) a 636 L S μ Q) (k17 : J l z X d (mL nm) a 659 L S μ Q) (k18 : J l z X d (mL nm) a 692 L S μ Q) (k19 : J l z X d (mL nm) a 705 L S μ Q) (k20 : J l z X d (mL nm) a 728 L S μ Q) (k21 : J l z X d (mL nm) a 751 L S μ Q) (k22 : J l z X d (mL nm) a 794 L S μ Q) (k23 : J l z X d (mL nm) a 858 L S μ Q) (k24 : J l z X d (mL nm) a 901 L S μ Q) (k25 : J l z X d (mL nm) a 924 L S μ Q) (k26 : J l z X d (mL nm) a 947 L S μ Q) : J l z X d (mL nm) a 33 L (jI x :: S) μ Q := by
  refine J_switch (T := fun k => match k with | 0 => 156 | 1 => 209 | 2 => 232 | 3 => 265 | 4 => 288 | 5 => 301 | 6 => 314 | 7 => 337 | 8 => 370 | 9 => 383 | 10 => 406 | 11 => 429 | 12 => 442 | 13 => 475 | 14 => 528 | 15 => 603 | 16 => 636 | 17 => 659 | 18 => 692 | 19 => 705 | 20 => 728 | 21 => 751 | 22 => 794 | 23 => 858 | 24 => 901 | 25 => 924 | _ => 947) dL_law_33 (tgt := 970) (by decide) (fun k hk => ?_) (fun _ => kd) (fun k hk hx => ?_)
  · have hk2 : k < 27 := by omega
    revert hk2
    revert k
    intro k hk hk2
    have hall : ∀ k, k < 27 → ∃ off : Int, (#[123, 176, 199, 232, 255, 268, 281, 304, 337, 350, 373, 396, 409, 442, 495, 570, 603, 626, 659, 672, 695, 718, 761, 825, 868, 891, 914] : Array Int)[k]? = some off ∧ ((33 : Nat) : Int) + off = (((fun k => match k with | 0 => 156 | 1 => 209 | 2 => 232 | 3 => 265 | 4 => 288 | 5 => 301 | 6 => 314 | 7 => 337 | 8 => 370 | 9 => 383 | 10 => 406 | 11 => 429 | 12 => 442 | 13 => 475 | 14 => 528 | 15 => 603 | 16 => 636 | 17 => 659 | 18 => 692 | 19 => 705 | 20 => 728 | 21 => 751 | 22 => 794 | 23 => 858 | 24 => 901 | 25 => 924 | _ => 947 : Nat → Nat) k : Nat) : Int) := by
      intro k hk
      match k, hk with
      | 0, _ => exact ⟨123, rfl, by decide⟩
      | 1, _ => exact ⟨176, rfl, by decide⟩
      | 2, _ => exact ⟨199, rfl, by decide⟩
      | 3, _ => exact ⟨232, rfl, by decide⟩
      | 4, _ => exact ⟨255, rfl, by decide⟩
      | 5, _ => exact ⟨268, rfl, by decide⟩
      | 6, _ => exact ⟨281, rfl, by decide⟩
      | 7, _ => exact ⟨304, rfl, by decide⟩
      | 8, _ => exact ⟨337, rfl, by decide⟩
      | 9, _ => exact ⟨350, rfl, by decide⟩
      | 10, _ => exact ⟨373, rfl, by decide⟩
      | 11, _ => exact ⟨396, rfl, by decide⟩
      | 12, _ => exact ⟨409, rfl, by decide⟩
      | 13, _ => exact ⟨442, rfl, by decide⟩
      | 14, _ => exact ⟨495, rfl, by decide⟩
      | 15, _ => exact ⟨570, rfl, by decide⟩
      | 16, _ => exact ⟨603, rfl, by decide⟩
      | 17, _ => exact ⟨626, rfl, by decide⟩
      | 18, _ => exact ⟨659, rfl, by decide⟩
      | 19, _ => exact ⟨672, rfl, by decide⟩
      | 20, _ => exact ⟨695, rfl, by decide⟩
      | 21, _ => exact ⟨718, rfl, by decide⟩
      | 22, _ => exact ⟨761, rfl, by decide⟩
      | 23, _ => exact ⟨825, rfl, by decide⟩
      | 24, _ => exact ⟨868, rfl, by decide⟩
      | 25, _ => exact ⟨891, rfl, by decide⟩
      | 26, _ => exact ⟨914, rfl, by decide⟩
      | j + 27, h => exact absurd h (by omega)
    exact hall k hk2
  · have hk2 : k < 27 := by omega
    match k, hk2, hx with
    | 0, _, hx => exact k0
    | 1, _, hx => exact k1
    | 2, _, hx => exact k2
    | 3, _, hx => exact k3
    | 4, _, hx => exact k4
    | 5, _, hx => exact k5
    | 6, _, hx => exact k6
    | 7, _, hx => exact k7
    | 8, _, hx => exact k8
    | 9, _, hx => exact k9
    | 10, _, hx => exact k10
    | 11, _, hx => exact k11
    | 12, _, hx => exact k12
    | 13, _, hx => exact k13
    | 14, _, hx => exact k14
    | 15, _, hx => exact k15
    | 16, _, hx => exact k16
    | 17, _, hx => exact k17
    | 18, _, hx => exact k18
    | 19, _, hx => exact k19
    | 20, _, hx => exact k20
    | 21, _, hx => exact k21
    | 22, _, hx => exact k22
    | 23, _, hx => exact k23
    | 24, _, hx => exact k24
    | 25, _, hx => exact k25
    | 26, _, hx => exact k26
    | j + 27, h, _ => exact absurd h (by omega)
section LAWCASE
variable {l : Launch} {z : Nat} {X : jX} {nm : String} {M : Nat → Int → Int} {Q : Option jV → jM → Prop} {i : Int}
theorem lw_case_0 (hI : Inv M) (hX : ∀ j, jIn (X.2.2 j)) (hL : X.2.1 ≤ 3584) (h0 : 0 ≤ i) (h1 : i + 7 ≤ X.2.1) (kk : ∀ M2 : Nat → Int → Int, Inv M2 → J l z X (20 + 1) (mL nm) (0, 0) 970 [jS, jR 0, jR 96, jI i] [] (jG, M2) Q) : J l z X (20 + 1) (mL nm) (0, 0) 156 [jS, jR 0, jR 96, jI i] [] (jG, M) Q :=
  (J_aload_n dL_law_156 rfl (J_aload_nS dL_law_157 rfl (J_iload_n dL_law_158 rfl (J_iconst dL_law_159 jc_1 (J_iadd dL_law_160 (jInd (by omega)) (J_sld dL_law_161 rfl (by omega) (by omega) (hX _) (J_aload_nS dL_law_162 rfl (J_iload_n dL_law_163 rfl (J_iconst dL_law_164 jc_2 (J_iadd dL_law_165 (jInd (by omega)) (J_sld dL_law_166 rfl (by omega) (by omega) (hX _) (J_aload_nS dL_law_167 rfl (J_iload_n dL_law_168 rfl (J_iconst dL_law_169 jc_3 (J_iadd dL_law_170 (jInd (by omega)) (J_sld dL_law_171 rfl (by omega) (by omega) (hX _) (J_aload_nS dL_law_172 rfl (J_iload_n dL_law_173 rfl (J_iconst dL_law_174 jc_4 (J_iadd dL_law_175 (jInd (by omega)) (J_sld dL_law_176 rfl (by omega) (by omega) (hX _) (J_callV (a1 := (0, 0)) (a2 := (0, 0)) (mm' := mX9_one) (S := []) [jI (X.2.2 (i + 1).toNat), jI (X.2.2 (i + 2).toNat), jI (X.2.2 (i + 3).toNat), jI (X.2.2 (i + 4).toNat)] md_X9_one im_X9_one se_X9_one dL_law_177 wm_L_13 jcl_X9.1 rfl g_0 rfl rfl (Nat.le_of_ble_eq_true rfl) (Nat.le_of_ble_eq_true rfl) rfl (J_mono (fun r μ hp => by
    obtain ⟨v, M1, e1, e2, hJ⟩ := hp
    subst e1
    subst e2
    exact (J_aload_n dL_law_180 rfl (J_aload_nS dL_law_181 rfl (J_iload_n dL_law_182 rfl (J_iconst dL_law_183 jc_1 (J_iadd dL_law_184 (jInd (by omega)) (J_sld dL_law_185 rfl (by omega) (by omega) (hX _) (J_aload_nS dL_law_186 rfl (J_iload_n dL_law_187 rfl (J_iconst dL_law_188 jc_2 (J_iadd dL_law_189 (jInd (by omega)) (J_sld dL_law_190 rfl (by omega) (by omega) (hX _) (J_aload_nS dL_law_191 rfl (J_iload_n dL_law_192 rfl (J_iconst dL_law_193 jc_3 (J_iadd dL_law_194 (jInd (by omega)) (J_sld dL_law_195 rfl (by omega) (by omega) (hX _) (J_aload_nS dL_law_196 rfl (J_iload_n dL_law_197 rfl (J_iconst dL_law_198 jc_4 (J_iadd dL_law_199 (jInd (by omega)) (J_sld dL_law_200 rfl (by omega) (by omega) (hX _) (J_callV (a1 := (0, 0)) (a2 := (0, 0)) (mm' := mX10_one) (S := [jI v]) [jI (X.2.2 (i + 1).toNat), jI (X.2.2 (i + 2).toNat), jI (X.2.2 (i + 3).toNat), jI (X.2.2 (i + 4).toNat)] md_X10_one im_X10_one se_X10_one dL_law_201 wm_L_17 jcl_X10.1 rfl g_96 rfl rfl (Nat.le_of_ble_eq_true rfl) (Nat.le_of_ble_eq_true rfl) rfl (J_mono (fun r μ hp => by
      obtain ⟨e1, M2, e2, hI2⟩ := hp
      subst e1
      subst e2
      exact J_icmp_eq dL_law_204 (tgt := 970) (by decide) (fun _ => kk M2 hI2) (fun c => absurd rfl c)) hJ)))))))))))))))))))))))) (pr_one _ _ _ _ M hI))))))))))))))))))))))))
theorem lw_case_1 (hI : Inv M) (hX : ∀ j, jIn (X.2.2 j)) (hL : X.2.1 ≤ 3584) (h0 : 0 ≤ i) (h1 : i + 7 ≤ X.2.1) (kk : ∀ M2 : Nat → Int → Int, Inv M2 → J l z X (20 + 1) (mL nm) (0, 0) 970 [jS, jR 0, jR 96, jI i] [] (jG, M2) Q) : J l z X (20 + 1) (mL nm) (0, 0) 209 [jS, jR 0, jR 96, jI i] [] (jG, M) Q :=
  (J_aload_n dL_law_209 rfl (J_aload_nS dL_law_210 rfl (J_iload_n dL_law_211 rfl (J_iconst dL_law_212 jc_1 (J_iadd dL_law_213 (jInd (by omega)) (J_sld dL_law_214 rfl (by omega) (by omega) (hX _) (J_callV (a1 := (0, 0)) (a2 := (0, 0)) (mm' := mX9_leave) (S := []) [jI (X.2.2 (i + 1).toNat)] md_X9_leave im_X9_leave se_X9_leave dL_law_215 wm_L_18 jcl_X9.1 rfl g_0 rfl rfl (Nat.le_of_ble_eq_true rfl) (Nat.le_of_ble_eq_true rfl) rfl (J_mono (fun r μ hp => by
    obtain ⟨v, M1, e1, e2, hJ⟩ := hp
    subst e1
    subst e2
    exact (J_aload_n dL_law_218 rfl (J_aload_nS dL_law_219 rfl (J_iload_n dL_law_220 rfl (J_iconst dL_law_221 jc_1 (J_iadd dL_law_222 (jInd (by omega)) (J_sld dL_law_223 rfl (by omega) (by omega) (hX _) (J_callV (a1 := (0, 0)) (a2 := (0, 0)) (mm' := mX10_leave) (S := [jI v]) [jI (X.2.2 (i + 1).toNat)] md_X10_leave im_X10_leave se_X10_leave dL_law_224 wm_L_22 jcl_X10.1 rfl g_96 rfl rfl (Nat.le_of_ble_eq_true rfl) (Nat.le_of_ble_eq_true rfl) rfl (J_mono (fun r μ hp => by
      obtain ⟨e1, M2, e2, hI2⟩ := hp
      subst e1
      subst e2
      exact J_icmp_eq dL_law_227 (tgt := 970) (by decide) (fun _ => kk M2 hI2) (fun c => absurd rfl c)) hJ))))))))) (pr_leave _ M hI)))))))))
theorem lw_case_2 (hI : Inv M) (hX : ∀ j, jIn (X.2.2 j)) (hL : X.2.1 ≤ 3584) (h0 : 0 ≤ i) (h1 : i + 7 ≤ X.2.1) (kk : ∀ M2 : Nat → Int → Int, Inv M2 → J l z X (20 + 1) (mL nm) (0, 0) 970 [jS, jR 0, jR 96, jI i] [] (jG, M2) Q) : J l z X (20 + 1) (mL nm) (0, 0) 232 [jS, jR 0, jR 96, jI i] [] (jG, M) Q :=
  (J_aload_n dL_law_232 rfl (J_aload_nS dL_law_233 rfl (J_iload_n dL_law_234 rfl (J_iconst dL_law_235 jc_1 (J_iadd dL_law_236 (jInd (by omega)) (J_sld dL_law_237 rfl (by omega) (by omega) (hX _) (J_aload_nS dL_law_238 rfl (J_iload_n dL_law_239 rfl (J_iconst dL_law_240 jc_2 (J_iadd dL_law_241 (jInd (by omega)) (J_sld dL_law_242 rfl (by omega) (by omega) (hX _) (J_callV (a1 := (0, 0)) (a2 := (0, 0)) (mm' := mX9_set) (S := []) [jI (X.2.2 (i + 1).toNat), jI (X.2.2 (i + 2).toNat)] md_X9_set im_X9_set se_X9_set dL_law_243 wm_L_23 jcl_X9.1 rfl g_0 rfl rfl (Nat.le_of_ble_eq_true rfl) (Nat.le_of_ble_eq_true rfl) rfl (J_mono (fun r μ hp => by
    obtain ⟨v, M1, e1, e2, hJ⟩ := hp
    subst e1
    subst e2
    exact (J_aload_n dL_law_246 rfl (J_aload_nS dL_law_247 rfl (J_iload_n dL_law_248 rfl (J_iconst dL_law_249 jc_1 (J_iadd dL_law_250 (jInd (by omega)) (J_sld dL_law_251 rfl (by omega) (by omega) (hX _) (J_aload_nS dL_law_252 rfl (J_iload_n dL_law_253 rfl (J_iconst dL_law_254 jc_2 (J_iadd dL_law_255 (jInd (by omega)) (J_sld dL_law_256 rfl (by omega) (by omega) (hX _) (J_callV (a1 := (0, 0)) (a2 := (0, 0)) (mm' := mX10_set) (S := [jI v]) [jI (X.2.2 (i + 1).toNat), jI (X.2.2 (i + 2).toNat)] md_X10_set im_X10_set se_X10_set dL_law_257 wm_L_27 jcl_X10.1 rfl g_96 rfl rfl (Nat.le_of_ble_eq_true rfl) (Nat.le_of_ble_eq_true rfl) rfl (J_mono (fun r μ hp => by
      obtain ⟨e1, M2, e2, hI2⟩ := hp
      subst e1
      subst e2
      exact J_icmp_eq dL_law_260 (tgt := 970) (by decide) (fun _ => kk M2 hI2) (fun c => absurd rfl c)) hJ)))))))))))))) (pr_set _ _ M hI))))))))))))))
theorem lw_case_3 (hI : Inv M) (hX : ∀ j, jIn (X.2.2 j)) (hL : X.2.1 ≤ 3584) (h0 : 0 ≤ i) (h1 : i + 7 ≤ X.2.1) (kk : ∀ M2 : Nat → Int → Int, Inv M2 → J l z X (20 + 1) (mL nm) (0, 0) 970 [jS, jR 0, jR 96, jI i] [] (jG, M2) Q) : J l z X (20 + 1) (mL nm) (0, 0) 265 [jS, jR 0, jR 96, jI i] [] (jG, M) Q :=
  (J_aload_n dL_law_265 rfl (J_aload_nS dL_law_266 rfl (J_iload_n dL_law_267 rfl (J_iconst dL_law_268 jc_1 (J_iadd dL_law_269 (jInd (by omega)) (J_sld dL_law_270 rfl (by omega) (by omega) (hX _) (J_callV (a1 := (0, 0)) (a2 := (0, 0)) (mm' := mX9_say) (S := []) [jI (X.2.2 (i + 1).toNat)] md_X9_say im_X9_say se_X9_say dL_law_271 wm_L_28 jcl_X9.1 rfl g_0 rfl rfl (Nat.le_of_ble_eq_true rfl) (Nat.le_of_ble_eq_true rfl) rfl (J_mono (fun r μ hp => by
    obtain ⟨v, M1, e1, e2, hJ⟩ := hp
    subst e1
    subst e2
    exact (J_aload_n dL_law_274 rfl (J_aload_nS dL_law_275 rfl (J_iload_n dL_law_276 rfl (J_iconst dL_law_277 jc_1 (J_iadd dL_law_278 (jInd (by omega)) (J_sld dL_law_279 rfl (by omega) (by omega) (hX _) (J_callV (a1 := (0, 0)) (a2 := (0, 0)) (mm' := mX10_say) (S := [jI v]) [jI (X.2.2 (i + 1).toNat)] md_X10_say im_X10_say se_X10_say dL_law_280 wm_L_31 jcl_X10.1 rfl g_96 rfl rfl (Nat.le_of_ble_eq_true rfl) (Nat.le_of_ble_eq_true rfl) rfl (J_mono (fun r μ hp => by
      obtain ⟨e1, M2, e2, hI2⟩ := hp
      subst e1
      subst e2
      exact J_icmp_eq dL_law_283 (tgt := 970) (by decide) (fun _ => kk M2 hI2) (fun c => absurd rfl c)) hJ))))))))) (pr_say _ M hI)))))))))
theorem lw_case_4 (hI : Inv M) (hX : ∀ j, jIn (X.2.2 j)) (hL : X.2.1 ≤ 3584) (h0 : 0 ≤ i) (h1 : i + 7 ≤ X.2.1) (kk : ∀ M2 : Nat → Int → Int, Inv M2 → J l z X (20 + 1) (mL nm) (0, 0) 970 [jS, jR 0, jR 96, jI i] [] (jG, M2) Q) : J l z X (20 + 1) (mL nm) (0, 0) 288 [jS, jR 0, jR 96, jI i] [] (jG, M) Q :=
  (J_aload_n dL_law_288 rfl (J_callV (a1 := (0, 0)) (a2 := (0, 0)) (mm' := mX9_wipe) (S := []) [] md_X9_wipe im_X9_wipe se_X9_wipe dL_law_289 wm_L_32 jcl_X9.1 rfl g_0 rfl rfl (Nat.le_of_ble_eq_true rfl) (Nat.le_of_ble_eq_true rfl) rfl (J_mono (fun r μ hp => by
    obtain ⟨v, M1, e1, e2, hJ⟩ := hp
    subst e1
    subst e2
    exact (J_aload_n dL_law_292 rfl (J_callV (a1 := (0, 0)) (a2 := (0, 0)) (mm' := mX10_wipe) (S := [jI v]) [] md_X10_wipe im_X10_wipe se_X10_wipe dL_law_293 wm_L_36 jcl_X10.1 rfl g_96 rfl rfl (Nat.le_of_ble_eq_true rfl) (Nat.le_of_ble_eq_true rfl) rfl (J_mono (fun r μ hp => by
      obtain ⟨e1, M2, e2, hI2⟩ := hp
      subst e1
      subst e2
      exact J_icmp_eq dL_law_296 (tgt := 970) (by decide) (fun _ => kk M2 hI2) (fun c => absurd rfl c)) hJ)))) (pr_wipe M hI))))
theorem lw_case_5 (hI : Inv M) (hX : ∀ j, jIn (X.2.2 j)) (hL : X.2.1 ≤ 3584) (h0 : 0 ≤ i) (h1 : i + 7 ≤ X.2.1) (kk : ∀ M2 : Nat → Int → Int, Inv M2 → J l z X (20 + 1) (mL nm) (0, 0) 970 [jS, jR 0, jR 96, jI i] [] (jG, M2) Q) : J l z X (20 + 1) (mL nm) (0, 0) 301 [jS, jR 0, jR 96, jI i] [] (jG, M) Q :=
  (J_aload_n dL_law_301 rfl (J_callV (a1 := (0, 0)) (a2 := (0, 0)) (mm' := mX9_fault) (S := []) [] md_X9_fault im_X9_fault se_X9_fault dL_law_302 wm_L_37 jcl_X9.1 rfl g_0 rfl rfl (Nat.le_of_ble_eq_true rfl) (Nat.le_of_ble_eq_true rfl) rfl (J_mono (fun r μ hp => by
    obtain ⟨v, M1, e1, e2, hJ⟩ := hp
    subst e1
    subst e2
    exact (J_aload_n dL_law_305 rfl (J_callV (a1 := (0, 0)) (a2 := (0, 0)) (mm' := mX10_fault) (S := [jI v]) [] md_X10_fault im_X10_fault se_X10_fault dL_law_306 wm_L_40 jcl_X10.1 rfl g_96 rfl rfl (Nat.le_of_ble_eq_true rfl) (Nat.le_of_ble_eq_true rfl) rfl (J_mono (fun r μ hp => by
      obtain ⟨e1, M2, e2, hI2⟩ := hp
      subst e1
      subst e2
      exact J_icmp_eq dL_law_309 (tgt := 970) (by decide) (fun _ => kk M2 hI2) (fun c => absurd rfl c)) hJ)))) (pr_fault M hI))))
theorem lw_case_6 (hI : Inv M) (hX : ∀ j, jIn (X.2.2 j)) (hL : X.2.1 ≤ 3584) (h0 : 0 ≤ i) (h1 : i + 7 ≤ X.2.1) (kk : ∀ M2 : Nat → Int → Int, Inv M2 → J l z X (20 + 1) (mL nm) (0, 0) 970 [jS, jR 0, jR 96, jI i] [] (jG, M2) Q) : J l z X (20 + 1) (mL nm) (0, 0) 314 [jS, jR 0, jR 96, jI i] [] (jG, M) Q :=
  (J_aload_n dL_law_314 rfl (J_aload_nS dL_law_315 rfl (J_iload_n dL_law_316 rfl (J_iconst dL_law_317 jc_1 (J_iadd dL_law_318 (jInd (by omega)) (J_sld dL_law_319 rfl (by omega) (by omega) (hX _) (J_callV (a1 := (0, 0)) (a2 := (0, 0)) (mm' := mX9_judge) (S := []) [jI (X.2.2 (i + 1).toNat)] md_X9_judge im_X9_judge se_X9_judge dL_law_320 wm_L_41 jcl_X9.1 rfl g_0 rfl rfl (Nat.le_of_ble_eq_true rfl) (Nat.le_of_ble_eq_true rfl) rfl (J_mono (fun r μ hp => by
    obtain ⟨v, M1, e1, e2, hJ⟩ := hp
    subst e1
    subst e2
    exact (J_aload_n dL_law_323 rfl (J_aload_nS dL_law_324 rfl (J_iload_n dL_law_325 rfl (J_iconst dL_law_326 jc_1 (J_iadd dL_law_327 (jInd (by omega)) (J_sld dL_law_328 rfl (by omega) (by omega) (hX _) (J_callV (a1 := (0, 0)) (a2 := (0, 0)) (mm' := mX10_judge) (S := [jI v]) [jI (X.2.2 (i + 1).toNat)] md_X10_judge im_X10_judge se_X10_judge dL_law_329 wm_L_44 jcl_X10.1 rfl g_96 rfl rfl (Nat.le_of_ble_eq_true rfl) (Nat.le_of_ble_eq_true rfl) rfl (J_mono (fun r μ hp => by
      obtain ⟨e1, M2, e2, hI2⟩ := hp
      subst e1
      subst e2
      exact J_icmp_eq dL_law_332 (tgt := 970) (by decide) (fun _ => kk M2 hI2) (fun c => absurd rfl c)) hJ))))))))) (pr_judge _ M hI)))))))))
theorem lw_case_7 (hI : Inv M) (hX : ∀ j, jIn (X.2.2 j)) (hL : X.2.1 ≤ 3584) (h0 : 0 ≤ i) (h1 : i + 7 ≤ X.2.1) (kk : ∀ M2 : Nat → Int → Int, Inv M2 → J l z X (20 + 1) (mL nm) (0, 0) 970 [jS, jR 0, jR 96, jI i] [] (jG, M2) Q) : J l z X (20 + 1) (mL nm) (0, 0) 337 [jS, jR 0, jR 96, jI i] [] (jG, M) Q :=
  (J_aload_n dL_law_337 rfl (J_aload_nS dL_law_338 rfl (J_iload_n dL_law_339 rfl (J_iconst dL_law_340 jc_1 (J_iadd dL_law_341 (jInd (by omega)) (J_sld dL_law_342 rfl (by omega) (by omega) (hX _) (J_aload_nS dL_law_343 rfl (J_iload_n dL_law_344 rfl (J_iconst dL_law_345 jc_2 (J_iadd dL_law_346 (jInd (by omega)) (J_sld dL_law_347 rfl (by omega) (by omega) (hX _) (J_callV (a1 := (0, 0)) (a2 := (0, 0)) (mm' := mX9_behind) (S := []) [jI (X.2.2 (i + 1).toNat), jI (X.2.2 (i + 2).toNat)] md_X9_behind im_X9_behind se_X9_behind dL_law_348 wm_L_45 jcl_X9.1 rfl g_0 rfl rfl (Nat.le_of_ble_eq_true rfl) (Nat.le_of_ble_eq_true rfl) rfl (J_mono (fun r μ hp => by
    obtain ⟨v, M1, e1, e2, hJ⟩ := hp
    subst e1
    subst e2
    exact (J_aload_n dL_law_351 rfl (J_aload_nS dL_law_352 rfl (J_iload_n dL_law_353 rfl (J_iconst dL_law_354 jc_1 (J_iadd dL_law_355 (jInd (by omega)) (J_sld dL_law_356 rfl (by omega) (by omega) (hX _) (J_aload_nS dL_law_357 rfl (J_iload_n dL_law_358 rfl (J_iconst dL_law_359 jc_2 (J_iadd dL_law_360 (jInd (by omega)) (J_sld dL_law_361 rfl (by omega) (by omega) (hX _) (J_callV (a1 := (0, 0)) (a2 := (0, 0)) (mm' := mX10_behind) (S := [jI v]) [jI (X.2.2 (i + 1).toNat), jI (X.2.2 (i + 2).toNat)] md_X10_behind im_X10_behind se_X10_behind dL_law_362 wm_L_48 jcl_X10.1 rfl g_96 rfl rfl (Nat.le_of_ble_eq_true rfl) (Nat.le_of_ble_eq_true rfl) rfl (J_mono (fun r μ hp => by
      obtain ⟨e1, M2, e2, hI2⟩ := hp
      subst e1
      subst e2
      exact J_icmp_eq dL_law_365 (tgt := 970) (by decide) (fun _ => kk M2 hI2) (fun c => absurd rfl c)) hJ)))))))))))))) (pr_behind _ _ M hI))))))))))))))
theorem lw_case_8 (hI : Inv M) (hX : ∀ j, jIn (X.2.2 j)) (hL : X.2.1 ≤ 3584) (h0 : 0 ≤ i) (h1 : i + 7 ≤ X.2.1) (kk : ∀ M2 : Nat → Int → Int, Inv M2 → J l z X (20 + 1) (mL nm) (0, 0) 970 [jS, jR 0, jR 96, jI i] [] (jG, M2) Q) : J l z X (20 + 1) (mL nm) (0, 0) 370 [jS, jR 0, jR 96, jI i] [] (jG, M) Q :=
  (J_aload_n dL_law_370 rfl (J_callV (a1 := (0, 0)) (a2 := (0, 0)) (mm' := mX9_basket) (S := []) [] md_X9_basket im_X9_basket se_X9_basket dL_law_371 wm_L_49 jcl_X9.1 rfl g_0 rfl rfl (Nat.le_of_ble_eq_true rfl) (Nat.le_of_ble_eq_true rfl) rfl (J_mono (fun r μ hp => by
    obtain ⟨v, M1, e1, e2, hJ⟩ := hp
    subst e1
    subst e2
    exact (J_aload_n dL_law_374 rfl (J_callV (a1 := (0, 0)) (a2 := (0, 0)) (mm' := mX10_basket) (S := [jI v]) [] md_X10_basket im_X10_basket se_X10_basket dL_law_375 wm_L_52 jcl_X10.1 rfl g_96 rfl rfl (Nat.le_of_ble_eq_true rfl) (Nat.le_of_ble_eq_true rfl) rfl (J_mono (fun r μ hp => by
      obtain ⟨e1, M2, e2, hI2⟩ := hp
      subst e1
      subst e2
      exact J_icmp_eq dL_law_378 (tgt := 970) (by decide) (fun _ => kk M2 hI2) (fun c => absurd rfl c)) hJ)))) (pr_basket M hI))))
theorem lw_case_9 (hI : Inv M) (hX : ∀ j, jIn (X.2.2 j)) (hL : X.2.1 ≤ 3584) (h0 : 0 ≤ i) (h1 : i + 7 ≤ X.2.1) (kk : ∀ M2 : Nat → Int → Int, Inv M2 → J l z X (20 + 1) (mL nm) (0, 0) 970 [jS, jR 0, jR 96, jI i] [] (jG, M2) Q) : J l z X (20 + 1) (mL nm) (0, 0) 383 [jS, jR 0, jR 96, jI i] [] (jG, M) Q :=
  (J_aload_n dL_law_383 rfl (J_aload_nS dL_law_384 rfl (J_iload_n dL_law_385 rfl (J_iconst dL_law_386 jc_1 (J_iadd dL_law_387 (jInd (by omega)) (J_sld dL_law_388 rfl (by omega) (by omega) (hX _) (J_callV (a1 := (0, 0)) (a2 := (0, 0)) (mm' := mX9_passed) (S := []) [jI (X.2.2 (i + 1).toNat)] md_X9_passed im_X9_passed se_X9_passed dL_law_389 wm_L_53 jcl_X9.1 rfl g_0 rfl rfl (Nat.le_of_ble_eq_true rfl) (Nat.le_of_ble_eq_true rfl) rfl (J_mono (fun r μ hp => by
    obtain ⟨v, M1, e1, e2, hJ⟩ := hp
    subst e1
    subst e2
    exact (J_aload_n dL_law_392 rfl (J_aload_nS dL_law_393 rfl (J_iload_n dL_law_394 rfl (J_iconst dL_law_395 jc_1 (J_iadd dL_law_396 (jInd (by omega)) (J_sld dL_law_397 rfl (by omega) (by omega) (hX _) (J_callV (a1 := (0, 0)) (a2 := (0, 0)) (mm' := mX10_passed) (S := [jI v]) [jI (X.2.2 (i + 1).toNat)] md_X10_passed im_X10_passed se_X10_passed dL_law_398 wm_L_56 jcl_X10.1 rfl g_96 rfl rfl (Nat.le_of_ble_eq_true rfl) (Nat.le_of_ble_eq_true rfl) rfl (J_mono (fun r μ hp => by
      obtain ⟨e1, M2, e2, hI2⟩ := hp
      subst e1
      subst e2
      exact J_icmp_eq dL_law_401 (tgt := 970) (by decide) (fun _ => kk M2 hI2) (fun c => absurd rfl c)) hJ))))))))) (pr_passed _ M hI)))))))))
theorem lw_case_10 (hI : Inv M) (hX : ∀ j, jIn (X.2.2 j)) (hL : X.2.1 ≤ 3584) (h0 : 0 ≤ i) (h1 : i + 7 ≤ X.2.1) (kk : ∀ M2 : Nat → Int → Int, Inv M2 → J l z X (20 + 1) (mL nm) (0, 0) 970 [jS, jR 0, jR 96, jI i] [] (jG, M2) Q) : J l z X (20 + 1) (mL nm) (0, 0) 406 [jS, jR 0, jR 96, jI i] [] (jG, M) Q :=
  (J_aload_n dL_law_406 rfl (J_aload_nS dL_law_407 rfl (J_iload_n dL_law_408 rfl (J_iconst dL_law_409 jc_1 (J_iadd dL_law_410 (jInd (by omega)) (J_sld dL_law_411 rfl (by omega) (by omega) (hX _) (J_callV (a1 := (0, 0)) (a2 := (0, 0)) (mm' := mX9_oldest) (S := []) [jI (X.2.2 (i + 1).toNat)] md_X9_oldest im_X9_oldest se_X9_oldest dL_law_412 wm_L_57 jcl_X9.1 rfl g_0 rfl rfl (Nat.le_of_ble_eq_true rfl) (Nat.le_of_ble_eq_true rfl) rfl (J_mono (fun r μ hp => by
    obtain ⟨v, M1, e1, e2, hJ⟩ := hp
    subst e1
    subst e2
    exact (J_aload_n dL_law_415 rfl (J_aload_nS dL_law_416 rfl (J_iload_n dL_law_417 rfl (J_iconst dL_law_418 jc_1 (J_iadd dL_law_419 (jInd (by omega)) (J_sld dL_law_420 rfl (by omega) (by omega) (hX _) (J_callV (a1 := (0, 0)) (a2 := (0, 0)) (mm' := mX10_oldest) (S := [jI v]) [jI (X.2.2 (i + 1).toNat)] md_X10_oldest im_X10_oldest se_X10_oldest dL_law_421 wm_L_60 jcl_X10.1 rfl g_96 rfl rfl (Nat.le_of_ble_eq_true rfl) (Nat.le_of_ble_eq_true rfl) rfl (J_mono (fun r μ hp => by
      obtain ⟨e1, M2, e2, hI2⟩ := hp
      subst e1
      subst e2
      exact J_icmp_eq dL_law_424 (tgt := 970) (by decide) (fun _ => kk M2 hI2) (fun c => absurd rfl c)) hJ))))))))) (pr_oldest _ M hI)))))))))
theorem lw_case_11 (hI : Inv M) (hX : ∀ j, jIn (X.2.2 j)) (hL : X.2.1 ≤ 3584) (h0 : 0 ≤ i) (h1 : i + 7 ≤ X.2.1) (kk : ∀ M2 : Nat → Int → Int, Inv M2 → J l z X (20 + 1) (mL nm) (0, 0) 970 [jS, jR 0, jR 96, jI i] [] (jG, M2) Q) : J l z X (20 + 1) (mL nm) (0, 0) 429 [jS, jR 0, jR 96, jI i] [] (jG, M) Q :=
  (J_aload_n dL_law_429 rfl (J_callV (a1 := (0, 0)) (a2 := (0, 0)) (mm' := mX9_done) (S := []) [] md_X9_done im_X9_done se_X9_done dL_law_430 wm_L_61 jcl_X9.1 rfl g_0 rfl rfl (Nat.le_of_ble_eq_true rfl) (Nat.le_of_ble_eq_true rfl) rfl (J_mono (fun r μ hp => by
    obtain ⟨v, M1, e1, e2, hJ⟩ := hp
    subst e1
    subst e2
    exact (J_aload_n dL_law_433 rfl (J_callV (a1 := (0, 0)) (a2 := (0, 0)) (mm' := mX10_done) (S := [jI v]) [] md_X10_done im_X10_done se_X10_done dL_law_434 wm_L_64 jcl_X10.1 rfl g_96 rfl rfl (Nat.le_of_ble_eq_true rfl) (Nat.le_of_ble_eq_true rfl) rfl (J_mono (fun r μ hp => by
      obtain ⟨e1, M2, e2, hI2⟩ := hp
      subst e1
      subst e2
      exact J_icmp_eq dL_law_437 (tgt := 970) (by decide) (fun _ => kk M2 hI2) (fun c => absurd rfl c)) hJ)))) (pr_done M hI))))
theorem lw_case_12 (hI : Inv M) (hX : ∀ j, jIn (X.2.2 j)) (hL : X.2.1 ≤ 3584) (h0 : 0 ≤ i) (h1 : i + 7 ≤ X.2.1) (kk : ∀ M2 : Nat → Int → Int, Inv M2 → J l z X (20 + 1) (mL nm) (0, 0) 970 [jS, jR 0, jR 96, jI i] [] (jG, M2) Q) : J l z X (20 + 1) (mL nm) (0, 0) 442 [jS, jR 0, jR 96, jI i] [] (jG, M) Q :=
  (J_aload_n dL_law_442 rfl (J_aload_nS dL_law_443 rfl (J_iload_n dL_law_444 rfl (J_iconst dL_law_445 jc_1 (J_iadd dL_law_446 (jInd (by omega)) (J_sld dL_law_447 rfl (by omega) (by omega) (hX _) (J_aload_nS dL_law_448 rfl (J_iload_n dL_law_449 rfl (J_iconst dL_law_450 jc_2 (J_iadd dL_law_451 (jInd (by omega)) (J_sld dL_law_452 rfl (by omega) (by omega) (hX _) (J_callV (a1 := (0, 0)) (a2 := (0, 0)) (mm' := mX9_lasts) (S := []) [jI (X.2.2 (i + 1).toNat), jI (X.2.2 (i + 2).toNat)] md_X9_lasts im_X9_lasts se_X9_lasts dL_law_453 wm_L_65 jcl_X9.1 rfl g_0 rfl rfl (Nat.le_of_ble_eq_true rfl) (Nat.le_of_ble_eq_true rfl) rfl (J_mono (fun r μ hp => by
    obtain ⟨v, M1, e1, e2, hJ⟩ := hp
    subst e1
    subst e2
    exact (J_aload_n dL_law_456 rfl (J_aload_nS dL_law_457 rfl (J_iload_n dL_law_458 rfl (J_iconst dL_law_459 jc_1 (J_iadd dL_law_460 (jInd (by omega)) (J_sld dL_law_461 rfl (by omega) (by omega) (hX _) (J_aload_nS dL_law_462 rfl (J_iload_n dL_law_463 rfl (J_iconst dL_law_464 jc_2 (J_iadd dL_law_465 (jInd (by omega)) (J_sld dL_law_466 rfl (by omega) (by omega) (hX _) (J_callV (a1 := (0, 0)) (a2 := (0, 0)) (mm' := mX10_lasts) (S := [jI v]) [jI (X.2.2 (i + 1).toNat), jI (X.2.2 (i + 2).toNat)] md_X10_lasts im_X10_lasts se_X10_lasts dL_law_467 wm_L_68 jcl_X10.1 rfl g_96 rfl rfl (Nat.le_of_ble_eq_true rfl) (Nat.le_of_ble_eq_true rfl) rfl (J_mono (fun r μ hp => by
      obtain ⟨e1, M2, e2, hI2⟩ := hp
      subst e1
      subst e2
      exact J_icmp_eq dL_law_470 (tgt := 970) (by decide) (fun _ => kk M2 hI2) (fun c => absurd rfl c)) hJ)))))))))))))) (pr_lasts _ _ M hI))))))))))))))
theorem lw_case_13 (hI : Inv M) (hX : ∀ j, jIn (X.2.2 j)) (hL : X.2.1 ≤ 3584) (h0 : 0 ≤ i) (h1 : i + 7 ≤ X.2.1) (kk : ∀ M2 : Nat → Int → Int, Inv M2 → J l z X (20 + 1) (mL nm) (0, 0) 970 [jS, jR 0, jR 96, jI i] [] (jG, M2) Q) : J l z X (20 + 1) (mL nm) (0, 0) 475 [jS, jR 0, jR 96, jI i] [] (jG, M) Q :=
  (J_aload_n dL_law_475 rfl (J_aload_nS dL_law_476 rfl (J_iload_n dL_law_477 rfl (J_iconst dL_law_478 jc_1 (J_iadd dL_law_479 (jInd (by omega)) (J_sld dL_law_480 rfl (by omega) (by omega) (hX _) (J_aload_nS dL_law_481 rfl (J_iload_n dL_law_482 rfl (J_iconst dL_law_483 jc_2 (J_iadd dL_law_484 (jInd (by omega)) (J_sld dL_law_485 rfl (by omega) (by omega) (hX _) (J_aload_nS dL_law_486 rfl (J_iload_n dL_law_487 rfl (J_iconst dL_law_488 jc_3 (J_iadd dL_law_489 (jInd (by omega)) (J_sld dL_law_490 rfl (by omega) (by omega) (hX _) (J_aload_nS dL_law_491 rfl (J_iload_n dL_law_492 rfl (J_iconst dL_law_493 jc_4 (J_iadd dL_law_494 (jInd (by omega)) (J_sld dL_law_495 rfl (by omega) (by omega) (hX _) (J_callV (a1 := (0, 0)) (a2 := (0, 0)) (mm' := mX9_keeps) (S := []) [jI (X.2.2 (i + 1).toNat), jI (X.2.2 (i + 2).toNat), jI (X.2.2 (i + 3).toNat), jI (X.2.2 (i + 4).toNat)] md_X9_keeps im_X9_keeps se_X9_keeps dL_law_496 wm_L_69 jcl_X9.1 rfl g_0 rfl rfl (Nat.le_of_ble_eq_true rfl) (Nat.le_of_ble_eq_true rfl) rfl (J_mono (fun r μ hp => by
    obtain ⟨v, M1, e1, e2, hJ⟩ := hp
    subst e1
    subst e2
    exact (J_aload_n dL_law_499 rfl (J_aload_nS dL_law_500 rfl (J_iload_n dL_law_501 rfl (J_iconst dL_law_502 jc_1 (J_iadd dL_law_503 (jInd (by omega)) (J_sld dL_law_504 rfl (by omega) (by omega) (hX _) (J_aload_nS dL_law_505 rfl (J_iload_n dL_law_506 rfl (J_iconst dL_law_507 jc_2 (J_iadd dL_law_508 (jInd (by omega)) (J_sld dL_law_509 rfl (by omega) (by omega) (hX _) (J_aload_nS dL_law_510 rfl (J_iload_n dL_law_511 rfl (J_iconst dL_law_512 jc_3 (J_iadd dL_law_513 (jInd (by omega)) (J_sld dL_law_514 rfl (by omega) (by omega) (hX _) (J_aload_nS dL_law_515 rfl (J_iload_n dL_law_516 rfl (J_iconst dL_law_517 jc_4 (J_iadd dL_law_518 (jInd (by omega)) (J_sld dL_law_519 rfl (by omega) (by omega) (hX _) (J_callV (a1 := (0, 0)) (a2 := (0, 0)) (mm' := mX10_keeps) (S := [jI v]) [jI (X.2.2 (i + 1).toNat), jI (X.2.2 (i + 2).toNat), jI (X.2.2 (i + 3).toNat), jI (X.2.2 (i + 4).toNat)] md_X10_keeps im_X10_keeps se_X10_keeps dL_law_520 wm_L_72 jcl_X10.1 rfl g_96 rfl rfl (Nat.le_of_ble_eq_true rfl) (Nat.le_of_ble_eq_true rfl) rfl (J_mono (fun r μ hp => by
      obtain ⟨e1, M2, e2, hI2⟩ := hp
      subst e1
      subst e2
      exact J_icmp_eq dL_law_523 (tgt := 970) (by decide) (fun _ => kk M2 hI2) (fun c => absurd rfl c)) hJ)))))))))))))))))))))))) (pr_keeps _ _ _ _ M hI))))))))))))))))))))))))
theorem lw_case_14 (hI : Inv M) (hX : ∀ j, jIn (X.2.2 j)) (hL : X.2.1 ≤ 3584) (h0 : 0 ≤ i) (h1 : i + 7 ≤ X.2.1) (kk : ∀ M2 : Nat → Int → Int, Inv M2 → J l z X (20 + 1) (mL nm) (0, 0) 970 [jS, jR 0, jR 96, jI i] [] (jG, M2) Q) : J l z X (20 + 1) (mL nm) (0, 0) 528 [jS, jR 0, jR 96, jI i] [] (jG, M) Q :=
  (J_aload_n dL_law_528 rfl (J_aload_nS dL_law_529 rfl (J_iload_n dL_law_530 rfl (J_iconst dL_law_531 jc_1 (J_iadd dL_law_532 (jInd (by omega)) (J_sld dL_law_533 rfl (by omega) (by omega) (hX _) (J_aload_nS dL_law_534 rfl (J_iload_n dL_law_535 rfl (J_iconst dL_law_536 jc_2 (J_iadd dL_law_537 (jInd (by omega)) (J_sld dL_law_538 rfl (by omega) (by omega) (hX _) (J_aload_nS dL_law_539 rfl (J_iload_n dL_law_540 rfl (J_iconst dL_law_541 jc_3 (J_iadd dL_law_542 (jInd (by omega)) (J_sld dL_law_543 rfl (by omega) (by omega) (hX _) (J_aload_nS dL_law_544 rfl (J_iload_n dL_law_545 rfl (J_iconst dL_law_546 jc_4 (J_iadd dL_law_547 (jInd (by omega)) (J_sld dL_law_548 rfl (by omega) (by omega) (hX _) (J_aload_nS dL_law_549 rfl (J_iload_n dL_law_550 rfl (J_iconst dL_law_551 jc_5 (J_iadd dL_law_552 (jInd (by omega)) (J_sld dL_law_553 rfl (by omega) (by omega) (hX _) (J_aload_nS dL_law_554 rfl (J_iload_n dL_law_555 rfl (J_bipush dL_law_556 jc_6 jb_6 (J_iadd dL_law_558 (jInd (by omega)) (J_sld dL_law_559 rfl (by omega) (by omega) (hX _) (J_callV (a1 := (0, 0)) (a2 := (0, 0)) (mm' := mX9_plan) (S := []) [jI (X.2.2 (i + 1).toNat), jI (X.2.2 (i + 2).toNat), jI (X.2.2 (i + 3).toNat), jI (X.2.2 (i + 4).toNat), jI (X.2.2 (i + 5).toNat), jI (X.2.2 (i + 6).toNat)] md_X9_plan im_X9_plan se_X9_plan dL_law_560 wm_L_73 jcl_X9.1 rfl g_0 rfl rfl (Nat.le_of_ble_eq_true rfl) (Nat.le_of_ble_eq_true rfl) rfl (J_mono (fun r μ hp => by
    obtain ⟨v, M1, e1, e2, hJ⟩ := hp
    subst e1
    subst e2
    exact (J_aload_n dL_law_563 rfl (J_aload_nS dL_law_564 rfl (J_iload_n dL_law_565 rfl (J_iconst dL_law_566 jc_1 (J_iadd dL_law_567 (jInd (by omega)) (J_sld dL_law_568 rfl (by omega) (by omega) (hX _) (J_aload_nS dL_law_569 rfl (J_iload_n dL_law_570 rfl (J_iconst dL_law_571 jc_2 (J_iadd dL_law_572 (jInd (by omega)) (J_sld dL_law_573 rfl (by omega) (by omega) (hX _) (J_aload_nS dL_law_574 rfl (J_iload_n dL_law_575 rfl (J_iconst dL_law_576 jc_3 (J_iadd dL_law_577 (jInd (by omega)) (J_sld dL_law_578 rfl (by omega) (by omega) (hX _) (J_aload_nS dL_law_579 rfl (J_iload_n dL_law_580 rfl (J_iconst dL_law_581 jc_4 (J_iadd dL_law_582 (jInd (by omega)) (J_sld dL_law_583 rfl (by omega) (by omega) (hX _) (J_aload_nS dL_law_584 rfl (J_iload_n dL_law_585 rfl (J_iconst dL_law_586 jc_5 (J_iadd dL_law_587 (jInd (by omega)) (J_sld dL_law_588 rfl (by omega) (by omega) (hX _) (J_aload_nS dL_law_589 rfl (J_iload_n dL_law_590 rfl (J_bipush dL_law_591 jc_6 jb_6 (J_iadd dL_law_593 (jInd (by omega)) (J_sld dL_law_594 rfl (by omega) (by omega) (hX _) (J_callV (a1 := (0, 0)) (a2 := (0, 0)) (mm' := mX10_plan) (S := [jI v]) [jI (X.2.2 (i + 1).toNat), jI (X.2.2 (i + 2).toNat), jI (X.2.2 (i + 3).toNat), jI (X.2.2 (i + 4).toNat), jI (X.2.2 (i + 5).toNat), jI (X.2.2 (i + 6).toNat)] md_X10_plan im_X10_plan se_X10_plan dL_law_595 wm_L_77 jcl_X10.1 rfl g_96 rfl rfl (Nat.le_of_ble_eq_true rfl) (Nat.le_of_ble_eq_true rfl) rfl (J_mono (fun r μ hp => by
      obtain ⟨e1, M2, e2, hI2⟩ := hp
      subst e1
      subst e2
      exact J_icmp_eq dL_law_598 (tgt := 970) (by decide) (fun _ => kk M2 hI2) (fun c => absurd rfl c)) hJ)))))))))))))))))))))))))))))))))) (pr_plan _ _ _ _ _ _ M hI))))))))))))))))))))))))))))))))))
theorem lw_case_15 (hI : Inv M) (hX : ∀ j, jIn (X.2.2 j)) (hL : X.2.1 ≤ 3584) (h0 : 0 ≤ i) (h1 : i + 7 ≤ X.2.1) (kk : ∀ M2 : Nat → Int → Int, Inv M2 → J l z X (20 + 1) (mL nm) (0, 0) 970 [jS, jR 0, jR 96, jI i] [] (jG, M2) Q) : J l z X (20 + 1) (mL nm) (0, 0) 603 [jS, jR 0, jR 96, jI i] [] (jG, M) Q :=
  (J_aload_n dL_law_603 rfl (J_aload_nS dL_law_604 rfl (J_iload_n dL_law_605 rfl (J_iconst dL_law_606 jc_1 (J_iadd dL_law_607 (jInd (by omega)) (J_sld dL_law_608 rfl (by omega) (by omega) (hX _) (J_aload_nS dL_law_609 rfl (J_iload_n dL_law_610 rfl (J_iconst dL_law_611 jc_2 (J_iadd dL_law_612 (jInd (by omega)) (J_sld dL_law_613 rfl (by omega) (by omega) (hX _) (J_callV (a1 := (0, 0)) (a2 := (0, 0)) (mm' := mX9_envy) (S := []) [jI (X.2.2 (i + 1).toNat), jI (X.2.2 (i + 2).toNat)] md_X9_envy im_X9_envy se_X9_envy dL_law_614 wm_L_78 jcl_X9.1 rfl g_0 rfl rfl (Nat.le_of_ble_eq_true rfl) (Nat.le_of_ble_eq_true rfl) rfl (J_mono (fun r μ hp => by
    obtain ⟨v, M1, e1, e2, hJ⟩ := hp
    subst e1
    subst e2
    exact (J_aload_n dL_law_617 rfl (J_aload_nS dL_law_618 rfl (J_iload_n dL_law_619 rfl (J_iconst dL_law_620 jc_1 (J_iadd dL_law_621 (jInd (by omega)) (J_sld dL_law_622 rfl (by omega) (by omega) (hX _) (J_aload_nS dL_law_623 rfl (J_iload_n dL_law_624 rfl (J_iconst dL_law_625 jc_2 (J_iadd dL_law_626 (jInd (by omega)) (J_sld dL_law_627 rfl (by omega) (by omega) (hX _) (J_callV (a1 := (0, 0)) (a2 := (0, 0)) (mm' := mX10_envy) (S := [jI v]) [jI (X.2.2 (i + 1).toNat), jI (X.2.2 (i + 2).toNat)] md_X10_envy im_X10_envy se_X10_envy dL_law_628 wm_L_81 jcl_X10.1 rfl g_96 rfl rfl (Nat.le_of_ble_eq_true rfl) (Nat.le_of_ble_eq_true rfl) rfl (J_mono (fun r μ hp => by
      obtain ⟨e1, M2, e2, hI2⟩ := hp
      subst e1
      subst e2
      exact J_icmp_eq dL_law_631 (tgt := 970) (by decide) (fun _ => kk M2 hI2) (fun c => absurd rfl c)) hJ)))))))))))))) (pr_envy _ _ M hI))))))))))))))
theorem lw_case_16 (hI : Inv M) (hX : ∀ j, jIn (X.2.2 j)) (hL : X.2.1 ≤ 3584) (h0 : 0 ≤ i) (h1 : i + 7 ≤ X.2.1) (kk : ∀ M2 : Nat → Int → Int, Inv M2 → J l z X (20 + 1) (mL nm) (0, 0) 970 [jS, jR 0, jR 96, jI i] [] (jG, M2) Q) : J l z X (20 + 1) (mL nm) (0, 0) 636 [jS, jR 0, jR 96, jI i] [] (jG, M) Q :=
  (J_aload_n dL_law_636 rfl (J_aload_nS dL_law_637 rfl (J_iload_n dL_law_638 rfl (J_iconst dL_law_639 jc_1 (J_iadd dL_law_640 (jInd (by omega)) (J_sld dL_law_641 rfl (by omega) (by omega) (hX _) (J_callV (a1 := (0, 0)) (a2 := (0, 0)) (mm' := mX9_refuses) (S := []) [jI (X.2.2 (i + 1).toNat)] md_X9_refuses im_X9_refuses se_X9_refuses dL_law_642 wm_L_82 jcl_X9.1 rfl g_0 rfl rfl (Nat.le_of_ble_eq_true rfl) (Nat.le_of_ble_eq_true rfl) rfl (J_mono (fun r μ hp => by
    obtain ⟨v, M1, e1, e2, hJ⟩ := hp
    subst e1
    subst e2
    exact (J_aload_n dL_law_645 rfl (J_aload_nS dL_law_646 rfl (J_iload_n dL_law_647 rfl (J_iconst dL_law_648 jc_1 (J_iadd dL_law_649 (jInd (by omega)) (J_sld dL_law_650 rfl (by omega) (by omega) (hX _) (J_callV (a1 := (0, 0)) (a2 := (0, 0)) (mm' := mX10_refuses) (S := [jI v]) [jI (X.2.2 (i + 1).toNat)] md_X10_refuses im_X10_refuses se_X10_refuses dL_law_651 wm_L_85 jcl_X10.1 rfl g_96 rfl rfl (Nat.le_of_ble_eq_true rfl) (Nat.le_of_ble_eq_true rfl) rfl (J_mono (fun r μ hp => by
      obtain ⟨e1, M2, e2, hI2⟩ := hp
      subst e1
      subst e2
      exact J_icmp_eq dL_law_654 (tgt := 970) (by decide) (fun _ => kk M2 hI2) (fun c => absurd rfl c)) hJ))))))))) (pr_refuses _ M hI)))))))))
theorem lw_case_17 (hI : Inv M) (hX : ∀ j, jIn (X.2.2 j)) (hL : X.2.1 ≤ 3584) (h0 : 0 ≤ i) (h1 : i + 7 ≤ X.2.1) (kk : ∀ M2 : Nat → Int → Int, Inv M2 → J l z X (20 + 1) (mL nm) (0, 0) 970 [jS, jR 0, jR 96, jI i] [] (jG, M2) Q) : J l z X (20 + 1) (mL nm) (0, 0) 659 [jS, jR 0, jR 96, jI i] [] (jG, M) Q :=
  (J_aload_n dL_law_659 rfl (J_aload_nS dL_law_660 rfl (J_iload_n dL_law_661 rfl (J_iconst dL_law_662 jc_1 (J_iadd dL_law_663 (jInd (by omega)) (J_sld dL_law_664 rfl (by omega) (by omega) (hX _) (J_aload_nS dL_law_665 rfl (J_iload_n dL_law_666 rfl (J_iconst dL_law_667 jc_2 (J_iadd dL_law_668 (jInd (by omega)) (J_sld dL_law_669 rfl (by omega) (by omega) (hX _) (J_callV (a1 := (0, 0)) (a2 := (0, 0)) (mm' := mX9_seen) (S := []) [jI (X.2.2 (i + 1).toNat), jI (X.2.2 (i + 2).toNat)] md_X9_seen im_X9_seen se_X9_seen dL_law_670 wm_L_86 jcl_X9.1 rfl g_0 rfl rfl (Nat.le_of_ble_eq_true rfl) (Nat.le_of_ble_eq_true rfl) rfl (J_mono (fun r μ hp => by
    obtain ⟨v, M1, e1, e2, hJ⟩ := hp
    subst e1
    subst e2
    exact (J_aload_n dL_law_673 rfl (J_aload_nS dL_law_674 rfl (J_iload_n dL_law_675 rfl (J_iconst dL_law_676 jc_1 (J_iadd dL_law_677 (jInd (by omega)) (J_sld dL_law_678 rfl (by omega) (by omega) (hX _) (J_aload_nS dL_law_679 rfl (J_iload_n dL_law_680 rfl (J_iconst dL_law_681 jc_2 (J_iadd dL_law_682 (jInd (by omega)) (J_sld dL_law_683 rfl (by omega) (by omega) (hX _) (J_callV (a1 := (0, 0)) (a2 := (0, 0)) (mm' := mX10_seen) (S := [jI v]) [jI (X.2.2 (i + 1).toNat), jI (X.2.2 (i + 2).toNat)] md_X10_seen im_X10_seen se_X10_seen dL_law_684 wm_L_89 jcl_X10.1 rfl g_96 rfl rfl (Nat.le_of_ble_eq_true rfl) (Nat.le_of_ble_eq_true rfl) rfl (J_mono (fun r μ hp => by
      obtain ⟨e1, M2, e2, hI2⟩ := hp
      subst e1
      subst e2
      exact J_icmp_eq dL_law_687 (tgt := 970) (by decide) (fun _ => kk M2 hI2) (fun c => absurd rfl c)) hJ)))))))))))))) (pr_seen _ _ M hI))))))))))))))
theorem lw_case_18 (hI : Inv M) (hX : ∀ j, jIn (X.2.2 j)) (hL : X.2.1 ≤ 3584) (h0 : 0 ≤ i) (h1 : i + 7 ≤ X.2.1) (kk : ∀ M2 : Nat → Int → Int, Inv M2 → J l z X (20 + 1) (mL nm) (0, 0) 970 [jS, jR 0, jR 96, jI i] [] (jG, M2) Q) : J l z X (20 + 1) (mL nm) (0, 0) 692 [jS, jR 0, jR 96, jI i] [] (jG, M) Q :=
  (J_aload_n dL_law_692 rfl (J_callV (a1 := (0, 0)) (a2 := (0, 0)) (mm' := mX9_forget) (S := []) [] md_X9_forget im_X9_forget se_X9_forget dL_law_693 wm_L_90 jcl_X9.1 rfl g_0 rfl rfl (Nat.le_of_ble_eq_true rfl) (Nat.le_of_ble_eq_true rfl) rfl (J_mono (fun r μ hp => by
    obtain ⟨v, M1, e1, e2, hJ⟩ := hp
    subst e1
    subst e2
    exact (J_aload_n dL_law_696 rfl (J_callV (a1 := (0, 0)) (a2 := (0, 0)) (mm' := mX10_forget) (S := [jI v]) [] md_X10_forget im_X10_forget se_X10_forget dL_law_697 wm_L_93 jcl_X10.1 rfl g_96 rfl rfl (Nat.le_of_ble_eq_true rfl) (Nat.le_of_ble_eq_true rfl) rfl (J_mono (fun r μ hp => by
      obtain ⟨e1, M2, e2, hI2⟩ := hp
      subst e1
      subst e2
      exact J_icmp_eq dL_law_700 (tgt := 970) (by decide) (fun _ => kk M2 hI2) (fun c => absurd rfl c)) hJ)))) (pr_forget M hI))))
theorem lw_case_19 (hI : Inv M) (hX : ∀ j, jIn (X.2.2 j)) (hL : X.2.1 ≤ 3584) (h0 : 0 ≤ i) (h1 : i + 7 ≤ X.2.1) (kk : ∀ M2 : Nat → Int → Int, Inv M2 → J l z X (20 + 1) (mL nm) (0, 0) 970 [jS, jR 0, jR 96, jI i] [] (jG, M2) Q) : J l z X (20 + 1) (mL nm) (0, 0) 705 [jS, jR 0, jR 96, jI i] [] (jG, M) Q :=
  (J_aload_n dL_law_705 rfl (J_aload_nS dL_law_706 rfl (J_iload_n dL_law_707 rfl (J_iconst dL_law_708 jc_1 (J_iadd dL_law_709 (jInd (by omega)) (J_sld dL_law_710 rfl (by omega) (by omega) (hX _) (J_callV (a1 := (0, 0)) (a2 := (0, 0)) (mm' := mX9_gave) (S := []) [jI (X.2.2 (i + 1).toNat)] md_X9_gave im_X9_gave se_X9_gave dL_law_711 wm_L_94 jcl_X9.1 rfl g_0 rfl rfl (Nat.le_of_ble_eq_true rfl) (Nat.le_of_ble_eq_true rfl) rfl (J_mono (fun r μ hp => by
    obtain ⟨v, M1, e1, e2, hJ⟩ := hp
    subst e1
    subst e2
    exact (J_aload_n dL_law_714 rfl (J_aload_nS dL_law_715 rfl (J_iload_n dL_law_716 rfl (J_iconst dL_law_717 jc_1 (J_iadd dL_law_718 (jInd (by omega)) (J_sld dL_law_719 rfl (by omega) (by omega) (hX _) (J_callV (a1 := (0, 0)) (a2 := (0, 0)) (mm' := mX10_gave) (S := [jI v]) [jI (X.2.2 (i + 1).toNat)] md_X10_gave im_X10_gave se_X10_gave dL_law_720 wm_L_97 jcl_X10.1 rfl g_96 rfl rfl (Nat.le_of_ble_eq_true rfl) (Nat.le_of_ble_eq_true rfl) rfl (J_mono (fun r μ hp => by
      obtain ⟨e1, M2, e2, hI2⟩ := hp
      subst e1
      subst e2
      exact J_icmp_eq dL_law_723 (tgt := 970) (by decide) (fun _ => kk M2 hI2) (fun c => absurd rfl c)) hJ))))))))) (pr_gave _ M hI)))))))))
theorem lw_case_20 (hI : Inv M) (hX : ∀ j, jIn (X.2.2 j)) (hL : X.2.1 ≤ 3584) (h0 : 0 ≤ i) (h1 : i + 7 ≤ X.2.1) (kk : ∀ M2 : Nat → Int → Int, Inv M2 → J l z X (20 + 1) (mL nm) (0, 0) 970 [jS, jR 0, jR 96, jI i] [] (jG, M2) Q) : J l z X (20 + 1) (mL nm) (0, 0) 728 [jS, jR 0, jR 96, jI i] [] (jG, M) Q :=
  (J_aload_n dL_law_728 rfl (J_aload_nS dL_law_729 rfl (J_iload_n dL_law_730 rfl (J_iconst dL_law_731 jc_1 (J_iadd dL_law_732 (jInd (by omega)) (J_sld dL_law_733 rfl (by omega) (by omega) (hX _) (J_callV (a1 := (0, 0)) (a2 := (0, 0)) (mm' := mX9_ask) (S := []) [jI (X.2.2 (i + 1).toNat)] md_X9_ask im_X9_ask se_X9_ask dL_law_734 wm_L_98 jcl_X9.1 rfl g_0 rfl rfl (Nat.le_of_ble_eq_true rfl) (Nat.le_of_ble_eq_true rfl) rfl (J_mono (fun r μ hp => by
    obtain ⟨v, M1, e1, e2, hJ⟩ := hp
    subst e1
    subst e2
    exact (J_aload_n dL_law_737 rfl (J_aload_nS dL_law_738 rfl (J_iload_n dL_law_739 rfl (J_iconst dL_law_740 jc_1 (J_iadd dL_law_741 (jInd (by omega)) (J_sld dL_law_742 rfl (by omega) (by omega) (hX _) (J_callV (a1 := (0, 0)) (a2 := (0, 0)) (mm' := mX10_ask) (S := [jI v]) [jI (X.2.2 (i + 1).toNat)] md_X10_ask im_X10_ask se_X10_ask dL_law_743 wm_L_101 jcl_X10.1 rfl g_96 rfl rfl (Nat.le_of_ble_eq_true rfl) (Nat.le_of_ble_eq_true rfl) rfl (J_mono (fun r μ hp => by
      obtain ⟨e1, M2, e2, hI2⟩ := hp
      subst e1
      subst e2
      exact J_icmp_eq dL_law_746 (tgt := 970) (by decide) (fun _ => kk M2 hI2) (fun c => absurd rfl c)) hJ))))))))) (pr_ask _ M hI)))))))))
theorem lw_case_21 (hI : Inv M) (hX : ∀ j, jIn (X.2.2 j)) (hL : X.2.1 ≤ 3584) (h0 : 0 ≤ i) (h1 : i + 7 ≤ X.2.1) (kk : ∀ M2 : Nat → Int → Int, Inv M2 → J l z X (20 + 1) (mL nm) (0, 0) 970 [jS, jR 0, jR 96, jI i] [] (jG, M2) Q) : J l z X (20 + 1) (mL nm) (0, 0) 751 [jS, jR 0, jR 96, jI i] [] (jG, M) Q :=
  (J_aload_n dL_law_751 rfl (J_aload_nS dL_law_752 rfl (J_iload_n dL_law_753 rfl (J_iconst dL_law_754 jc_1 (J_iadd dL_law_755 (jInd (by omega)) (J_sld dL_law_756 rfl (by omega) (by omega) (hX _) (J_aload_nS dL_law_757 rfl (J_iload_n dL_law_758 rfl (J_iconst dL_law_759 jc_2 (J_iadd dL_law_760 (jInd (by omega)) (J_sld dL_law_761 rfl (by omega) (by omega) (hX _) (J_aload_nS dL_law_762 rfl (J_iload_n dL_law_763 rfl (J_iconst dL_law_764 jc_3 (J_iadd dL_law_765 (jInd (by omega)) (J_sld dL_law_766 rfl (by omega) (by omega) (hX _) (J_callV (a1 := (0, 0)) (a2 := (0, 0)) (mm' := mX9_thieves) (S := []) [jI (X.2.2 (i + 1).toNat), jI (X.2.2 (i + 2).toNat), jI (X.2.2 (i + 3).toNat)] md_X9_thieves im_X9_thieves se_X9_thieves dL_law_767 wm_L_102 jcl_X9.1 rfl g_0 rfl rfl (Nat.le_of_ble_eq_true rfl) (Nat.le_of_ble_eq_true rfl) rfl (J_mono (fun r μ hp => by
    obtain ⟨v, M1, e1, e2, hJ⟩ := hp
    subst e1
    subst e2
    exact (J_aload_n dL_law_770 rfl (J_aload_nS dL_law_771 rfl (J_iload_n dL_law_772 rfl (J_iconst dL_law_773 jc_1 (J_iadd dL_law_774 (jInd (by omega)) (J_sld dL_law_775 rfl (by omega) (by omega) (hX _) (J_aload_nS dL_law_776 rfl (J_iload_n dL_law_777 rfl (J_iconst dL_law_778 jc_2 (J_iadd dL_law_779 (jInd (by omega)) (J_sld dL_law_780 rfl (by omega) (by omega) (hX _) (J_aload_nS dL_law_781 rfl (J_iload_n dL_law_782 rfl (J_iconst dL_law_783 jc_3 (J_iadd dL_law_784 (jInd (by omega)) (J_sld dL_law_785 rfl (by omega) (by omega) (hX _) (J_callV (a1 := (0, 0)) (a2 := (0, 0)) (mm' := mX10_thieves) (S := [jI v]) [jI (X.2.2 (i + 1).toNat), jI (X.2.2 (i + 2).toNat), jI (X.2.2 (i + 3).toNat)] md_X10_thieves im_X10_thieves se_X10_thieves dL_law_786 wm_L_106 jcl_X10.1 rfl g_96 rfl rfl (Nat.le_of_ble_eq_true rfl) (Nat.le_of_ble_eq_true rfl) rfl (J_mono (fun r μ hp => by
      obtain ⟨e1, M2, e2, hI2⟩ := hp
      subst e1
      subst e2
      exact J_icmp_eq dL_law_789 (tgt := 970) (by decide) (fun _ => kk M2 hI2) (fun c => absurd rfl c)) hJ))))))))))))))))))) (pr_thieves _ _ _ M hI)))))))))))))))))))
theorem lw_case_22 (hI : Inv M) (hX : ∀ j, jIn (X.2.2 j)) (hL : X.2.1 ≤ 3584) (h0 : 0 ≤ i) (h1 : i + 7 ≤ X.2.1) (kk : ∀ M2 : Nat → Int → Int, Inv M2 → J l z X (20 + 1) (mL nm) (0, 0) 970 [jS, jR 0, jR 96, jI i] [] (jG, M2) Q) : J l z X (20 + 1) (mL nm) (0, 0) 794 [jS, jR 0, jR 96, jI i] [] (jG, M) Q :=
  (J_aload_n dL_law_794 rfl (J_aload_nS dL_law_795 rfl (J_iload_n dL_law_796 rfl (J_iconst dL_law_797 jc_1 (J_iadd dL_law_798 (jInd (by omega)) (J_sld dL_law_799 rfl (by omega) (by omega) (hX _) (J_aload_nS dL_law_800 rfl (J_iload_n dL_law_801 rfl (J_iconst dL_law_802 jc_2 (J_iadd dL_law_803 (jInd (by omega)) (J_sld dL_law_804 rfl (by omega) (by omega) (hX _) (J_aload_nS dL_law_805 rfl (J_iload_n dL_law_806 rfl (J_iconst dL_law_807 jc_3 (J_iadd dL_law_808 (jInd (by omega)) (J_sld dL_law_809 rfl (by omega) (by omega) (hX _) (J_aload_nS dL_law_810 rfl (J_iload_n dL_law_811 rfl (J_iconst dL_law_812 jc_4 (J_iadd dL_law_813 (jInd (by omega)) (J_sld dL_law_814 rfl (by omega) (by omega) (hX _) (J_aload_nS dL_law_815 rfl (J_iload_n dL_law_816 rfl (J_iconst dL_law_817 jc_5 (J_iadd dL_law_818 (jInd (by omega)) (J_sld dL_law_819 rfl (by omega) (by omega) (hX _) (J_callV (a1 := (0, 0)) (a2 := (0, 0)) (mm' := mX9_worms) (S := []) [jI (X.2.2 (i + 1).toNat), jI (X.2.2 (i + 2).toNat), jI (X.2.2 (i + 3).toNat), jI (X.2.2 (i + 4).toNat), jI (X.2.2 (i + 5).toNat)] md_X9_worms im_X9_worms se_X9_worms dL_law_820 wm_L_107 jcl_X9.1 rfl g_0 rfl rfl (Nat.le_of_ble_eq_true rfl) (Nat.le_of_ble_eq_true rfl) rfl (J_mono (fun r μ hp => by
    obtain ⟨v, M1, e1, e2, hJ⟩ := hp
    subst e1
    subst e2
    exact (J_aload_n dL_law_823 rfl (J_aload_nS dL_law_824 rfl (J_iload_n dL_law_825 rfl (J_iconst dL_law_826 jc_1 (J_iadd dL_law_827 (jInd (by omega)) (J_sld dL_law_828 rfl (by omega) (by omega) (hX _) (J_aload_nS dL_law_829 rfl (J_iload_n dL_law_830 rfl (J_iconst dL_law_831 jc_2 (J_iadd dL_law_832 (jInd (by omega)) (J_sld dL_law_833 rfl (by omega) (by omega) (hX _) (J_aload_nS dL_law_834 rfl (J_iload_n dL_law_835 rfl (J_iconst dL_law_836 jc_3 (J_iadd dL_law_837 (jInd (by omega)) (J_sld dL_law_838 rfl (by omega) (by omega) (hX _) (J_aload_nS dL_law_839 rfl (J_iload_n dL_law_840 rfl (J_iconst dL_law_841 jc_4 (J_iadd dL_law_842 (jInd (by omega)) (J_sld dL_law_843 rfl (by omega) (by omega) (hX _) (J_aload_nS dL_law_844 rfl (J_iload_n dL_law_845 rfl (J_iconst dL_law_846 jc_5 (J_iadd dL_law_847 (jInd (by omega)) (J_sld dL_law_848 rfl (by omega) (by omega) (hX _) (J_callV (a1 := (0, 0)) (a2 := (0, 0)) (mm' := mX10_worms) (S := [jL v]) [jI (X.2.2 (i + 1).toNat), jI (X.2.2 (i + 2).toNat), jI (X.2.2 (i + 3).toNat), jI (X.2.2 (i + 4).toNat), jI (X.2.2 (i + 5).toNat)] md_X10_worms im_X10_worms se_X10_worms dL_law_849 wm_L_111 jcl_X10.1 rfl g_96 rfl rfl (Nat.le_of_ble_eq_true rfl) (Nat.le_of_ble_eq_true rfl) rfl (J_mono (fun r μ hp => by
      obtain ⟨e1, M2, e2, hI2⟩ := hp
      subst e1
      subst e2
      exact J_lif_eq dL_law_852 dL_law_853 (tgt := 970) (by decide) (fun _ => kk M2 hI2) (fun c => absurd rfl c)) hJ))))))))))))))))))))))))))))) (pr_worms _ _ _ _ _ M hI)))))))))))))))))))))))))))))
theorem lw_case_23 (hI : Inv M) (hX : ∀ j, jIn (X.2.2 j)) (hL : X.2.1 ≤ 3584) (h0 : 0 ≤ i) (h1 : i + 7 ≤ X.2.1) (kk : ∀ M2 : Nat → Int → Int, Inv M2 → J l z X (20 + 1) (mL nm) (0, 0) 970 [jS, jR 0, jR 96, jI i] [] (jG, M2) Q) : J l z X (20 + 1) (mL nm) (0, 0) 858 [jS, jR 0, jR 96, jI i] [] (jG, M) Q :=
  (J_aload_n dL_law_858 rfl (J_aload_nS dL_law_859 rfl (J_iload_n dL_law_860 rfl (J_iconst dL_law_861 jc_1 (J_iadd dL_law_862 (jInd (by omega)) (J_sld dL_law_863 rfl (by omega) (by omega) (hX _) (J_aload_nS dL_law_864 rfl (J_iload_n dL_law_865 rfl (J_iconst dL_law_866 jc_2 (J_iadd dL_law_867 (jInd (by omega)) (J_sld dL_law_868 rfl (by omega) (by omega) (hX _) (J_aload_nS dL_law_869 rfl (J_iload_n dL_law_870 rfl (J_iconst dL_law_871 jc_3 (J_iadd dL_law_872 (jInd (by omega)) (J_sld dL_law_873 rfl (by omega) (by omega) (hX _) (J_callV (a1 := (0, 0)) (a2 := (0, 0)) (mm' := mX9_year) (S := []) [jI (X.2.2 (i + 1).toNat), jI (X.2.2 (i + 2).toNat), jI (X.2.2 (i + 3).toNat)] md_X9_year im_X9_year se_X9_year dL_law_874 wm_L_112 jcl_X9.1 rfl g_0 rfl rfl (Nat.le_of_ble_eq_true rfl) (Nat.le_of_ble_eq_true rfl) rfl (J_mono (fun r μ hp => by
    obtain ⟨v, M1, e1, e2, hJ⟩ := hp
    subst e1
    subst e2
    exact (J_aload_n dL_law_877 rfl (J_aload_nS dL_law_878 rfl (J_iload_n dL_law_879 rfl (J_iconst dL_law_880 jc_1 (J_iadd dL_law_881 (jInd (by omega)) (J_sld dL_law_882 rfl (by omega) (by omega) (hX _) (J_aload_nS dL_law_883 rfl (J_iload_n dL_law_884 rfl (J_iconst dL_law_885 jc_2 (J_iadd dL_law_886 (jInd (by omega)) (J_sld dL_law_887 rfl (by omega) (by omega) (hX _) (J_aload_nS dL_law_888 rfl (J_iload_n dL_law_889 rfl (J_iconst dL_law_890 jc_3 (J_iadd dL_law_891 (jInd (by omega)) (J_sld dL_law_892 rfl (by omega) (by omega) (hX _) (J_callV (a1 := (0, 0)) (a2 := (0, 0)) (mm' := mX10_year) (S := [jI v]) [jI (X.2.2 (i + 1).toNat), jI (X.2.2 (i + 2).toNat), jI (X.2.2 (i + 3).toNat)] md_X10_year im_X10_year se_X10_year dL_law_893 wm_L_115 jcl_X10.1 rfl g_96 rfl rfl (Nat.le_of_ble_eq_true rfl) (Nat.le_of_ble_eq_true rfl) rfl (J_mono (fun r μ hp => by
      obtain ⟨e1, M2, e2, hI2⟩ := hp
      subst e1
      subst e2
      exact J_icmp_eq dL_law_896 (tgt := 970) (by decide) (fun _ => kk M2 hI2) (fun c => absurd rfl c)) hJ))))))))))))))))))) (pr_year _ _ _ M hI)))))))))))))))))))
theorem lw_case_24 (hI : Inv M) (hX : ∀ j, jIn (X.2.2 j)) (hL : X.2.1 ≤ 3584) (h0 : 0 ≤ i) (h1 : i + 7 ≤ X.2.1) (kk : ∀ M2 : Nat → Int → Int, Inv M2 → J l z X (20 + 1) (mL nm) (0, 0) 970 [jS, jR 0, jR 96, jI i] [] (jG, M2) Q) : J l z X (20 + 1) (mL nm) (0, 0) 901 [jS, jR 0, jR 96, jI i] [] (jG, M) Q :=
  (J_aload_n dL_law_901 rfl (J_aload_nS dL_law_902 rfl (J_iload_n dL_law_903 rfl (J_iconst dL_law_904 jc_1 (J_iadd dL_law_905 (jInd (by omega)) (J_sld dL_law_906 rfl (by omega) (by omega) (hX _) (J_callV (a1 := (0, 0)) (a2 := (0, 0)) (mm' := mX9_image) (S := []) [jI (X.2.2 (i + 1).toNat)] md_X9_image im_X9_image se_X9_image dL_law_907 wm_L_116 jcl_X9.1 rfl g_0 rfl rfl (Nat.le_of_ble_eq_true rfl) (Nat.le_of_ble_eq_true rfl) rfl (J_mono (fun r μ hp => by
    obtain ⟨v, M1, e1, e2, hJ⟩ := hp
    subst e1
    subst e2
    exact (J_aload_n dL_law_910 rfl (J_aload_nS dL_law_911 rfl (J_iload_n dL_law_912 rfl (J_iconst dL_law_913 jc_1 (J_iadd dL_law_914 (jInd (by omega)) (J_sld dL_law_915 rfl (by omega) (by omega) (hX _) (J_callV (a1 := (0, 0)) (a2 := (0, 0)) (mm' := mX10_image) (S := [jI v]) [jI (X.2.2 (i + 1).toNat)] md_X10_image im_X10_image se_X10_image dL_law_916 wm_L_119 jcl_X10.1 rfl g_96 rfl rfl (Nat.le_of_ble_eq_true rfl) (Nat.le_of_ble_eq_true rfl) rfl (J_mono (fun r μ hp => by
      obtain ⟨e1, M2, e2, hI2⟩ := hp
      subst e1
      subst e2
      exact J_icmp_eq dL_law_919 (tgt := 970) (by decide) (fun _ => kk M2 hI2) (fun c => absurd rfl c)) hJ))))))))) (pr_image _ M hI)))))))))
theorem lw_case_25 (hI : Inv M) (hX : ∀ j, jIn (X.2.2 j)) (hL : X.2.1 ≤ 3584) (h0 : 0 ≤ i) (h1 : i + 7 ≤ X.2.1) (kk : ∀ M2 : Nat → Int → Int, Inv M2 → J l z X (20 + 1) (mL nm) (0, 0) 970 [jS, jR 0, jR 96, jI i] [] (jG, M2) Q) : J l z X (20 + 1) (mL nm) (0, 0) 924 [jS, jR 0, jR 96, jI i] [] (jG, M) Q :=
  (J_aload_n dL_law_924 rfl (J_aload_nS dL_law_925 rfl (J_iload_n dL_law_926 rfl (J_iconst dL_law_927 jc_1 (J_iadd dL_law_928 (jInd (by omega)) (J_sld dL_law_929 rfl (by omega) (by omega) (hX _) (J_callV (a1 := (0, 0)) (a2 := (0, 0)) (mm' := mX9_restore) (S := []) [jI (X.2.2 (i + 1).toNat)] md_X9_restore im_X9_restore se_X9_restore dL_law_930 wm_L_120 jcl_X9.1 rfl g_0 rfl rfl (Nat.le_of_ble_eq_true rfl) (Nat.le_of_ble_eq_true rfl) rfl (J_mono (fun r μ hp => by
    obtain ⟨v, M1, e1, e2, hJ⟩ := hp
    subst e1
    subst e2
    exact (J_aload_n dL_law_933 rfl (J_aload_nS dL_law_934 rfl (J_iload_n dL_law_935 rfl (J_iconst dL_law_936 jc_1 (J_iadd dL_law_937 (jInd (by omega)) (J_sld dL_law_938 rfl (by omega) (by omega) (hX _) (J_callV (a1 := (0, 0)) (a2 := (0, 0)) (mm' := mX10_restore) (S := [jI v]) [jI (X.2.2 (i + 1).toNat)] md_X10_restore im_X10_restore se_X10_restore dL_law_939 wm_L_123 jcl_X10.1 rfl g_96 rfl rfl (Nat.le_of_ble_eq_true rfl) (Nat.le_of_ble_eq_true rfl) rfl (J_mono (fun r μ hp => by
      obtain ⟨e1, M2, e2, hI2⟩ := hp
      subst e1
      subst e2
      exact J_icmp_eq dL_law_942 (tgt := 970) (by decide) (fun _ => kk M2 hI2) (fun c => absurd rfl c)) hJ))))))))) (pr_restore _ M hI)))))))))
theorem lw_case_26 (hI : Inv M) (hX : ∀ j, jIn (X.2.2 j)) (hL : X.2.1 ≤ 3584) (h0 : 0 ≤ i) (h1 : i + 7 ≤ X.2.1) (kk : ∀ M2 : Nat → Int → Int, Inv M2 → J l z X (20 + 1) (mL nm) (0, 0) 970 [jS, jR 0, jR 96, jI i] [] (jG, M2) Q) : J l z X (20 + 1) (mL nm) (0, 0) 947 [jS, jR 0, jR 96, jI i] [] (jG, M) Q :=
  (J_aload_n dL_law_947 rfl (J_aload_nS dL_law_948 rfl (J_iload_n dL_law_949 rfl (J_iconst dL_law_950 jc_1 (J_iadd dL_law_951 (jInd (by omega)) (J_sld dL_law_952 rfl (by omega) (by omega) (hX _) (J_callV (a1 := (0, 0)) (a2 := (0, 0)) (mm' := mX9_told) (S := []) [jI (X.2.2 (i + 1).toNat)] md_X9_told im_X9_told se_X9_told dL_law_953 wm_L_124 jcl_X9.1 rfl g_0 rfl rfl (Nat.le_of_ble_eq_true rfl) (Nat.le_of_ble_eq_true rfl) rfl (J_mono (fun r μ hp => by
    obtain ⟨v, M1, e1, e2, hJ⟩ := hp
    subst e1
    subst e2
    exact (J_aload_n dL_law_956 rfl (J_aload_nS dL_law_957 rfl (J_iload_n dL_law_958 rfl (J_iconst dL_law_959 jc_1 (J_iadd dL_law_960 (jInd (by omega)) (J_sld dL_law_961 rfl (by omega) (by omega) (hX _) (J_callV (a1 := (0, 0)) (a2 := (0, 0)) (mm' := mX10_told) (S := [jI v]) [jI (X.2.2 (i + 1).toNat)] md_X10_told im_X10_told se_X10_told dL_law_962 wm_L_127 jcl_X10.1 rfl g_96 rfl rfl (Nat.le_of_ble_eq_true rfl) (Nat.le_of_ble_eq_true rfl) rfl (J_mono (fun r μ hp => by
      obtain ⟨e1, M2, e2, hI2⟩ := hp
      subst e1
      subst e2
      exact J_icmp_eq dL_law_965 (tgt := 970) (by decide) (fun _ => kk M2 hI2) (fun c => absurd rfl c)) hJ))))))))) (pr_told _ (hX _) M hI)))))))))
end LAWCASE
