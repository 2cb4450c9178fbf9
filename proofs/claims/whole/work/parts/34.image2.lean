section IMG2
variable {l : Launch} {z : Nat} {X : jX}
theorem PMw {M : Nat → Int → Int} {o w : Int} (hw : w ≠ 0) {c : Nat} {i : Int} (h1 : c ≠ 119) (h2 : ¬ (c = 96 ∧ i = 36)) : PM M o w 45 c i = M c i := by
  unfold PM
  rw [if_neg h1]
  by_cases e2 : c = 96
  · have e36 : ¬ i = 36 := by omega
    rw [if_pos e2, if_neg e36]
    subst e2
    by_cases e3 : 0 ≤ i ∧ i < 4
    · rw [if_pos e3, if_pos (by omega), pmV_w hw, if_pos (by omega)]
    · rw [if_neg e3]
      by_cases e4 : i = 10
      · rw [if_pos e4, if_pos (by omega), pmV_w hw, if_neg (by omega), if_pos rfl, e4]
      · rw [if_neg e4]
  · rw [if_neg e2]
    by_cases e3 : 97 ≤ c ∧ c ≤ 100 ∧ 0 ≤ i ∧ i < 6
    · rw [if_pos e3, if_pos (by omega), pmV_w hw, if_neg (by omega), if_neg (by omega), if_pos (by omega)]
      generalize hq : 5 + 4 * i + ((c : Int) - 97) = q
      rw [show 97 + ((q - 5) % 4).toNat = c by omega, show (q - 5) / 4 = i by omega]
    · rw [if_neg e3]
      by_cases e4 : 101 ≤ c ∧ c ≤ 102 ∧ 0 ≤ i ∧ i < 8
      · rw [if_pos e4, if_pos (by omega), pmV_w hw, if_neg (by omega), if_neg (by omega), if_neg (by omega)]
        generalize hq : 29 + 2 * i + ((c : Int) - 101) = q
        rw [show 101 + ((q - 29) % 2).toNat = c by omega, show (q - 29) / 2 = i by omega]
      · rw [if_neg e4]
theorem PM0_119 {M : Nat → Int → Int} {o : Int} (i : Int) : PM M o 0 45 119 i = M 119 i := by
  rw [PM_119]
  by_cases e : o ≤ i ∧ i < o + 45
  · rw [if_pos e]
    unfold pmV
    rw [if_pos rfl]
    congr 1
    omega
  · rw [if_neg e]
theorem PM0_96 {M : Nat → Int → Int} {o i : Int} (h : 0 ≤ i ∧ i < 4) : PM M o 0 45 96 i = M 119 (o + i) := by
  unfold PM
  rw [if_neg (by omega), if_pos rfl, if_neg (by omega), if_pos h, if_pos (by omega)]
  unfold pmV
  rw [if_pos rfl]
theorem PM0_10 {M : Nat → Int → Int} {o : Int} : PM M o 0 45 96 10 = M 119 (o + 4) := by
  unfold PM
  rw [if_neg (by omega), if_pos rfl, if_neg (by omega), if_neg (by omega), if_pos rfl, if_pos (by omega)]
  unfold pmV
  rw [if_pos rfl]
theorem PM0_a {M : Nat → Int → Int} {o i : Int} {c : Nat} (hc : 97 ≤ c ∧ c ≤ 100) (h : 0 ≤ i ∧ i < 6) : PM M o 0 45 c i = M 119 (o + 5 + 4 * i + ((c : Int) - 97)) := by
  unfold PM
  rw [if_neg (by omega), if_neg (by omega), if_pos ⟨hc.1, hc.2, h.1, h.2⟩, if_pos (by omega)]
  unfold pmV
  rw [if_pos rfl]
  congr 1
  omega
theorem PM0_b {M : Nat → Int → Int} {o i : Int} {c : Nat} (hc : 101 ≤ c ∧ c ≤ 102) (h : 0 ≤ i ∧ i < 8) : PM M o 0 45 c i = M 119 (o + 29 + 2 * i + ((c : Int) - 101)) := by
  unfold PM
  rw [if_neg (by omega), if_neg (by omega), if_neg (by omega), if_pos ⟨hc.1, hc.2, h.1, h.2⟩, if_pos (by omega)]
  unfold pmV
  rw [if_pos rfl]
  congr 1
  omega
theorem PM_o {M : Nat → Int → Int} {o w t i : Int} {c : Nat} (h : c < 96 ∨ 102 < c) (h2 : c ≠ 119) : PM M o w t c i = M c i := by
  unfold PM
  rw [if_neg h2, if_neg (by omega), if_neg (by omega), if_neg (by omega)]
theorem iImg_same {M M' : Nat → Int → Int} {b : Nat} {k o : Int} (h : iImg M b k o) (h1 : M' 120 k = M 120 k) (h2 : ∀ c : Nat, b ≤ c → c ≤ b + 8 → M' c = M c) (h3 : ∀ i : Int, o ≤ i → i < o + 45 → M' 119 i = M 119 i) : iImg M' b k o := by
  obtain ⟨g1, g2, g3⟩ := h
  unfold iImg
  rw [h1, h2 b (by omega) (by omega), h2 (b + 1) (by omega) (by omega), h2 (b + 2) (by omega) (by omega), h2 (b + 3) (by omega) (by omega), h2 (b + 4) (by omega) (by omega), h2 (b + 5) (by omega) (by omega), h2 (b + 6) (by omega) (by omega), h2 (b + 7) (by omega) (by omega), h2 (b + 8) (by omega) (by omega), h3 o (by omega) (by omega), h3 (o + 1) (by omega) (by omega), h3 (o + 2) (by omega) (by omega), h3 (o + 3) (by omega) (by omega), h3 (o + 4) (by omega) (by omega)]
  refine ⟨g1, g2, fun q => ?_⟩
  obtain ⟨g4, g5⟩ := g3 q
  refine ⟨hR_eq g4 (fun j j0 j1 => ⟨rfl, rfl, rfl, rfl, h3 _ (by omega) (by omega), h3 _ (by omega) (by omega), h3 _ (by omega) (by omega), h3 _ (by omega) (by omega)⟩), sR_eq g5 (fun i i0 i1 => ?_)⟩
  have hn := g5.2.2.1
  exact ⟨rfl, rfl, h3 _ (by omega) (by omega), h3 _ (by omega) (by omega)⟩
theorem pr_image (a : Int) : Pair l z X mX9_image mX10_image [jR 0, jI a] [jR 96, jI a] := by
  intro M hI
  obtain ⟨h1, h2, h3, h4, h5⟩ := id hI
  refine b_X9_image_0 (fun c => c.1) (fun c => by omega) (fun c => ?_) (fun c => ⟨_, _, rfl, rfl, b_X10_image_0 (fun q => absurd q c) (fun q => absurd q c) (fun _ => ⟨rfl, _, rfl, hI⟩)⟩)
  obtain rfl | rfl : a = 0 ∨ a = 1 := by omega
  · show J l z X _ mX2_keep (0, 0) 0 [jR 78, jR 1, jR 68] [] (jG, M) _
    refine b_X2_keep_0 im_78 (c_tk_79_1 (fun M1 e4 e5 e6 e7 f1 f2 f3 f4 fo fi => ?_))
    refine b_X2_keep_8 im_78 (c_ts_84_68 (fun M2 s2 t1 t2 to ti => ?_))
    refine b_X2_keep_16 im_78 ?_
    refine b_X9_image_29 ⟨_, _, rfl, rfl, ?_⟩
    refine b_X10_image_0 (fun _ => jInd (by omega)) (fun _ => ?_) (fun q => absurd c q)
    -- the class's memory, cell by cell
    generalize hM4 : jupd (jupd (jupd M2 78 2 1) 96 36 (60 * 0)) 96 37 1 = M4
    have u0 : ∀ c : Nat, (c < 78 ∨ 86 < c) → c ≠ 96 → M4 c = M c := fun c hc hn => by
      rw [← hM4, jupd_ne _ _ _ hn, jupd_ne _ _ _ hn, jupd_ne _ _ _ (by omega), to c (by omega), fo c (by omega)]
    have u1 : ∀ i : Int, i ≠ 36 → i ≠ 37 → M4 96 i = M 96 i := fun i hi hj => by
      rw [← hM4, jupd_i _ _ _ _ hj, jupd_i _ _ _ _ hi, jupd_h _ _ _ _ (by omega), to 96 (by omega), fo 96 (by omega)]
    have u2 : M4 78 2 = 1 := by rw [← hM4]; simp [jupd]
    have u3 : ∀ c : Nat, 79 ≤ c → c ≤ 83 → M4 c = M1 c := fun c ha hb => by
      rw [← hM4, jupd_ne _ _ _ (by omega), jupd_ne _ _ _ (by omega), jupd_ne _ _ _ (by omega), to c (by omega)]
    have u4 : ∀ c : Nat, 84 ≤ c → c ≤ 86 → M4 c = M2 c := fun c ha hb => by
      rw [← hM4, jupd_ne _ _ _ (by omega), jupd_ne _ _ _ (by omega), jupd_ne _ _ _ (by omega)]
    have g1 : ∀ c : Nat, c < 78 → M1 c = M c := fun c hc => fo c (by omega)
    have g36 : M4 96 36 = 0 := by rw [← hM4]; simp [jupd]
    have g37 : M4 96 37 = 1 := by rw [← hM4]; simp [jupd]
    clear hM4
    refine c_X10_passAll (o := 0) (w := 1) (by omega) g36 g37 ?_
    refine b_X10_image_30 (by omega) (by omega) ⟨rfl, _, rfl, ?_⟩
    have w1 : ∀ (c : Nat), c ≠ 119 → c ≠ 96 → c ≠ 120 → jupd (PM M4 0 1 45) 120 0 1 c = M4 c := fun c n1 n2 n3 => funext fun i => by
      rw [jupd_h _ _ _ _ n3, PMw (by decide) n1 (by omega)]
    have w2 : ∀ i : Int, i ≠ 36 → jupd (PM M4 0 1 45) 120 0 1 96 i = M4 96 i := fun i n1 => by
      rw [jupd_h _ _ _ _ (by omega), PMw (by decide) (by omega) (by omega)]
    have w3 : ∀ i : Int, 0 ≤ i → i < 45 → jupd (PM M4 0 1 45) 120 0 1 119 (0 + i) = pmV M4 0 1 i := fun i n1 n2 => by
      rw [jupd_h _ _ _ _ (by omega), PM_119, if_pos (by omega)]
      congr 1
      omega
    have w4 : ∀ i : Int, (i < 0 ∨ 45 ≤ i) → jupd (PM M4 0 1 45) 120 0 1 119 i = M 119 i := fun i n1 => by
      rw [jupd_h _ _ _ _ (by omega), PM_119, if_neg (by omega), u0 119 (by omega) (by omega)]
    have w5 : jupd (PM M4 0 1 45) 120 0 1 120 0 = 1 := by rw [jupd_s]
    have w6 : jupd (PM M4 0 1 45) 120 0 1 120 1 = M 120 1 := by rw [jupd_i _ _ _ _ (by decide), PM_o (by omega) (by omega), u0 120 (by omega) (by omega)]
    have v1 : ∀ i : Int, 0 ≤ i → i < 4 → pmV M4 0 1 i = M 96 i := fun i n1 n2 => by rw [pmV_w (by decide), if_pos n2, u1 i (by omega) (by omega)]
    have v2 : pmV M4 0 1 4 = M 96 10 := by rw [pmV_w (by decide), if_neg (by omega), if_pos rfl, u1 10 (by omega) (by omega)]
    have v3 : ∀ (r : Nat) (j : Int), r ≤ 3 → 0 ≤ j → j < 6 → pmV M4 0 1 (5 + 4 * j + r) = M (97 + r) j := fun r j n1 n2 n3 => by
      rw [pmV_w (by decide), if_neg (by omega), if_neg (by omega), if_pos (by omega), show 97 + ((5 + 4 * j + (r : Int) - 5) % 4).toNat = 97 + r by omega, show (5 + 4 * j + (r : Int) - 5) / 4 = j by omega, u0 (97 + r) (by omega) (by omega)]
    have v4 : ∀ (r : Nat) (j : Int), r ≤ 1 → 0 ≤ j → j < 8 → pmV M4 0 1 (29 + 2 * j + r) = M (101 + r) j := fun r j n1 n2 n3 => by
      rw [pmV_w (by decide), if_neg (by omega), if_neg (by omega), if_neg (by omega), show 101 + ((29 + 2 * j + (r : Int) - 29) % 2).toNat = 101 + r by omega, show (29 + 2 * j + (r : Int) - 29) / 2 = j by omega, u0 (101 + r) (by omega) (by omega)]
    generalize jupd (PM M4 0 1 45) 120 0 1 = M6 at w1 w2 w3 w4 w5 w6
    have w7 : ∀ c : Nat, (c < 78 ∨ 86 < c) → c ≠ 119 → c ≠ 96 → c ≠ 120 → M6 c = M c := fun c n0 n1 n2 n3 => (w1 c n1 n2 n3).trans (u0 c n0 n2)
    have w8 : ∀ i : Int, i ≠ 36 → i ≠ 37 → M6 96 i = M 96 i := fun i n1 n2 => (w2 i n1).trans (u1 i n1 n2)
    refine ⟨?_, ?_, ?_, ?_, ?_⟩
    · unfold iHill
      rw [w7 1 (by omega) (by omega) (by omega) (by omega), w7 2 (by omega) (by omega) (by omega) (by omega), w7 3 (by omega) (by omega) (by omega) (by omega), w7 4 (by omega) (by omega) (by omega) (by omega), w7 5 (by omega) (by omega) (by omega) (by omega), w7 97 (by omega) (by omega) (by omega) (by omega), w7 98 (by omega) (by omega) (by omega) (by omega), w7 99 (by omega) (by omega) (by omega) (by omega), w7 100 (by omega) (by omega) (by omega) (by omega), w8 0 (by omega) (by omega), w8 1 (by omega) (by omega), w8 2 (by omega) (by omega), w8 3 (by omega) (by omega)]
      exact h1
    · unfold iSig
      rw [w7 68 (by omega) (by omega) (by omega) (by omega), w7 69 (by omega) (by omega) (by omega) (by omega), w7 70 (by omega) (by omega) (by omega) (by omega), w7 101 (by omega) (by omega) (by omega) (by omega), w7 102 (by omega) (by omega) (by omega) (by omega), w8 10 (by omega) (by omega)]
      exact h2
    · unfold iPad
      rw [w7 6 (by omega) (by omega) (by omega) (by omega), w7 7 (by omega) (by omega) (by omega) (by omega), w7 103 (by omega) (by omega) (by omega) (by omega), w8 12 (by omega) (by omega)]
      exact h3
    · have x1 : ∀ c : Nat, 78 ≤ c → c ≤ 86 → M6 c = M4 c := fun c n1 n2 => w1 c (by omega) (by omega) (by omega)
      refine ⟨by rw [w5, x1 78 (by omega) (by omega), u2], Or.inr (by rw [x1 78 (by omega) (by omega), u2]), fun _ => ⟨?_, ?_⟩⟩
      · have hh := h1
        unfold iHill at hh
        have a1 : ∀ i : Int, M6 79 i = M1 79 i := fun i => by rw [x1 79 (by omega) (by omega), u3 79 (by omega) (by omega)]
        show hR (M6 79 4) (M6 79 5) (M6 79 6) (M6 79 7) (M6 80) (M6 81) (M6 82) (M6 83) (M6 119 0) (M6 119 (0 + 1)) (M6 119 (0 + 2)) (M6 119 (0 + 3)) _ _ _ _
        rw [a1, a1, a1, a1, e4, e5, e6, e7, x1 80 (by omega) (by omega), x1 81 (by omega) (by omega), x1 82 (by omega) (by omega), x1 83 (by omega) (by omega), u3 80 (by omega) (by omega), u3 81 (by omega) (by omega), u3 82 (by omega) (by omega), u3 83 (by omega) (by omega), f1, f2, f3, f4, show (M6 119 0 : Int) = M6 119 (0 + 0) by rfl, w3 0 (by omega) (by omega), w3 1 (by omega) (by omega), w3 2 (by omega) (by omega), w3 3 (by omega) (by omega), v1 0 (by omega) (by omega), v1 1 (by omega) (by omega), v1 2 (by omega) (by omega), v1 3 (by omega) (by omega)]
        refine hR_eq hh (fun j j0 j1 => ⟨by simp [j0, j1], by simp [j0, j1], by simp [j0, j1], by simp [j0, j1], ?_, ?_, ?_, ?_⟩)
        · have := w3 (5 + 4 * j + (0 : Nat)) (by omega) (by omega)
          rw [v3 0 j (by omega) j0 j1] at this
          rw [← this]; congr 1; omega
        · have := w3 (5 + 4 * j + (1 : Nat)) (by omega) (by omega)
          rw [v3 1 j (by omega) j0 j1] at this
          rw [← this]; congr 1; omega
        · have := w3 (5 + 4 * j + (2 : Nat)) (by omega) (by omega)
          rw [v3 2 j (by omega) j0 j1] at this
          rw [← this]; congr 1; omega
        · have := w3 (5 + 4 * j + (3 : Nat)) (by omega) (by omega)
          rw [v3 3 j (by omega) j0 j1] at this
          rw [← this]; congr 1; omega
      · have hh := h2
        unfold iSig at hh
        have hn := hh.2.2.1
        show sR (M6 84 2) (M6 85) (M6 86) (M6 119 (0 + 4)) _ _
        rw [x1 84 (by omega) (by omega), x1 85 (by omega) (by omega), x1 86 (by omega) (by omega), u4 84 (by omega) (by omega), u4 85 (by omega) (by omega), u4 86 (by omega) (by omega), s2, t1, t2, w3 4 (by omega) (by omega), v2, g1 68 (by omega), g1 69 (by omega), g1 70 (by omega)]
        refine sR_eq hh (fun i i0 i1 => ⟨by simp [i0, show i < 8 by omega], by simp [i0, show i < 8 by omega], ?_, ?_⟩)
        · have := w3 (29 + 2 * i + (0 : Nat)) (by omega) (by omega)
          rw [v4 0 i (by omega) i0 (by omega)] at this
          rw [← this]; congr 1; omega
        · have := w3 (29 + 2 * i + (1 : Nat)) (by omega) (by omega)
          rw [v4 1 i (by omega) i0 (by omega)] at this
          rw [← this]; congr 1; omega
    · exact iImg_same h5 w6 (fun c n1 n2 => w7 c (by omega) (by omega) (by omega) (by omega)) (fun i n1 n2 => w4 i (by omega))
  · show J l z X _ mX2_keep (0, 0) 0 [jR 87, jR 1, jR 68] [] (jG, M) _
    refine b_X2_keep_0 im_87 (c_tk_88_1 (fun M1 e4 e5 e6 e7 f1 f2 f3 f4 fo fi => ?_))
    refine b_X2_keep_8 im_87 (c_ts_93_68 (fun M2 s2 t1 t2 to ti => ?_))
    refine b_X2_keep_16 im_87 ?_
    refine b_X9_image_29 ⟨_, _, rfl, rfl, ?_⟩
    refine b_X10_image_0 (fun _ => jInd (by omega)) (fun _ => ?_) (fun q => absurd c q)
    -- the class's memory, cell by cell
    generalize hM4 : jupd (jupd (jupd M2 87 2 1) 96 36 (60 * 1)) 96 37 1 = M4
    have u0 : ∀ c : Nat, (c < 87 ∨ 95 < c) → c ≠ 96 → M4 c = M c := fun c hc hn => by
      rw [← hM4, jupd_ne _ _ _ hn, jupd_ne _ _ _ hn, jupd_ne _ _ _ (by omega), to c (by omega), fo c (by omega)]
    have u1 : ∀ i : Int, i ≠ 36 → i ≠ 37 → M4 96 i = M 96 i := fun i hi hj => by
      rw [← hM4, jupd_i _ _ _ _ hj, jupd_i _ _ _ _ hi, jupd_h _ _ _ _ (by omega), to 96 (by omega), fo 96 (by omega)]
    have u2 : M4 87 2 = 1 := by rw [← hM4]; simp [jupd]
    have u3 : ∀ c : Nat, 88 ≤ c → c ≤ 92 → M4 c = M1 c := fun c ha hb => by
      rw [← hM4, jupd_ne _ _ _ (by omega), jupd_ne _ _ _ (by omega), jupd_ne _ _ _ (by omega), to c (by omega)]
    have u4 : ∀ c : Nat, 93 ≤ c → c ≤ 95 → M4 c = M2 c := fun c ha hb => by
      rw [← hM4, jupd_ne _ _ _ (by omega), jupd_ne _ _ _ (by omega), jupd_ne _ _ _ (by omega)]
    have g1 : ∀ c : Nat, c < 87 → M1 c = M c := fun c hc => fo c (by omega)
    have g36 : M4 96 36 = 60 := by rw [← hM4]; simp [jupd]
    have g37 : M4 96 37 = 1 := by rw [← hM4]; simp [jupd]
    clear hM4
    refine c_X10_passAll (o := 60) (w := 1) (by omega) g36 g37 ?_
    refine b_X10_image_30 (by omega) (by omega) ⟨rfl, _, rfl, ?_⟩
    have w1 : ∀ (c : Nat), c ≠ 119 → c ≠ 96 → c ≠ 120 → jupd (PM M4 60 1 45) 120 1 1 c = M4 c := fun c n1 n2 n3 => funext fun i => by
      rw [jupd_h _ _ _ _ n3, PMw (by decide) n1 (by omega)]
    have w2 : ∀ i : Int, i ≠ 36 → jupd (PM M4 60 1 45) 120 1 1 96 i = M4 96 i := fun i n1 => by
      rw [jupd_h _ _ _ _ (by omega), PMw (by decide) (by omega) (by omega)]
    have w3 : ∀ i : Int, 0 ≤ i → i < 45 → jupd (PM M4 60 1 45) 120 1 1 119 (60 + i) = pmV M4 60 1 i := fun i n1 n2 => by
      rw [jupd_h _ _ _ _ (by omega), PM_119, if_pos (by omega)]
      congr 1
      omega
    have w4 : ∀ i : Int, (i < 60 ∨ 105 ≤ i) → jupd (PM M4 60 1 45) 120 1 1 119 i = M 119 i := fun i n1 => by
      rw [jupd_h _ _ _ _ (by omega), PM_119, if_neg (by omega), u0 119 (by omega) (by omega)]
    have w5 : jupd (PM M4 60 1 45) 120 1 1 120 1 = 1 := by rw [jupd_s]
    have w6 : jupd (PM M4 60 1 45) 120 1 1 120 0 = M 120 0 := by rw [jupd_i _ _ _ _ (by decide), PM_o (by omega) (by omega), u0 120 (by omega) (by omega)]
    have v1 : ∀ i : Int, 0 ≤ i → i < 4 → pmV M4 60 1 i = M 96 i := fun i n1 n2 => by rw [pmV_w (by decide), if_pos n2, u1 i (by omega) (by omega)]
    have v2 : pmV M4 60 1 4 = M 96 10 := by rw [pmV_w (by decide), if_neg (by omega), if_pos rfl, u1 10 (by omega) (by omega)]
    have v3 : ∀ (r : Nat) (j : Int), r ≤ 3 → 0 ≤ j → j < 6 → pmV M4 60 1 (5 + 4 * j + r) = M (97 + r) j := fun r j n1 n2 n3 => by
      rw [pmV_w (by decide), if_neg (by omega), if_neg (by omega), if_pos (by omega), show 97 + ((5 + 4 * j + (r : Int) - 5) % 4).toNat = 97 + r by omega, show (5 + 4 * j + (r : Int) - 5) / 4 = j by omega, u0 (97 + r) (by omega) (by omega)]
    have v4 : ∀ (r : Nat) (j : Int), r ≤ 1 → 0 ≤ j → j < 8 → pmV M4 60 1 (29 + 2 * j + r) = M (101 + r) j := fun r j n1 n2 n3 => by
      rw [pmV_w (by decide), if_neg (by omega), if_neg (by omega), if_neg (by omega), show 101 + ((29 + 2 * j + (r : Int) - 29) % 2).toNat = 101 + r by omega, show (29 + 2 * j + (r : Int) - 29) / 2 = j by omega, u0 (101 + r) (by omega) (by omega)]
    generalize jupd (PM M4 60 1 45) 120 1 1 = M6 at w1 w2 w3 w4 w5 w6
    have w7 : ∀ c : Nat, (c < 87 ∨ 95 < c) → c ≠ 119 → c ≠ 96 → c ≠ 120 → M6 c = M c := fun c n0 n1 n2 n3 => (w1 c n1 n2 n3).trans (u0 c n0 n2)
    have w8 : ∀ i : Int, i ≠ 36 → i ≠ 37 → M6 96 i = M 96 i := fun i n1 n2 => (w2 i n1).trans (u1 i n1 n2)
    refine ⟨?_, ?_, ?_, ?_, ?_⟩
    · unfold iHill
      rw [w7 1 (by omega) (by omega) (by omega) (by omega), w7 2 (by omega) (by omega) (by omega) (by omega), w7 3 (by omega) (by omega) (by omega) (by omega), w7 4 (by omega) (by omega) (by omega) (by omega), w7 5 (by omega) (by omega) (by omega) (by omega), w7 97 (by omega) (by omega) (by omega) (by omega), w7 98 (by omega) (by omega) (by omega) (by omega), w7 99 (by omega) (by omega) (by omega) (by omega), w7 100 (by omega) (by omega) (by omega) (by omega), w8 0 (by omega) (by omega), w8 1 (by omega) (by omega), w8 2 (by omega) (by omega), w8 3 (by omega) (by omega)]
      exact h1
    · unfold iSig
      rw [w7 68 (by omega) (by omega) (by omega) (by omega), w7 69 (by omega) (by omega) (by omega) (by omega), w7 70 (by omega) (by omega) (by omega) (by omega), w7 101 (by omega) (by omega) (by omega) (by omega), w7 102 (by omega) (by omega) (by omega) (by omega), w8 10 (by omega) (by omega)]
      exact h2
    · unfold iPad
      rw [w7 6 (by omega) (by omega) (by omega) (by omega), w7 7 (by omega) (by omega) (by omega) (by omega), w7 103 (by omega) (by omega) (by omega) (by omega), w8 12 (by omega) (by omega)]
      exact h3
    · exact iImg_same h4 w6 (fun c n1 n2 => w7 c (by omega) (by omega) (by omega) (by omega)) (fun i n1 n2 => w4 i (by omega))
    · have x1 : ∀ c : Nat, 87 ≤ c → c ≤ 95 → M6 c = M4 c := fun c n1 n2 => w1 c (by omega) (by omega) (by omega)
      refine ⟨by rw [w5, x1 87 (by omega) (by omega), u2], Or.inr (by rw [x1 87 (by omega) (by omega), u2]), fun _ => ⟨?_, ?_⟩⟩
      · have hh := h1
        unfold iHill at hh
        have a1 : ∀ i : Int, M6 88 i = M1 88 i := fun i => by rw [x1 88 (by omega) (by omega), u3 88 (by omega) (by omega)]
        show hR (M6 88 4) (M6 88 5) (M6 88 6) (M6 88 7) (M6 89) (M6 90) (M6 91) (M6 92) (M6 119 60) (M6 119 (60 + 1)) (M6 119 (60 + 2)) (M6 119 (60 + 3)) _ _ _ _
        rw [a1, a1, a1, a1, e4, e5, e6, e7, x1 89 (by omega) (by omega), x1 90 (by omega) (by omega), x1 91 (by omega) (by omega), x1 92 (by omega) (by omega), u3 89 (by omega) (by omega), u3 90 (by omega) (by omega), u3 91 (by omega) (by omega), u3 92 (by omega) (by omega), f1, f2, f3, f4, show (M6 119 60 : Int) = M6 119 (60 + 0) by rfl, w3 0 (by omega) (by omega), w3 1 (by omega) (by omega), w3 2 (by omega) (by omega), w3 3 (by omega) (by omega), v1 0 (by omega) (by omega), v1 1 (by omega) (by omega), v1 2 (by omega) (by omega), v1 3 (by omega) (by omega)]
        refine hR_eq hh (fun j j0 j1 => ⟨by simp [j0, j1], by simp [j0, j1], by simp [j0, j1], by simp [j0, j1], ?_, ?_, ?_, ?_⟩)
        · have := w3 (5 + 4 * j + (0 : Nat)) (by omega) (by omega)
          rw [v3 0 j (by omega) j0 j1] at this
          rw [← this]; congr 1; omega
        · have := w3 (5 + 4 * j + (1 : Nat)) (by omega) (by omega)
          rw [v3 1 j (by omega) j0 j1] at this
          rw [← this]; congr 1; omega
        · have := w3 (5 + 4 * j + (2 : Nat)) (by omega) (by omega)
          rw [v3 2 j (by omega) j0 j1] at this
          rw [← this]; congr 1; omega
        · have := w3 (5 + 4 * j + (3 : Nat)) (by omega) (by omega)
          rw [v3 3 j (by omega) j0 j1] at this
          rw [← this]; congr 1; omega
      · have hh := h2
        unfold iSig at hh
        have hn := hh.2.2.1
        show sR (M6 93 2) (M6 94) (M6 95) (M6 119 (60 + 4)) _ _
        rw [x1 93 (by omega) (by omega), x1 94 (by omega) (by omega), x1 95 (by omega) (by omega), u4 93 (by omega) (by omega), u4 94 (by omega) (by omega), u4 95 (by omega) (by omega), s2, t1, t2, w3 4 (by omega) (by omega), v2, g1 68 (by omega), g1 69 (by omega), g1 70 (by omega)]
        refine sR_eq hh (fun i i0 i1 => ⟨by simp [i0, show i < 8 by omega], by simp [i0, show i < 8 by omega], ?_, ?_⟩)
        · have := w3 (29 + 2 * i + (0 : Nat)) (by omega) (by omega)
          rw [v4 0 i (by omega) i0 (by omega)] at this
          rw [← this]; congr 1; omega
        · have := w3 (29 + 2 * i + (1 : Nat)) (by omega) (by omega)
          rw [v4 1 i (by omega) i0 (by omega)] at this
          rw [← this]; congr 1; omega
theorem pr_restore (a : Int) : Pair l z X mX9_restore mX10_restore [jR 0, jI a] [jR 96, jI a] := by
  intro M hI
  obtain ⟨h1, h2, h3, h4, h5⟩ := id hI
  refine b_X9_restore_0 (fun c => c.1) (fun c => by omega) (fun c _ => c.1) (fun c _ => by omega) (fun c c2 => ?_) (fun c c2 => ?_) (fun c => ⟨_, _, rfl, rfl, b_X10_restore_0 (fun q => absurd q c) (fun q => absurd q c) (fun q => absurd q c) (fun q => absurd q c) (fun q => absurd q c) (fun _ => ⟨rfl, _, rfl, hI⟩)⟩)
  · obtain rfl | rfl : a = 0 ∨ a = 1 := by omega
    · have c3 : M 78 2 ≠ 0 := c2
      obtain ⟨i1, i2, i3⟩ := id h4
      have c4 : M 78 2 = 1 := by rcases i2 with q | q; exact absurd q c3; exact q
      obtain ⟨i4, i5⟩ := i3 c4
      show J l z X _ mX2_giveBack (0, 0) 0 [jR 78, jR 1, jR 68] [] (jG, M) _
      refine b_X2_giveBack_0 im_78 (c_tk_1_79 (fun M1 e4 e5 e6 e7 f1 f2 f3 f4 fo fi => ?_))
      refine b_X2_giveBack_8 im_78 (c_ts_68_84 (fun M2 s2 t1 t2 to ti => ?_))
      refine b_X2_giveBack_16 im_78 ?_
      refine b_X9_restore_44 ⟨_, _, rfl, rfl, ?_⟩
      have m120 : M2 120 0 = M 78 2 := by rw [to 120 (by omega), fo 120 (by omega), i1]
      refine b_X10_restore_0 (fun _ => by omega) (fun _ => by omega) (fun _ _ => jInd (by omega)) (fun _ _ => ?_) (fun _ q => absurd (m120.symm.trans q) c3) (fun q => absurd c q)
      generalize hM4 : jupd (jupd M2 96 36 (60 * 0)) 96 37 0 = M4
      have u0 : ∀ c : Nat, (5 < c) → (c < 68 ∨ 70 < c) → c ≠ 96 → M4 c = M c := fun c hc hc2 hn => by
        rw [← hM4, jupd_ne _ _ _ hn, jupd_ne _ _ _ hn, to c (by omega), fo c (by omega)]
      have u1 : ∀ i : Int, i ≠ 36 → i ≠ 37 → M4 96 i = M 96 i := fun i hi hj => by
        rw [← hM4, jupd_i _ _ _ _ hj, jupd_i _ _ _ _ hi, to 96 (by omega), fo 96 (by omega)]
      have u3 : ∀ c : Nat, 1 ≤ c → c ≤ 5 → M4 c = M1 c := fun c ha hb => by
        rw [← hM4, jupd_ne _ _ _ (by omega), jupd_ne _ _ _ (by omega), to c (by omega)]
      have u4 : ∀ c : Nat, 68 ≤ c → c ≤ 70 → M4 c = M2 c := fun c ha hb => by
        rw [← hM4, jupd_ne _ _ _ (by omega), jupd_ne _ _ _ (by omega)]
      have g1 : ∀ c : Nat, 84 ≤ c → c ≤ 86 → M1 c = M c := fun c hc _ => fo c (by omega)
      have g36 : M4 96 36 = 0 := by rw [← hM4]; simp [jupd]
      have g37 : M4 96 37 = 0 := by rw [← hM4]; simp [jupd]
      clear hM4
      refine c_X10_passAll (o := 0) (w := 0) (by omega) g36 g37 ?_
      refine b_X10_restore_42 ⟨rfl, _, rfl, ?_⟩
      have n119 : M4 119 = M 119 := u0 119 (by omega) (by omega) (by omega)
      have w1 : ∀ (c : Nat), (c < 96 ∨ 102 < c) → PM M4 0 0 45 c = M4 c := fun c n1 => funext fun i => by
        by_cases q : c = 119
        · rw [q, PM0_119]
        · rw [PM_o n1 q]
      have w2 : ∀ i : Int, 0 ≤ i → i < 4 → PM M4 0 0 45 96 i = M 119 (0 + i) := fun i n1 n2 => by rw [PM0_96 ⟨n1, n2⟩, n119]
      have w3 : PM M4 0 0 45 96 10 = M 119 (0 + 4) := by rw [PM0_10, n119]
      have w4 : ∀ (r : Nat) (i : Int), r ≤ 3 → 0 ≤ i → i < 6 → PM M4 0 0 45 (97 + r) i = M 119 (0 + 5 + r + 4 * i) := fun r i n0 n1 n2 => by
        rw [PM0_a (by omega) ⟨n1, n2⟩, n119]; congr 1; omega
      have w5 : ∀ (r : Nat) (i : Int), r ≤ 1 → 0 ≤ i → i < 8 → PM M4 0 0 45 (101 + r) i = M 119 (0 + 29 + r + 2 * i) := fun r i n0 n1 n2 => by
        rw [PM0_b (by omega) ⟨n1, n2⟩, n119]; congr 1; omega
      have w6 : PM M4 0 0 45 96 12 = M 96 12 := by
        rw [← u1 12 (by omega) (by omega)]
        simp [PM]
      generalize PM M4 0 0 45 = M6 at w1 w2 w3 w4 w5 w6
      have x1 : ∀ c : Nat, 5 < c → (c < 68 ∨ 70 < c) → (c < 96 ∨ 103 ≤ c) → M6 c = M c := fun c n1 n2 n3 => (w1 c (by omega)).trans (u0 c n1 n2 (by omega))
      refine ⟨?_, ?_, ?_, ?_, ?_⟩
      · unfold iHill
        rw [w1 1 (by omega), w1 2 (by omega), w1 3 (by omega), w1 4 (by omega), w1 5 (by omega), u3 1 (by omega) (by omega), u3 2 (by omega) (by omega), u3 3 (by omega) (by omega), u3 4 (by omega) (by omega), u3 5 (by omega) (by omega), e4, e5, e6, e7, f1, f2, f3, f4, w2 0 (by omega) (by omega), w2 1 (by omega) (by omega), w2 2 (by omega) (by omega), w2 3 (by omega) (by omega)]
        refine hR_eq i4 (fun j j0 j1 => ⟨by simp [j0, j1], by simp [j0, j1], by simp [j0, j1], by simp [j0, j1], ?_, ?_, ?_, ?_⟩)
        · exact (w4 0 j (by omega) j0 j1).trans (by congr 1)
        · exact (w4 1 j (by omega) j0 j1).trans (by congr 1)
        · exact (w4 2 j (by omega) j0 j1).trans (by congr 1)
        · exact (w4 3 j (by omega) j0 j1).trans (by congr 1)
      · have hn := i5.2.2.1
        unfold iSig
        rw [w1 68 (by omega), w1 69 (by omega), w1 70 (by omega), u4 68 (by omega) (by omega), u4 69 (by omega) (by omega), u4 70 (by omega) (by omega), s2, t1, t2, w3, g1 84 (by omega) (by omega), g1 85 (by omega) (by omega), g1 86 (by omega) (by omega)]
        refine sR_eq i5 (fun i i0 i1 => ?_)
        have i9 : i < 8 := Int.lt_of_lt_of_le i1 hn
        refine ⟨by simp [i0, i9], by simp [i0, i9], ?_, ?_⟩
        · exact (w5 0 i (by omega) i0 i9).trans (by congr 1)
        · exact (w5 1 i (by omega) i0 i9).trans (by congr 1)
      · unfold iPad
        rw [x1 6 (by omega) (by omega) (by omega), x1 7 (by omega) (by omega) (by omega), x1 103 (by omega) (by omega) (by omega), w6]
        exact h3
      · exact iImg_same h4 (by rw [x1 120 (by omega) (by omega) (by omega)]) (fun c n1 n2 => x1 c (by omega) (by omega) (by omega)) (fun i n1 n2 => by rw [x1 119 (by omega) (by omega) (by omega)])
      · exact iImg_same h5 (by rw [x1 120 (by omega) (by omega) (by omega)]) (fun c n1 n2 => x1 c (by omega) (by omega) (by omega)) (fun i n1 n2 => by rw [x1 119 (by omega) (by omega) (by omega)])
    · have c3 : M 87 2 ≠ 0 := c2
      obtain ⟨i1, i2, i3⟩ := id h5
      have c4 : M 87 2 = 1 := by rcases i2 with q | q; exact absurd q c3; exact q
      obtain ⟨i4, i5⟩ := i3 c4
      show J l z X _ mX2_giveBack (0, 0) 0 [jR 87, jR 1, jR 68] [] (jG, M) _
      refine b_X2_giveBack_0 im_87 (c_tk_1_88 (fun M1 e4 e5 e6 e7 f1 f2 f3 f4 fo fi => ?_))
      refine b_X2_giveBack_8 im_87 (c_ts_68_93 (fun M2 s2 t1 t2 to ti => ?_))
      refine b_X2_giveBack_16 im_87 ?_
      refine b_X9_restore_44 ⟨_, _, rfl, rfl, ?_⟩
      have m120 : M2 120 1 = M 87 2 := by rw [to 120 (by omega), fo 120 (by omega), i1]
      refine b_X10_restore_0 (fun _ => by omega) (fun _ => by omega) (fun _ _ => jInd (by omega)) (fun _ _ => ?_) (fun _ q => absurd (m120.symm.trans q) c3) (fun q => absurd c q)
      generalize hM4 : jupd (jupd M2 96 36 (60 * 1)) 96 37 0 = M4
      have u0 : ∀ c : Nat, (5 < c) → (c < 68 ∨ 70 < c) → c ≠ 96 → M4 c = M c := fun c hc hc2 hn => by
        rw [← hM4, jupd_ne _ _ _ hn, jupd_ne _ _ _ hn, to c (by omega), fo c (by omega)]
      have u1 : ∀ i : Int, i ≠ 36 → i ≠ 37 → M4 96 i = M 96 i := fun i hi hj => by
        rw [← hM4, jupd_i _ _ _ _ hj, jupd_i _ _ _ _ hi, to 96 (by omega), fo 96 (by omega)]
      have u3 : ∀ c : Nat, 1 ≤ c → c ≤ 5 → M4 c = M1 c := fun c ha hb => by
        rw [← hM4, jupd_ne _ _ _ (by omega), jupd_ne _ _ _ (by omega), to c (by omega)]
      have u4 : ∀ c : Nat, 68 ≤ c → c ≤ 70 → M4 c = M2 c := fun c ha hb => by
        rw [← hM4, jupd_ne _ _ _ (by omega), jupd_ne _ _ _ (by omega)]
      have g1 : ∀ c : Nat, 93 ≤ c → c ≤ 95 → M1 c = M c := fun c hc _ => fo c (by omega)
      have g36 : M4 96 36 = 60 := by rw [← hM4]; simp [jupd]
      have g37 : M4 96 37 = 0 := by rw [← hM4]; simp [jupd]
      clear hM4
      refine c_X10_passAll (o := 60) (w := 0) (by omega) g36 g37 ?_
      refine b_X10_restore_42 ⟨rfl, _, rfl, ?_⟩
      have n119 : M4 119 = M 119 := u0 119 (by omega) (by omega) (by omega)
      have w1 : ∀ (c : Nat), (c < 96 ∨ 102 < c) → PM M4 60 0 45 c = M4 c := fun c n1 => funext fun i => by
        by_cases q : c = 119
        · rw [q, PM0_119]
        · rw [PM_o n1 q]
      have w2 : ∀ i : Int, 0 ≤ i → i < 4 → PM M4 60 0 45 96 i = M 119 (60 + i) := fun i n1 n2 => by rw [PM0_96 ⟨n1, n2⟩, n119]
      have w3 : PM M4 60 0 45 96 10 = M 119 (60 + 4) := by rw [PM0_10, n119]
      have w4 : ∀ (r : Nat) (i : Int), r ≤ 3 → 0 ≤ i → i < 6 → PM M4 60 0 45 (97 + r) i = M 119 (60 + 5 + r + 4 * i) := fun r i n0 n1 n2 => by
        rw [PM0_a (by omega) ⟨n1, n2⟩, n119]; congr 1; omega
      have w5 : ∀ (r : Nat) (i : Int), r ≤ 1 → 0 ≤ i → i < 8 → PM M4 60 0 45 (101 + r) i = M 119 (60 + 29 + r + 2 * i) := fun r i n0 n1 n2 => by
        rw [PM0_b (by omega) ⟨n1, n2⟩, n119]; congr 1; omega
      have w6 : PM M4 60 0 45 96 12 = M 96 12 := by
        rw [← u1 12 (by omega) (by omega)]
        simp [PM]
      generalize PM M4 60 0 45 = M6 at w1 w2 w3 w4 w5 w6
      have x1 : ∀ c : Nat, 5 < c → (c < 68 ∨ 70 < c) → (c < 96 ∨ 103 ≤ c) → M6 c = M c := fun c n1 n2 n3 => (w1 c (by omega)).trans (u0 c n1 n2 (by omega))
      refine ⟨?_, ?_, ?_, ?_, ?_⟩
      · unfold iHill
        rw [w1 1 (by omega), w1 2 (by omega), w1 3 (by omega), w1 4 (by omega), w1 5 (by omega), u3 1 (by omega) (by omega), u3 2 (by omega) (by omega), u3 3 (by omega) (by omega), u3 4 (by omega) (by omega), u3 5 (by omega) (by omega), e4, e5, e6, e7, f1, f2, f3, f4, w2 0 (by omega) (by omega), w2 1 (by omega) (by omega), w2 2 (by omega) (by omega), w2 3 (by omega) (by omega)]
        refine hR_eq i4 (fun j j0 j1 => ⟨by simp [j0, j1], by simp [j0, j1], by simp [j0, j1], by simp [j0, j1], ?_, ?_, ?_, ?_⟩)
        · exact (w4 0 j (by omega) j0 j1).trans (by congr 1)
        · exact (w4 1 j (by omega) j0 j1).trans (by congr 1)
        · exact (w4 2 j (by omega) j0 j1).trans (by congr 1)
        · exact (w4 3 j (by omega) j0 j1).trans (by congr 1)
      · have hn := i5.2.2.1
        unfold iSig
        rw [w1 68 (by omega), w1 69 (by omega), w1 70 (by omega), u4 68 (by omega) (by omega), u4 69 (by omega) (by omega), u4 70 (by omega) (by omega), s2, t1, t2, w3, g1 93 (by omega) (by omega), g1 94 (by omega) (by omega), g1 95 (by omega) (by omega)]
        refine sR_eq i5 (fun i i0 i1 => ?_)
        have i9 : i < 8 := Int.lt_of_lt_of_le i1 hn
        refine ⟨by simp [i0, i9], by simp [i0, i9], ?_, ?_⟩
        · exact (w5 0 i (by omega) i0 i9).trans (by congr 1)
        · exact (w5 1 i (by omega) i0 i9).trans (by congr 1)
      · unfold iPad
        rw [x1 6 (by omega) (by omega) (by omega), x1 7 (by omega) (by omega) (by omega), x1 103 (by omega) (by omega) (by omega), w6]
        exact h3
      · exact iImg_same h4 (by rw [x1 120 (by omega) (by omega) (by omega)]) (fun c n1 n2 => x1 c (by omega) (by omega) (by omega)) (fun i n1 n2 => by rw [x1 119 (by omega) (by omega) (by omega)])
      · exact iImg_same h5 (by rw [x1 120 (by omega) (by omega) (by omega)]) (fun c n1 n2 => x1 c (by omega) (by omega) (by omega)) (fun i n1 n2 => by rw [x1 119 (by omega) (by omega) (by omega)])
  · refine ⟨_, _, rfl, rfl, ?_⟩
    obtain rfl | rfl : a = 0 ∨ a = 1 := by omega
    · have c3 : M 78 2 = 0 := c2
      exact b_X10_restore_0 (fun _ => by omega) (fun _ => by omega) (fun _ q => absurd (h4.1.trans c3) q) (fun _ q => absurd (h4.1.trans c3) q) (fun _ _ => ⟨rfl, _, rfl, hI⟩) (fun q => absurd c q)
    · have c3 : M 87 2 = 0 := c2
      exact b_X10_restore_0 (fun _ => by omega) (fun _ => by omega) (fun _ q => absurd (h5.1.trans c3) q) (fun _ q => absurd (h5.1.trans c3) q) (fun _ _ => ⟨rfl, _, rfl, hI⟩) (fun q => absurd c q)
end IMG2
