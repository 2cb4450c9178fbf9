/-! ## the class's tables of ages, all days -/
def cnD (M : Nat → Int → Int) (d : Nat) : Int := M 43 ((d : Int) * 3) * M 43 ((d : Int) * 3 + 1) * M 43 ((d : Int) * 3 + 2)
def stA (M : Nat → Int → Int) : Nat → Int
  | 0 => 0
  | d + 1 => stA M d + cnD M d
def sB : Nat → Int
  | 0 => 0
  | d + 1 => sB d + (2 * (d : Int) + 1) * (2 * (d : Int) + 1) * (2 * (d : Int) + 1)
theorem stA_s (M : Nat → Int → Int) (d : Nat) : stA M (d + 1) = stA M d + cnD M d := rfl
theorem sB_s (d : Nat) : sB (d + 1) = sB d + (2 * (d : Int) + 1) * (2 * (d : Int) + 1) * (2 * (d : Int) + 1) := rfl
theorem mul_rng {a b A B : Int} (ha : 0 ≤ a ∧ a ≤ A) (hb : 0 ≤ b ∧ b ≤ B) : 0 ≤ a * b ∧ a * b ≤ A * B := ⟨Int.mul_nonneg ha.1 hb.1, Int.mul_le_mul ha.2 hb.2 hb.1 (by omega)⟩
theorem stA_ext {M M' : Nat → Int → Int} : ∀ d : Nat, (∀ j : Int, 0 ≤ j → j < (d : Int) * 3 → M' 43 j = M 43 j) → stA M' d = stA M d := by
  intro d
  induction d with
  | zero => intro _; rfl
  | succ d ih =>
    intro h
    rw [stA_s, stA_s, ih (fun j j0 j1 => h j j0 (by omega))]
    unfold cnD
    rw [h _ (by omega) (by omega), h _ (by omega) (by omega), h _ (by omega) (by omega)]
def xS (M : Nat → Int → Int) (s : Int) : Int := if hasB (M 1 4) (M 20 s) = true then M 2 (M 20 s) else 0
def tabs (M M1 : Nat → Int → Int) (v m N : Int) : Prop := (∀ c : Nat, ¬ (22 ≤ c ∧ c ≤ 62) → c ≠ 64 → M1 c = M c) ∧ (∀ (d : Nat) (s : Int), 0 ≤ s → s < 3 → (d : Int) * 3 + s < N → rowA M1 (qS M s) (xS M s) d ((d : Int) * 3 + s)) ∧ (∀ (d : Nat) (s : Int), 0 ≤ s → s < 3 → (d : Int) * 3 + s + 3 < N → rowN M1 (qS M s) v (m - d) ((d : Int) * 3 + s)) ∧ (∀ s : Int, 0 ≤ s → s < 3 → s < N → M1 43 s = 1 ∧ M1 (22 + s.toNat) 0 = xS M s)
theorem cnD_rng {M M1 : Nat → Int → Int} {v m N : Int} {d : Nat} (h : tabs M M1 v m N) (hN : (d : Int) * 3 + 2 < N) : 0 ≤ cnD M1 d ∧ cnD M1 d ≤ (2 * (d : Int) + 1) * (2 * (d : Int) + 1) * (2 * (d : Int) + 1) := by
  have h0 := h.2.1 d 0 (by omega) (by omega) (by omega)
  have h1 := h.2.1 d 1 (by omega) (by omega) (by omega)
  have h2 := h.2.1 d 2 (by omega) (by omega) (by omega)
  rw [Int.add_zero] at h0
  exact mul_rng (mul_rng ⟨h0.1, rowA_cnt h0⟩ ⟨h1.1, rowA_cnt h1⟩) ⟨h2.1, rowA_cnt h2⟩
theorem stA_rng {M M1 : Nat → Int → Int} {v m N : Int} (h : tabs M M1 v m N) : ∀ d : Nat, (d : Int) * 3 ≤ N → 0 ≤ stA M1 d ∧ stA M1 d ≤ sB d := by
  intro d
  induction d with
  | zero => intro _; exact ⟨Int.le_refl _, Int.le_refl _⟩
  | succ d ih =>
    intro hN
    have := ih (by omega)
    have := cnD_rng (d := d) h (by omega)
    rw [stA_s, sB_s]
    omega
theorem sB_6 : ∀ d : Nat, d ≤ 6 → 0 ≤ sB d ∧ sB d ≤ 2556 := by decide +kernel
theorem sB_7 : ∀ d : Nat, d ≤ 7 → 0 ≤ sB d ∧ sB d ≤ 5000 := by decide +kernel
theorem sB_mono {d m : Nat} (h : d < m) (hm : m ≤ 6) : sB (d + 1) ≤ 2556 := (sB_6 (d + 1) (by omega)).2
section LISTS
variable {l : Launch} {z dd : Nat} {X : jX} {M : Nat → Int → Int} {Q : Option jV → jM → Prop}
theorem tabs_next {M1 M2 : Nat → Int → Int} {v m : Int} {d : Nat} {s : Int} (hd : d ≤ 5) (hs : 0 ≤ s ∧ s < 3) (h : tabs M M1 v m (((d + 1 : Nat) : Int) * 3 + s)) (f : frN M1 M2 ((d : Int) * 3 + s)) (ra : rowA M2 (qS M s) (xS M s) (d + 1) ((d : Int) * 3 + s + 3)) (rn : rowN M2 (qS M s) v (m - d) ((d : Int) * 3 + s)) : tabs M M2 v m (((d + 1 : Nat) : Int) * 3 + s + 1) := by
  obtain ⟨f1, f2⟩ := f
  obtain ⟨t1, t2, t3, t4⟩ := h
  refine ⟨fun c c1 c2 => ?_, fun d2 s2 s0 s1 hN => ?_, fun d2 s2 s0 s1 hN => ?_, fun s2 s0 s1 hN => ?_⟩
  · rw [f1 c (by omega) (by omega) (by omega)]
    exact t1 c c1 c2
  · by_cases e : (d2 : Int) * 3 + s2 = (d : Int) * 3 + s + 3
    · have e1 : d2 = d + 1 := by omega
      have e2 : s2 = s := by omega
      subst e1
      subst e2
      rw [e]
      exact ra
    · exact rowA_same (f2 _ (by omega)) (f1 _ (by omega) (by omega) (by omega)) (t2 d2 s2 s0 s1 (by omega))
  · by_cases e : (d2 : Int) * 3 + s2 = (d : Int) * 3 + s
    · have e1 : d2 = d := by omega
      have e2 : s2 = s := by omega
      subst e1
      subst e2
      exact rn
    · exact rowN_same (f2 _ (by omega)) (f1 _ (by omega) (by omega) (by omega)) (f2 _ (by omega)) (f1 _ (by omega) (by omega) (by omega)) (f1 _ (by omega) (by omega) (by omega)) (t3 d2 s2 s0 s1 (by omega))
  · rw [f2 _ (by omega), f1 (22 + s2.toNat) (by omega) (by omega) (by omega)]
    exact t4 s2 s0 s1 (by omega)
theorem tabs_first {M1 : Nat → Int → Int} {v m : Int} {s : Int} (hs : 0 ≤ s ∧ s < 3) (hx : rgA (qS M s) (xS M s)) (h : tabs M M1 v m s) : tabs M (jupd (jupd M1 (22 + s.toNat) 0 (xS M s)) 43 s 1) v m (s + 1) := by
  obtain ⟨t1, t2, t3, t4⟩ := h
  have g43 : ∀ j : Int, jupd (jupd M1 (22 + s.toNat) 0 (xS M s)) 43 s 1 43 j = if j = s then 1 else M1 43 j := by
    intro j
    rw [jupd_c, if_pos rfl]
    rw [jupd_h _ _ _ _ (by omega)]
  have gr : ∀ j : Int, jupd (jupd M1 (22 + s.toNat) 0 (xS M s)) 43 s 1 (22 + s.toNat) j = if j = 0 then xS M s else M1 (22 + s.toNat) j := by
    intro j
    rw [jupd_c, if_neg (by omega), jupd_c, if_pos rfl]
  have go : ∀ c : Nat, c ≠ 43 → c ≠ 22 + s.toNat → jupd (jupd M1 (22 + s.toNat) 0 (xS M s)) 43 s 1 c = M1 c := by
    intro c c1 c2
    rw [jupd_c, if_neg c1, jupd_c, if_neg c2]
  refine ⟨fun c c1 c2 => ?_, fun d2 s2 s0 s1 hN => ?_, fun d2 s2 s0 s1 hN => absurd hN (by omega), fun s2 s0 s1 hN => ?_⟩
  · rw [go c (by omega) (by omega)]
    exact t1 c c1 c2
  · have e1 : d2 = 0 := by omega
    subst e1
    rw [show ((0 : Nat) : Int) * 3 + s2 = s2 by omega] at *
    by_cases e : s2 = s
    · subst e
      unfold rowA
      rw [g43, if_pos rfl]
      refine ⟨by omega, fun i i0 i1 => ?_, fun i j i0 i1 i2 => absurd i1 (by omega)⟩
      rw [gr, if_pos (by omega)]
      exact ⟨hx, List.mem_singleton.mpr rfl⟩
    · have k := t2 0 s2 s0 s1 (by omega)
      rw [show ((0 : Nat) : Int) * 3 + s2 = s2 by omega] at k
      exact rowA_same (by rw [g43, if_neg e]) (go _ (by omega) (by omega)) k
  · by_cases e : s2 = s
    · subst e
      rw [g43, if_pos rfl, gr, if_pos rfl]
      exact ⟨rfl, rfl⟩
    · rw [g43, if_neg e, go _ (by omega) (by omega)]
      exact t4 s2 s0 s1 (by omega)
theorem c_X3_listAges_24 {v m : Int} (hm : 0 ≤ m ∧ m ≤ 6) (hv : M 19 9 = v) (h7 : M 19 7 = m) (hv0 : 0 ≤ v) (hst : ∀ s : Int, 0 ≤ s → s < 3 → hasB (M 1 4) (M 20 s) = true ∨ M 20 s = -6) (hx : ∀ s : Int, 0 ≤ s → s < 3 → rgA (qS M s) (xS M s)) {d : Nat} {s : Int} (hs : 0 ≤ s ∧ s < 3) (hd : (d : Int) ≤ m) {M1 : Nat → Int → Int} (ht : tabs M M1 v m ((d : Int) * 3 + s)) {x2 x4 : Int} (h4 : 0 ≤ x4 ∧ x4 ≤ 1000) (hk : ∀ M2, tabs M M2 v m ((d : Int) * 3 + s + 1) → (∀ j : Int, j ≠ (d : Int) * 3 + s → M2 43 j = M1 43 j) → M2 64 = M1 64 → J l z X (dd + 3) mX3_listAges (0, 0) 24 [jR 19, jR 1, jI x2, jI (d : Int), jI (x4 * M2 43 ((d : Int) * 3 + s)), jI (s + 1), jN] [] (jG, M2) Q) : J l z X (dd + 3) mX3_listAges (0, 0) 24 [jR 19, jR 1, jI x2, jI (d : Int), jI x4, jI s, jN] [] (jG, M1) Q := by
  have e1 : M1 1 = M 1 := ht.1 1 (by omega) (by omega)
  have e2 : M1 2 = M 2 := ht.1 2 (by omega) (by omega)
  have e20 : M1 20 = M 20 := ht.1 20 (by omega) (by omega)
  have e3 : M1 3 = M 3 := ht.1 3 (by omega) (by omega)
  have e4 : M1 4 = M 4 := ht.1 4 (by omega) (by omega)
  have e19 : M1 19 = M 19 := ht.1 19 (by omega) (by omega)
  have eq1 : qS M1 s = qS M s := by unfold qS; rw [e1, e3, e4, e20]
  have h102 : ∀ M2, tabs M M2 v m ((d : Int) * 3 + s + 1) → (∀ j : Int, j ≠ (d : Int) * 3 + s → M2 43 j = M1 43 j) → M2 64 = M1 64 → J l z X (dd + 3) mX3_listAges (0, 0) 102 [jR 19, jR 1, jI x2, jI (d : Int), jI x4, jI s, jI ((d : Int) * 3 + s)] [] (jG, M2) Q := by
    intro M2 t2 f2 g2
    have hr := t2.2.1 d s hs.1 hs.2 (by omega)
    have hc := rowA_cnt hr
    have := mul_rng h4 ⟨hr.1, hc⟩
    have : 1000 * (2 * (d : Int) + 1) ≤ 1000 * 13 := by omega
    exact b_X3_listAges_102 (by omega) (by omega) (jInd (by omega)) (jInd (by omega)) (hk M2 t2 f2 g2)
  have hs3 : ¬ 3 ≤ s := by omega
  refine b_X3_listAges_24 (fun c => absurd c hs3) (fun c => absurd c hs3) (fun c => absurd c hs3) (fun c => absurd c hs3) (fun _ => jInd (by omega)) (fun _ => jInd (by omega)) (fun _ _ => jInd (by omega)) (fun _ _ => by omega) (fun _ _ => by omega) (fun _ _ => hs.1) (fun _ _ => hs.2) (fun _ _ _ => hs.1) (fun _ _ _ => hs.2) (fun _ _ g => (hasB_in g).1) (fun _ _ g => (hasB_in g).2) (fun c => absurd c hs3) (fun _ c => ?_) (fun _ c g => ?_) (fun _ c g => ?_)
  · obtain ⟨d', rfl⟩ : ∃ d' : Nat, d = d' + 1 := ⟨d - 1, by omega⟩
    rw [show ((d' + 1 : Nat) : Int) - 1 = (d' : Int) by omega]
    have hr := ht.2.1 d' s hs.1 hs.2 (by omega)
    refine c_X3_listNext (q := qS M s) (x0 := xS M s) (v := v) (m := m) rfl (by omega) hm.2 hs eq1 (by rw [e19]; exact hv) (by rw [e19]; exact h7) (hx s hs.1 hs.2) (by rw [e1, e20]; exact hst s hs.1 hs.2) hv0 hr (fun M2 f ra rn => ?_)
    exact h102 M2 (tabs_next (by omega) hs ht f ra rn) (fun j hj => f.2 j (by omega)) (f.1 64 (by omega) (by omega) (by omega))
  all_goals
    have ed : d = 0 := by omega
    subst ed
    rw [e1, e20] at g
    have ex : ((0 : Nat) : Int) * 3 + s = s := by omega
    rw [ex] at ht h102 ⊢
    have hx2 : tabs M (jupd (jupd M1 (22 + s.toNat) 0 (xS M s)) 43 s 1) v m (s + 1) := tabs_first hs (hx s hs.1 hs.2) ht
    refine b_X3_listAges_80 (gr_21 hs.1 (by omega)).2 (by omega) (by omega) hs.1 (by omega) ?_
  · have : M1 2 (M1 20 s) = xS M s := by unfold xS; rw [if_pos g, e2, e20]
    rw [this]
    refine h102 _ hx2 (fun j hj => ?_) ?_
    · rw [jupd_i _ _ _ _ hj, jupd_h _ _ _ _ (by omega)]
    · rw [jupd_c, if_neg (by omega), jupd_c, if_neg (by omega)]
  · have : (0 : Int) = xS M s := by unfold xS; rw [if_neg (by rw [g]; decide)]
    rw [← this] at hx2
    refine h102 _ hx2 (fun j hj => ?_) ?_
    · rw [jupd_i _ _ _ _ hj, jupd_h _ _ _ _ (by omega)]
    · rw [jupd_c, if_neg (by omega), jupd_c, if_neg (by omega)]
theorem c_X3_listAges {v m : Int} (hm : 0 ≤ m ∧ m ≤ 6) (hv : M 19 9 = v) (h7 : M 19 7 = m) (hv0 : 0 ≤ v) (hst : ∀ s : Int, 0 ≤ s → s < 3 → hasB (M 1 4) (M 20 s) = true ∨ M 20 s = -6) (hx : ∀ s : Int, 0 ≤ s → s < 3 → rgA (qS M s) (xS M s)) (hk : ∀ M2, tabs M M2 v m (m * 3 + 3) → (∀ d : Nat, (d : Int) ≤ m → M2 64 d = stA M2 d) → Q none (jG, M2)) : J l z X (dd + 3) mX3_listAges (0, 0) 0 [jR 19, jR 1, jN, jN, jN, jN, jN] [] (jG, M) Q := by
  have hloop : ∀ (n : Nat) (d : Nat) (M1 : Nat → Int → Int), (d : Int) = m + 1 - (n : Int) → tabs M M1 v m ((d : Int) * 3) → (∀ d' : Nat, d' < d → M1 64 d' = stA M1 d') → J l z X (dd + 3) mX3_listAges (0, 0) 4 [jR 19, jR 1, jI (stA M1 d), jI (d : Int), jN, jN, jN] [] (jG, M1) Q := by
    intro n
    induction n with
    | zero =>
      intro d M1 hn ht hs
      have e19 : M1 19 = M 19 := ht.1 19 (by omega) (by omega)
      refine b_X3_listAges_4 (fun _ => hk M1 ?_ (fun d' hd' => hs d' (by omega))) (fun c => absurd c (by rw [e19, h7]; omega)) (fun c => absurd c (by rw [e19, h7]; omega))
      rw [show m * 3 + 3 = (d : Int) * 3 by omega]
      exact ht
    | succ n ih =>
      intro d M1 hn ht hs
      have e19 : M1 19 = M 19 := ht.1 19 (by omega) (by omega)
      refine b_X3_listAges_4 (fun c => absurd c (by rw [e19, h7]; omega)) (fun _ c => absurd c (by omega)) (fun _ _ => ?_)
      have ht0 := ht
      rw [show (d : Int) * 3 = (d : Int) * 3 + 0 by omega] at ht0
      refine c_X3_listAges_24 (d := d) (s := 0) hm hv h7 hv0 hst hx (by omega) (by omega) ht0 (by omega) (fun M2 t2 f2 g2 => ?_)
      have b2 := t2.2.1 d 0 (by omega) (by omega) (by omega)
      have c2 := rowA_cnt b2
      have p2 : 0 ≤ 1 * M2 43 ((d : Int) * 3 + 0) ∧ 1 * M2 43 ((d : Int) * 3 + 0) ≤ 13 := by have := b2.1; omega
      refine c_X3_listAges_24 (d := d) (s := 1) hm hv h7 hv0 hst hx (by omega) (by omega) t2 (by omega) (fun M3 t3 f3 g3 => ?_)
      have b3 := t3.2.1 d 1 (by omega) (by omega) (by omega)
      have c3 := rowA_cnt b3
      have p3 := mul_rng p2 (B := 13) (b := M3 43 ((d : Int) * 3 + 1)) ⟨b3.1, by omega⟩
      refine c_X3_listAges_24 (d := d) (s := 2) hm hv h7 hv0 hst hx (by omega) (by omega) t3 (by omega) (fun M4 t4 f4 g4 => ?_)
      have e0 : M2 43 ((d : Int) * 3 + 0) = M4 43 ((d : Int) * 3) := by rw [Int.add_zero, f4 _ (by omega), f3 _ (by omega)]
      have e1 : M3 43 ((d : Int) * 3 + 1) = M4 43 ((d : Int) * 3 + 1) := by rw [f4 _ (by omega)]
      have ew : 1 * M2 43 ((d : Int) * 3 + 0) * M3 43 ((d : Int) * 3 + 1) * M4 43 ((d : Int) * 3 + 2) = cnD M4 d := by
        unfold cnD
        rw [e0, e1, Int.one_mul]
      have es : stA M1 d = stA M4 d := (stA_ext d (fun j j0 j1 => by rw [f4 _ (by omega), f3 _ (by omega), f2 _ (by omega)])).symm
      have b4 := stA_rng t4 d (by omega)
      have b5 := stA_rng t4 (d + 1) (by omega)
      have b6 := sB_7 (d + 1) (by omega)
      rw [stA_s] at b5
      rw [ew, es]
      refine b_X3_listAges_24 (fun _ => by omega) (fun _ => by omega) (fun _ => jInd (by omega)) (fun _ => jInd (by omega)) (fun c => absurd c (by omega)) (fun c => absurd c (by omega)) (fun c => absurd c (by omega)) (fun c => absurd c (by omega)) (fun c => absurd c (by omega)) (fun c => absurd c (by omega)) (fun c => absurd c (by omega)) (fun c => absurd c (by omega)) (fun c => absurd c (by omega)) (fun c => absurd c (by omega)) (fun c => absurd c (by omega)) (fun _ => ?_) (fun c => absurd c (by omega)) (fun c => absurd c (by omega)) (fun c => absurd c (by omega))
      have g43 : jupd M4 64 (d : Int) (stA M4 d) 43 = M4 43 := by rw [jupd_c, if_neg (by omega)]
      have gs : ∀ d' : Nat, stA (jupd M4 64 (d : Int) (stA M4 d)) d' = stA M4 d' := fun d' => stA_ext d' (fun j _ _ => by rw [g43])
      rw [← stA_s, ← gs, show (d : Int) + 1 = ((d + 1 : Nat) : Int) by omega]
      refine ih (d + 1) _ (by omega) ?_ (fun d' hd' => ?_)
      · obtain ⟨u1, u2, u3, u4⟩ := t4
        have go : ∀ c : Nat, c ≠ 64 → jupd M4 64 (d : Int) (stA M4 d) c = M4 c := fun c hc => by rw [jupd_c, if_neg hc]
        refine ⟨fun c c1 c2 => by rw [go c c2]; exact u1 c c1 c2, fun d2 s2 s0 s1 hN => rowA_same (by rw [g43]) (go _ (by omega)) (u2 d2 s2 s0 s1 (by omega)), fun d2 s2 s0 s1 hN => rowN_same (by rw [g43]) (go _ (by omega)) (by rw [g43]) (go _ (by omega)) (go _ (by omega)) (u3 d2 s2 s0 s1 (by omega)), fun s2 s0 s1 hN => by rw [g43, go _ (by omega)]; exact u4 s2 s0 s1 (by omega)⟩
      · rw [gs]
        by_cases e : d' = d
        · subst e
          rw [jupd_s]
        · rw [jupd_i _ _ _ _ (by omega), g4, g3, g2, hs d' (by omega)]
          exact (stA_ext d' (fun j j0 j1 => by rw [f4 _ (by omega), f3 _ (by omega), f2 _ (by omega)])).symm
  refine b_X3_listAges_0 ?_
  have := hloop (m + 1).toNat 0 M (by omega) ⟨fun c _ _ => rfl, fun d s s0 s1 h => absurd h (by omega), fun d s s0 s1 h => absurd h (by omega), fun s s0 s1 h => absurd h (by omega)⟩ (fun d' h => absurd h (by omega))
  exact this
end LISTS
