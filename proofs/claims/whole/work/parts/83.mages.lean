/-! ## the reference's list of ages -/
theorem RcL_no {q : qT} {x0 a : Int} {d : Nat} (hq : q.1 = false) (h : a ∈ RcL q x0 d) : a = x0 := by
  have hc : ∀ (n : Nat) (p : Int), chn q n p x0 = x0 := by
    intro n
    induction n with
    | zero => intro p; rfl
    | succ n ih =>
      intro p
      show chn q n x0 (oth q p x0) = x0
      have : oth q p x0 = x0 := by
        unfold oth
        rw [stp_no hq, stp_no hq, if_pos (Or.inr rfl)]
      rw [this]
      exact ih x0
  rcases (RcL_mem d).mp h with h | ⟨i, -, h | h⟩
  · exact h
  · rw [h, stp_no hq]; exact hc i x0
  · rw [h, stp_no hq]; exact hc i x0
def agB (M : Nat → Int → Int) (i k : Int) : Int := M 111 (26 * i + k)
def rowB (M : Nat → Int → Int) (q : qT) (x0 : Int) (d : Nat) (i : Int) : Prop := 1 ≤ M 112 i ∧ (∀ k : Int, 0 ≤ k → k < M 112 i → rgA q (agB M i k) ∧ agB M i k ∈ RcL q x0 d) ∧ ∀ j k : Int, 0 ≤ j → j < k → k < M 112 i → agB M i j ≠ agB M i k
theorem rowB_cnt {M : Nat → Int → Int} {q : qT} {x0 : Int} {d : Nat} {i : Int} (h : rowB M q x0 d i) : M 112 i ≤ 2 * (d : Int) + 1 := age_cnt (f := agB M i) (fun k k0 k1 => (h.2.1 k k0 k1).2) h.2.2
def addB (M : Nat → Int → Int) (i a : Int) : Nat → Int → Int := jupd (jupd M 111 (26 * i + M 112 i) a) 112 i (M 112 i + 1)
theorem addB_112 {M : Nat → Int → Int} {i a j : Int} : addB M i a 112 j = if j = i then M 112 i + 1 else M 112 j := by
  unfold addB
  rw [jupd_c, if_pos rfl]
  rw [jupd_h _ _ _ _ (by omega)]
theorem addB_111 {M : Nat → Int → Int} {i a j : Int} : addB M i a 111 j = if j = 26 * i + M 112 i then a else M 111 j := by
  unfold addB
  rw [jupd_c, if_neg (by omega), jupd_c, if_pos rfl]
theorem addB_o {M : Nat → Int → Int} {i a : Int} {c : Nat} (h1 : c ≠ 111) (h2 : c ≠ 112) : addB M i a c = M c := by
  unfold addB
  rw [jupd_c, if_neg h2, jupd_c, if_neg h1]
theorem rowB_add {M : Nat → Int → Int} {q : qT} {x0 : Int} {d : Nat} {i a : Int} (h : rowB M q x0 d i) (ha : rgA q a ∧ a ∈ RcL q x0 d) (hn : ∀ j : Int, 0 ≤ j → j < M 112 i → agB M i j ≠ a) : rowB (addB M i a) q x0 d i := by
  have hag : ∀ k : Int, agB (addB M i a) i k = if k = M 112 i then a else agB M i k := by
    intro k
    unfold agB
    rw [addB_111]
    by_cases e : k = M 112 i
    · rw [if_pos e, if_pos (by omega)]
    · rw [if_neg e, if_neg (by omega)]
  unfold rowB
  rw [addB_112, if_pos rfl]
  refine ⟨by have := h.1; omega, fun k k0 k1 => ?_, fun j k j0 j1 j2 => ?_⟩
  · rw [hag]
    by_cases e : k = M 112 i
    · rw [if_pos e]; exact ha
    · rw [if_neg e]; exact h.2.1 k k0 (by omega)
  · rw [hag, hag, if_neg (by omega)]
    by_cases e : k = M 112 i
    · rw [if_pos e]; exact hn j j0 (by omega)
    · rw [if_neg e]; exact h.2.2 j k j0 j1 (by omega)
def nxB (M : Nat → Int → Int) (q : qT) (v i k e w : Int) : Prop := (okE q v e (agB M i k) = true → (0 ≤ w ∧ w < M 112 i) ∧ agB M i w = stp q e (agB M i k)) ∧ (okE q v e (agB M i k) = false → w = -6)
/-- whose seat it is -/
def whoB (M : Nat → Int → Int) (q : qT) (i : Int) : Prop := (q.1 = true ∧ (0 ≤ M 110 i ∧ M 110 i < 6) ∧ q.2.1 = M 98 (M 110 i) ∧ q.2.2 = M 99 (M 110 i)) ∨ (q.1 = false ∧ M 110 i < 0)
/-- while a day's ages of a seat are laid -/
def invB (M M1 : Nat → Int → Int) (q : qT) (x0 v : Int) (d : Nat) (i many j : Int) : Prop := (∀ c : Nat, c ≠ 111 → c ≠ 112 → c ≠ 113 → M1 c = M c) ∧ (∀ p : Int, ¬ (26 * i + many ≤ p ∧ p < 26 * i + 26) → M1 111 p = M 111 p) ∧ (∀ p : Int, p ≠ i → M1 112 p = M 112 p) ∧ (∀ p : Int, ¬ (78 * i ≤ p ∧ p < 78 * i + 78) → M1 113 p = M 113 p) ∧ many ≤ M1 112 i ∧ rowB M1 q x0 (d + 1) i ∧ ∀ j' : Int, 0 ≤ j' → j' < j → nxB M1 q v i (j' / 3) (j' % 3) (M1 113 (78 * i + j'))
section MAGES
variable {l : Launch} {z dd : Nat} {X : jX} {M : Nat → Int → Int} {Q : Option jV → jM → Prop}
theorem c_X10_ageAt {i a : Int} (hi : 0 ≤ i ∧ i < 3) (hn : 0 ≤ M 112 i ∧ M 112 i ≤ 26) (hx : (∀ j : Int, 0 ≤ j → j < M 112 i → agB M i j ≠ a) → M 112 i < 26) (k1 : ∀ j : Int, 0 ≤ j → j < M 112 i → agB M i j = a → Q (some (jI j)) (jG, M)) (k2 : (∀ j : Int, 0 ≤ j → j < M 112 i → agB M i j ≠ a) → Q (some (jI (M 112 i))) (jG, addB M i a)) : J l z X dd mX10_ageAt (0, 0) 0 [jR 96, jI i, jI a, jN] [] (jG, M) Q := by
  have hloop : ∀ (m : Nat) (x : Int), x = M 112 i - (m : Int) → 0 ≤ x → (∀ j : Int, 0 ≤ j → j < x → agB M i j ≠ a) → J l z X dd mX10_ageAt (0, 0) 2 [jR 96, jI i, jI a, jI x] [] (jG, M) Q := by
    intro m
    induction m with
    | zero =>
      intro x hx' x0 hno
      have hno2 : ∀ j : Int, 0 ≤ j → j < M 112 i → agB M i j ≠ a := fun j j0 j1 => hno j j0 (by omega)
      have hlt := hx hno2
      have e1 : jupd M 111 (26 * i + M 112 i) a 112 i = M 112 i := by rw [jupd_c, if_neg (by omega)]
      refine b_X10_ageAt_2 hi.1 hi.2 (fun _ => jInd (by omega)) (fun _ => hi.1) (fun _ => hi.2) (fun _ => jInd (by omega)) (fun _ => by omega) (fun _ => by omega) (fun _ => by rw [e1]; exact jInd (by omega)) (fun _ => by rw [jupd_s, e1]; exact jInd (by omega)) (fun g => absurd g (by omega)) (fun g => absurd g (by omega)) (fun g => absurd g (by omega)) (fun g => absurd g (by omega)) (fun g => absurd g (by omega)) (fun _ => ?_) (fun g => absurd g (by omega)) (fun g => absurd g (by omega))
      have := k2 hno2
      unfold addB at this
      rw [jupd_s, e1, show M 112 i + 1 - 1 = M 112 i by omega]
      exact this
    | succ m ih =>
      intro x hx' x0 hno
      refine b_X10_ageAt_2 hi.1 hi.2 (fun g => absurd g (by omega)) (fun g => absurd g (by omega)) (fun g => absurd g (by omega)) (fun g => absurd g (by omega)) (fun g => absurd g (by omega)) (fun g => absurd g (by omega)) (fun g => absurd g (by omega)) (fun g => absurd g (by omega)) (fun _ => jInd (by omega)) (fun _ => jInd (by omega)) (fun _ => by omega) (fun _ => by omega) (fun _ _ => jInd (by omega)) (fun g => absurd g (by omega)) (fun _ g => ih (x + 1) (by omega) (by omega) (fun j j0 j1 => ?_)) (fun _ g => k1 x x0 (by omega) g)
      by_cases e : j = x
      · rw [e]; exact g
      · exact hno j j0 (by omega)
  exact b_X10_ageAt_0 (hloop (M 112 i).toNat 0 (by omega) (by omega) (fun j j0 j1 => absurd j1 (by omega)))
theorem invB_put {M1 : Nat → Int → Int} {q : qT} {x0 v : Int} {d : Nat} {i many j w : Int} (hj : 0 ≤ j ∧ j < 78) (h : invB M M1 q x0 v d i many j) (hw : nxB M1 q v i (j / 3) (j % 3) w) : invB M (jupd M1 113 (78 * i + j) w) q x0 v d i many (j + 1) := by
  obtain ⟨h1, h2, h3, h4, h5, h6, h7⟩ := h
  have a1 : jupd M1 113 (78 * i + j) w 111 = M1 111 := by rw [jupd_c, if_neg (by omega)]
  have a2 : jupd M1 113 (78 * i + j) w 112 = M1 112 := by rw [jupd_c, if_neg (by omega)]
  have a3 : agB (jupd M1 113 (78 * i + j) w) i = agB M1 i := by funext k; unfold agB; rw [a1]
  refine ⟨fun c c1 c2 c3 => by rw [jupd_c, if_neg c3]; exact h1 c c1 c2 c3, fun p hp => by rw [a1]; exact h2 p hp, fun p hp => by rw [a2]; exact h3 p hp, fun p hp => by rw [jupd_i _ _ _ _ (by omega)]; exact h4 p hp, by rw [a2]; exact h5, ?_, fun j' j0 j1 => ?_⟩
  · unfold rowB
    rw [a2, a3]
    exact h6
  · unfold nxB
    rw [a2, a3]
    by_cases e : j' = j
    · subst e
      rw [jupd_s]
      exact hw
    · rw [jupd_i _ _ _ _ (by omega)]
      exact h7 j' j0 (by omega)
theorem invB_add {M1 : Nat → Int → Int} {q : qT} {x0 v : Int} {d : Nat} {i many j a : Int} (hj : j ≤ 3 * many) (h26 : M1 112 i < 26) (h : invB M M1 q x0 v d i many j) (ha : rgA q a ∧ a ∈ RcL q x0 (d + 1)) (hn : ∀ k : Int, 0 ≤ k → k < M1 112 i → agB M1 i k ≠ a) : invB M (addB M1 i a) q x0 v d i many j := by
  obtain ⟨h1, h2, h3, h4, h5, h6, h7⟩ := h
  have a1 : ∀ k : Int, k < M1 112 i → agB (addB M1 i a) i k = agB M1 i k := by
    intro k hk
    unfold agB
    rw [addB_111, if_neg (by omega)]
  refine ⟨fun c c1 c2 c3 => by rw [addB_o c1 c2]; exact h1 c c1 c2 c3, fun p hp => by rw [addB_111, if_neg (by omega)]; exact h2 p hp, fun p hp => by rw [addB_112, if_neg hp]; exact h3 p hp, fun p hp => by rw [addB_o (by omega) (by omega)]; exact h4 p hp, by rw [addB_112, if_pos rfl]; omega, rowB_add h6 ha hn, fun j' j0 j1 => ?_⟩
  have k := h7 j' j0 j1
  unfold nxB at k ⊢
  rw [addB_o (c := 113) (by omega) (by omega), a1 (j' / 3) (by omega), addB_112, if_pos rfl]
  refine ⟨fun g => ?_, k.2⟩
  have k1 := k.1 g
  rw [a1 _ (by omega)]
  exact ⟨by omega, k1.2⟩
theorem c_X10_layAgeThen {q : qT} {x0 v : Int} {d : Nat} {i many j : Int} (hi : 0 ≤ i ∧ i < 3) (hd : d ≤ 5) (hv0 : 0 ≤ v) (hx : rgA q x0) (hx0 : q.1 = false → x0 = 0) (hr : rowB M q x0 d i) (hmany : M 112 i = many) (hwho : whoB M q i) (hpc : ∀ k : Int, 0 ≤ k → k < 6 → 0 ≤ M 98 k ∧ M 98 k ≤ 9) {M1 : Nat → Int → Int} (hj : 0 ≤ j ∧ j < 3 * many) (inv : invB M M1 q x0 v d i many j) (hk : ∀ M2 : Nat → Int → Int, invB M M2 q x0 v d i many (j + 1) → Q none (jG, M2)) : J l z X (dd + 1) mX10_layAgeThen (0, 0) 0 [jR 96, jI i, jI (j / 3), jI (j % 3), jI v, jN, jN, jN] [] (jG, M1) Q := by
  have hc := rowB_cnt hr
  obtain ⟨h1, h2, h3, h4, h5, h6, h7⟩ := id inv
  have hc1 := rowB_cnt h6
  have e110 : M1 110 = M 110 := h1 110 (by omega) (by omega) (by omega)
  have e98 : M1 98 = M 98 := h1 98 (by omega) (by omega) (by omega)
  have e99 : M1 99 = M 99 := h1 99 (by omega) (by omega) (by omega)
  have eag : agB M1 i (j / 3) = agB M i (j / 3) := h2 _ (by omega)
  have ha := hr.2.1 (j / 3) (by omega) (by omega)
  have hnew : rgA q (stp q (j % 3) (agB M i (j / 3))) ∧ stp q (j % 3) (agB M i (j / 3)) ∈ RcL q x0 (d + 1) := ⟨rgA_stp ha.1, RcL_step hx.1 (by omega) ha.2⟩
  have hix : 78 * i + 3 * (j / 3) + j % 3 = 78 * i + j := by omega
  have h66n : ∀ x5 x6 : Int, okE q v (j % 3) (agB M i (j / 3)) = false → J l z X (dd + 1) mX10_layAgeThen (0, 0) 66 [jR 96, jI i, jI (j / 3), jI (j % 3), jI v, jI x5, jI x6, jN] [jI 0] (jG, M1) Q := by
    intro x5 x6 ho
    refine b_X10_layAgeThen_66 (jInd (by omega)) (jInd (by omega)) (jInd (by omega)) (jInd (by omega)) (fun _ => by omega) (fun _ => by omega) (fun _ => ?_) (fun g => absurd rfl g)
    rw [hix]
    refine hk _ (invB_put (by omega) inv ⟨fun g => ?_, fun _ => rfl⟩)
    rw [eag, ho] at g
    exact absurd g (by decide)
  have h66y : ∀ x5 : Int, okE q v (j % 3) (agB M i (j / 3)) = true → J l z X (dd + 1) mX10_layAgeThen (0, 0) 66 [jR 96, jI i, jI (j / 3), jI (j % 3), jI v, jI x5, jI (stp q (j % 3) (agB M i (j / 3))), jN] [jI 1] (jG, M1) Q := by
    intro x5 ho
    refine b_X10_layAgeThen_66 (jInd (by omega)) (jInd (by omega)) (jInd (by omega)) (jInd (by omega)) (fun g => absurd g (by omega)) (fun g => absurd g (by omega)) (fun g => absurd g (by omega)) (fun _ => ?_)
    rw [hix]
    refine c_X10_ageAt hi (by omega) (fun _ => by omega) (fun w w0 w1 hw => ?_) (fun hn => ?_)
    · refine b_X10_layAgeThen_94 (by omega) (by omega) (hk _ (invB_put (by omega) inv ⟨fun _ => ⟨⟨w0, w1⟩, by rw [eag]; exact hw⟩, fun g => ?_⟩))
      rw [eag, ho] at g
      exact absurd g (by decide)
    · have inv2 := invB_add (by omega) (by omega) inv hnew hn
      refine b_X10_layAgeThen_94 (by omega) (by omega) (hk _ (invB_put (by omega) inv2 ?_))
      have eag2 : agB (addB M1 i (stp q (j % 3) (agB M i (j / 3)))) i (j / 3) = agB M i (j / 3) := inv2.2.1 _ (by omega)
      unfold nxB
      rw [eag2, addB_112, if_pos rfl]
      refine ⟨fun _ => ⟨by omega, ?_⟩, fun g => absurd (ho.symm.trans g) (by decide)⟩
      unfold agB
      rw [addB_111, if_pos rfl]
  have eag' : M1 111 (26 * i + j / 3) = agB M i (j / 3) := eag
  rcases hwho with ⟨w1, w2, w3, w4⟩ | ⟨w1, w2⟩
  · have eF : agF (M1 98 (M1 110 i)) (M1 99 (M1 110 i)) (M1 111 (26 * i + j / 3)) (j % 3) = stp q (j % 3) (agB M i (j / 3)) := by
      rw [e98, e99, e110, eag', ← w3, ← w4, ← agH_F (by omega)]
      unfold stp
      rw [w1]
    have hok : okE q v (j % 3) (agB M i (j / 3)) = decide (stp q (j % 3) (agB M i (j / 3)) ≤ v) := by
      unfold okE
      rw [if_pos w1]
    have hp98 := hpc _ w2.1 w2.2
    refine b_X10_layAgeThen_0 hi.1 hi.2 (fun _ => jInd (by omega)) (fun _ => jInd (by omega)) (fun _ => by omega) (fun _ => by omega) (fun _ => ⟨by rw [e110]; exact w2, by rw [eag']; have := ha.1.2; omega, by rw [e98, e110]; exact hp98⟩) (fun _ _ g => ?_) (fun _ _ g => ?_) (fun _ g => absurd g (by rw [e110]; omega)) (fun _ g => absurd g (by rw [e110]; omega)) (fun g => absurd g (by rw [e110]; omega))
    · rw [eF] at g
      exact h66n _ _ (by rw [hok]; exact decide_eq_false (by omega))
    · rw [eF] at g ⊢
      exact h66y _ (by rw [hok]; exact decide_eq_true g)
  · have hok : okE q v (j % 3) (agB M i (j / 3)) = decide (j % 3 = 0) := by
      unfold okE
      rw [if_neg (by rw [w1]; decide)]
    have h0 : stp q (j % 3) (agB M i (j / 3)) = 0 := by
      rw [stp_no w1, RcL_no w1 ha.2]
      exact hx0 w1
    have ng : ¬ 0 ≤ M1 110 i := by rw [e110]; omega
    refine b_X10_layAgeThen_0 hi.1 hi.2 (fun g => absurd g ng) (fun g => absurd g ng) (fun g => absurd g ng) (fun g => absurd g ng) (fun g => absurd g ng) (fun g => absurd g ng) (fun g => absurd g ng) (fun g => absurd g ng) (fun g => absurd g ng) (fun _ => b_X10_layAgeThen_35 (fun g => absurd g ng) (fun g => absurd g ng) (fun _ g => ?_) (fun _ g => ?_))
    · exact h66n _ _ (by rw [hok]; exact decide_eq_false g)
    · have := h66y (M1 110 i) (by rw [hok]; exact decide_eq_true g)
      rw [h0] at this
      exact this
end MAGES
