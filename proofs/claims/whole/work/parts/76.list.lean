/-! ## the class's tables of ages -/
def rgA (q : qT) (x : Int) : Prop := rgE q x ∧ 0 ≤ x ∧ x ≤ 99
theorem rgA_stp {q : qT} {e x : Int} (h : rgA q x) : rgA q (stp q e x) := by
  refine ⟨stp_rg h.1, ?_⟩
  cases hq : q.1 with
  | false => rw [stp_no hq]; exact h.2
  | true =>
    have h1 := (stp_rg (e := e) h.1) hq
    omega
/-- a row of ages: they differ, and each can be reached within d days -/
def rowA (M : Nat → Int → Int) (q : qT) (x0 : Int) (d : Nat) (pl : Int) : Prop := 0 ≤ M 43 pl ∧ (∀ i : Int, 0 ≤ i → i < M 43 pl → rgA q (M (22 + pl.toNat) i) ∧ M (22 + pl.toNat) i ∈ RcL q x0 d) ∧ ∀ i j : Int, 0 ≤ i → i < j → j < M 43 pl → M (22 + pl.toNat) i ≠ M (22 + pl.toNat) j
def nxW (M : Nat → Int → Int) (pl i e : Int) : Int := M (45 + pl.toNat) (i * 3 + e)
def nxt (M : Nat → Int → Int) (q : qT) (v left pl i e w : Int) : Prop := (okP q v left e (M (22 + pl.toNat) i) = true → (0 ≤ w ∧ w < M 43 (pl + 3)) ∧ M (22 + (pl + 3).toNat) w = stp q e (M (22 + pl.toNat) i)) ∧ (okP q v left e (M (22 + pl.toNat) i) = false → w = -6)
def rowN (M : Nat → Int → Int) (q : qT) (v left pl : Int) : Prop := ∀ i e : Int, 0 ≤ i → i < M 43 pl → 0 ≤ e → e < 3 → nxt M q v left pl i e (nxW M pl i e)
theorem rowA_cnt {M : Nat → Int → Int} {q : qT} {x0 : Int} {d : Nat} {pl : Int} (h : rowA M q x0 d pl) : M 43 pl ≤ 2 * (d : Int) + 1 := age_cnt (f := M (22 + pl.toNat)) (fun i i0 i1 => (h.2.1 i i0 i1).2) h.2.2
def addA (M : Nat → Int → Int) (pl a : Int) : Nat → Int → Int := jupd (jupd M (22 + pl.toNat) (M 43 pl) a) 43 pl (M 43 pl + 1)
theorem addA_43 {M : Nat → Int → Int} {pl a j : Int} (hp : 0 ≤ pl ∧ pl < 21) : addA M pl a 43 j = if j = pl then M 43 pl + 1 else M 43 j := by
  unfold addA
  rw [jupd_c, if_pos rfl]
  rw [jupd_h _ _ _ _ (by omega)]
theorem addA_r {M : Nat → Int → Int} {pl a i : Int} (hp : 0 ≤ pl ∧ pl < 21) : addA M pl a (22 + pl.toNat) i = if i = M 43 pl then a else M (22 + pl.toNat) i := by
  unfold addA
  rw [jupd_c, if_neg (by omega), jupd_c, if_pos rfl]
theorem addA_o {M : Nat → Int → Int} {pl a : Int} {c : Nat} (h1 : c ≠ 43) (h2 : c ≠ 22 + pl.toNat) : addA M pl a c = M c := by
  unfold addA
  rw [jupd_c, if_neg h1, jupd_c, if_neg h2]
theorem rowA_add {M : Nat → Int → Int} {q : qT} {x0 : Int} {d : Nat} {pl a : Int} (hp : 0 ≤ pl ∧ pl < 21) (h : rowA M q x0 d pl) (ha : rgA q a ∧ a ∈ RcL q x0 d) (hn : ∀ j : Int, 0 ≤ j → j < M 43 pl → M (22 + pl.toNat) j ≠ a) : rowA (addA M pl a) q x0 d pl := by
  unfold rowA
  rw [addA_43 hp, if_pos rfl]
  refine ⟨by have := h.1; omega, fun i i0 i1 => ?_, fun i j i0 i1 i2 => ?_⟩
  · rw [addA_r hp]
    by_cases e : i = M 43 pl
    · rw [if_pos e]; exact ha
    · rw [if_neg e]; exact h.2.1 i i0 (by omega)
  · rw [addA_r hp, addA_r hp, if_neg (by omega)]
    by_cases e : j = M 43 pl
    · rw [if_pos e]; exact hn i i0 (by omega)
    · rw [if_neg e]; exact h.2.2 i j i0 i1 (by omega)
theorem rowA_same {M M' : Nat → Int → Int} {q : qT} {x0 : Int} {d : Nat} {pl : Int} (h1 : M' 43 pl = M 43 pl) (h2 : M' (22 + pl.toNat) = M (22 + pl.toNat)) (h : rowA M q x0 d pl) : rowA M' q x0 d pl := by
  unfold rowA
  rw [h1, h2]
  exact h
theorem rowN_same {M M' : Nat → Int → Int} {q : qT} {v left pl : Int} (h1 : M' 43 pl = M 43 pl) (h2 : M' (22 + pl.toNat) = M (22 + pl.toNat)) (h3 : M' 43 (pl + 3) = M 43 (pl + 3)) (h4 : M' (22 + (pl + 3).toNat) = M (22 + (pl + 3).toNat)) (h5 : M' (45 + pl.toNat) = M (45 + pl.toNat)) (h : rowN M q v left pl) : rowN M' q v left pl := by
  unfold rowN nxt nxW
  rw [h1, h2, h3, h4, h5]
  exact h
/-- while the next day's row of a seat is laid -/
def frN (M M1 : Nat → Int → Int) (pl : Int) : Prop := (∀ c : Nat, c ≠ 43 → c ≠ 22 + (pl + 3).toNat → c ≠ 45 + pl.toNat → M1 c = M c) ∧ ∀ j : Int, j ≠ pl + 3 → M1 43 j = M 43 j
def invN (M M1 : Nat → Int → Int) (q : qT) (x0 v left : Int) (d : Nat) (pl i e : Int) : Prop := frN M M1 pl ∧ rowA M1 q x0 (d + 1) (pl + 3) ∧ ∀ i' e' : Int, 0 ≤ i' → 0 ≤ e' → e' < 3 → (i' < i ∨ (i' = i ∧ e' < e)) → nxt M1 q v left pl i' e' (nxW M1 pl i' e')
theorem invN_put {M M1 : Nat → Int → Int} {q : qT} {x0 v left : Int} {d : Nat} {pl i e w : Int} (hp : 0 ≤ pl ∧ pl < 18) (he : 0 ≤ e ∧ e < 3) (h : invN M M1 q x0 v left d pl i e) (hw : nxt M1 q v left pl i e w) : invN M (jupd M1 (45 + pl.toNat) (i * 3 + e) w) q x0 v left d pl i (e + 1) := by
  have a1 : jupd M1 (45 + pl.toNat) (i * 3 + e) w 43 = M1 43 := by rw [jupd_c, if_neg (by omega)]
  have a2 : jupd M1 (45 + pl.toNat) (i * 3 + e) w (22 + (pl + 3).toNat) = M1 (22 + (pl + 3).toNat) := by rw [jupd_c, if_neg (by omega)]
  have a3 : jupd M1 (45 + pl.toNat) (i * 3 + e) w (22 + pl.toNat) = M1 (22 + pl.toNat) := by rw [jupd_c, if_neg (by omega)]
  obtain ⟨⟨h1, h2⟩, h3, h4⟩ := h
  refine ⟨⟨fun c c1 c2 c3 => ?_, fun j hj => by rw [a1]; exact h2 j hj⟩, rowA_same (by rw [a1]) a2 h3, fun i' e' i0 e0 e1 hd => ?_⟩
  · rw [jupd_c, if_neg c3]; exact h1 c c1 c2 c3
  · unfold nxt nxW
    rw [a1, a2, a3]
    by_cases g : i' = i ∧ e' = e
    · rw [g.1, g.2, jupd_s]; exact hw
    · have : i' * 3 + e' ≠ i * 3 + e := by omega
      rw [jupd_i _ _ _ _ this]
      exact h4 i' e' i0 e0 e1 (by omega)
theorem invN_add {M M1 : Nat → Int → Int} {q : qT} {x0 v left : Int} {d : Nat} {pl i e a : Int} (hp : 0 ≤ pl ∧ pl < 18) (h : invN M M1 q x0 v left d pl i e) (ha : rgA q a ∧ a ∈ RcL q x0 (d + 1)) (hn : ∀ j : Int, 0 ≤ j → j < M1 43 (pl + 3) → M1 (22 + (pl + 3).toNat) j ≠ a) : invN M (addA M1 (pl + 3) a) q x0 v left d pl i e := by
  obtain ⟨⟨h1, h2⟩, h3, h4⟩ := h
  have hp3 : 0 ≤ pl + 3 ∧ pl + 3 < 21 := by omega
  refine ⟨⟨fun c c1 c2 c3 => ?_, fun j hj => ?_⟩, rowA_add hp3 h3 ha hn, fun i' e' i0 e0 e1 hd => ?_⟩
  · rw [addA_o c1 c2]; exact h1 c c1 c2 c3
  · rw [addA_43 hp3, if_neg hj]; exact h2 j hj
  · have k := h4 i' e' i0 e0 e1 hd
    unfold nxt nxW at k ⊢
    rw [addA_o (c := 45 + pl.toNat) (by omega) (by omega), addA_o (c := 22 + pl.toNat) (by omega) (by omega)]
    refine ⟨fun g => ?_, k.2⟩
    have k1 := k.1 g
    rw [addA_43 hp3, if_pos rfl, addA_r hp3, if_neg (by omega)]
    exact ⟨by omega, k1.2⟩
section LIST
variable {l : Launch} {z dd : Nat} {X : jX} {M : Nat → Int → Int} {Q : Option jV → jM → Prop}
def qS (M : Nat → Int → Int) (s : Int) : qT := (hasB (M 1 4) (M 20 s), M 3 (M 20 s), M 4 (M 20 s))
theorem c_X3_listNext_66 {q : qT} {x0 v m : Int} {d : Nat} {s pl : Int} (hpl : pl = (d : Int) * 3 + s) (hd : (d : Int) < m) (hm : m ≤ 6) (hs : 0 ≤ s ∧ s < 3) (hq : qS M s = q) (hv : M 19 9 = v) (h7 : M 19 7 = m) (hx : rgA q x0) (hseat : hasB (M 1 4) (M 20 s) = true ∨ M 20 s = -6) (hv0 : 0 ≤ v) (hr : rowA M q x0 d pl) {i e : Int} (hi : 0 ≤ i ∧ i < M 43 pl) (he : 0 ≤ e ∧ e < 3) {M1 : Nat → Int → Int} (inv : invN M M1 q x0 v (m - d) d pl i e) (hk : ∀ M2, invN M M2 q x0 v (m - d) d pl i (e + 1) → J l z X (dd + 2) mX3_listNext (0, 0) 66 [jR 19, jR 1, jI (d : Int), jI s, jI pl, jI i, jI (e + 1), jN, jN, jN] [] (jG, M2) Q) : J l z X (dd + 2) mX3_listNext (0, 0) 66 [jR 19, jR 1, jI (d : Int), jI s, jI pl, jI i, jI e, jN, jN, jN] [] (jG, M1) Q := by
  have hp : 0 ≤ pl ∧ pl < 18 := by omega
  have hc := rowA_cnt hr
  obtain ⟨⟨f1, f2⟩, r3, r4⟩ := id inv
  have e1 : M1 1 = M 1 := f1 1 (by omega) (by omega) (by omega)
  have e3 : M1 3 = M 3 := f1 3 (by omega) (by omega) (by omega)
  have e4 : M1 4 = M 4 := f1 4 (by omega) (by omega) (by omega)
  have e19 : M1 19 = M 19 := f1 19 (by omega) (by omega) (by omega)
  have e20 : M1 20 = M 20 := f1 20 (by omega) (by omega) (by omega)
  have erow : M1 (22 + pl.toNat) = M (22 + pl.toNat) := f1 _ (by omega) (by omega) (by omega)
  have ha := hr.2.1 i hi.1 hi.2
  have hb : q.1 = hasB (M 1 4) (M 20 s) := by rw [← hq]; rfl
  have hpc : q.2.1 = M 3 (M 20 s) := by rw [← hq]; rfl
  have hyo : q.2.2 = M 4 (M 20 s) := by rw [← hq]; rfl
  have hS : agH (hasB (M1 1 4) (M1 20 s)) (M1 3 (M1 20 s)) (M1 4 (M1 20 s)) (M1 (22 + pl.toNat) i) e = stp q e (M (22 + pl.toNat) i) := by
    rw [e1, e3, e4, e20, erow, ← hb, ← hpc, ← hyo]; rfl
  have hcnt3 := rowA_cnt r3
  have gr := (gr_44 hp.1 hp.2).2
  have h167 : okP q v (m - d) e (M (22 + pl.toNat) i) = false → ∀ x7 x8 : Int, J l z X (dd + 2) mX3_listNext (0, 0) 167 [jR 19, jR 1, jI (d : Int), jI s, jI pl, jI i, jI e, jI x7, jI x8, jN] [] (jG, M1) Q := by
    intro ho x7 x8
    refine b_X3_listNext_167 (b_X3_listNext_168 hp.1 hp.2 (jInd (by omega)) (jInd (by omega)) (fun _ => jInd (by omega)) (fun _ => b_X3_listNext_204 gr (by omega) (by omega) (jInd (by omega)) (hk _ (invN_put hp he inv ?_))) (fun c => absurd rfl c))
    unfold nxt
    rw [erow]
    exact ⟨fun g => absurd (ho.symm.trans g) (by decide), fun _ => rfl⟩
  have h163 : okP q v (m - d) e (M (22 + pl.toNat) i) = true → ∀ x7 : Int, J l z X (dd + 2) mX3_listNext (0, 0) 163 [jR 19, jR 1, jI (d : Int), jI s, jI pl, jI i, jI e, jI x7, jI (stp q e (M (22 + pl.toNat) i)), jN] [] (jG, M1) Q := by
    intro ho x7
    have hnew : rgA q (stp q e (M (22 + pl.toNat) i)) ∧ stp q e (M (22 + pl.toNat) i) ∈ RcL q x0 (d + 1) := ⟨rgA_stp ha.1, RcL_step hx.1 (by omega) ha.2⟩
    refine b_X3_listNext_163 (b_X3_listNext_168 hp.1 hp.2 (jInd (by omega)) (jInd (by omega)) (fun _ => jInd (by omega)) (fun c => absurd c (by omega)) (fun _ => c_X3_findAge (by omega) ⟨r3.1, by omega⟩ (fun g => ?_) (fun i' i0 i1 g1 g2 => ?_) (fun g => ?_)))
    · have := rowA_cnt (rowA_add (by omega) r3 hnew g)
      rw [addA_43 (by omega), if_pos rfl] at this
      omega
    · refine b_X3_listNext_199 gr (b_X3_listNext_204 gr (by omega) (by omega) (jInd (by omega)) (hk _ (invN_put hp he inv ?_)))
      unfold nxt
      rw [erow]
      exact ⟨fun _ => ⟨⟨i0, i1⟩, g1⟩, fun g => absurd (ho.symm.trans g) (by decide)⟩
    · have inv2 := invN_add hp inv hnew g
      refine b_X3_listNext_199 gr (b_X3_listNext_204 gr (by omega) (by omega) (jInd (by omega)) (hk _ (invN_put hp he inv2 ?_)))
      show nxt (addA M1 (pl + 3) (stp q e (M (22 + pl.toNat) i))) q v (m - d) pl i e (M1 43 (pl + 3))
      unfold nxt
      rw [inv2.1.1 (22 + pl.toNat) (by omega) (by omega) (by omega), addA_43 (by omega), if_pos rfl, addA_r (by omega), if_pos rfl]
      exact ⟨fun _ => ⟨⟨r3.1, by omega⟩, rfl⟩, fun g => absurd (ho.symm.trans g) (by decide)⟩
  have h112 : ∀ t : Int, (t ≠ 0 ↔ (e = 0 ∨ lst q v (m - d) (M (22 + pl.toNat) i) = false)) → J l z X (dd + 2) mX3_listNext (0, 0) 112 [jR 19, jR 1, jI (d : Int), jI s, jI pl, jI i, jI e, jN, jN, jN] [jI t] (jG, M1) Q := by
    intro t ht
    have hcan : (decide (e = 0) || !lst q v (m - d) (M (22 + pl.toNat) i)) = true ↔ t ≠ 0 := by
      rw [ht]
      simp
    refine b_X3_listNext_112 hs.1 hs.2 hp.1 (by omega) hi.1 (by omega) (fun g => ?_) (fun _ _ => hs.1) (fun _ _ => hs.2) (fun c => ?_) (fun c c2 => ?_) (fun c c2 c3 => ?_) (fun c c2 c3 => ?_)
    · rw [e1, e20, ← hb] at g
      rw [erow, e3, e20, ← hpc]
      have := ha.1.1 g
      have := ha.1.2
      omega
    · refine h167 ?_ _ _
      unfold okP
      cases g : (decide (e = 0) || !lst q v (m - d) (M (22 + pl.toNat) i)) with
      | false => rw [Bool.and_false]
      | true => exact absurd c (hcan.1 g)
    · rw [hS, e19, hv] at c2
      rw [hS]
      refine h163 ?_ _
      unfold okP okE
      rw [hcan.2 c, Bool.and_true]
      cases hqq : q.1 with
      | true => rw [if_pos rfl]; exact decide_eq_true c2
      | false =>
        rw [if_neg (by decide)]
        rcases ht.1 c with g | g
        · exact decide_eq_true g
        · unfold lst at g
          rw [hqq] at g
          exact absurd g (by simp)
    · rw [hS, e19, hv] at c2
      rw [e20] at c3
      refine h167 ?_ _ _
      unfold okP okE
      rcases hseat with g | g
      · rw [hb, g, if_pos rfl, decide_eq_false (by omega), Bool.false_and]
      · exact absurd g c3
    · rw [hS, e19, hv] at c2
      rw [e20] at c3
      rw [hS]
      refine h163 ?_ _
      have hqq : q.1 = false := by rw [hb, c3]; exact hasB_o (by omega)
      unfold okP okE
      rw [hcan.2 c, Bool.and_true, hqq, if_neg (by decide)]
      rcases ht.1 c with g | g
      · exact decide_eq_true g
      · unfold lst at g
        rw [hqq] at g
        exact absurd g (by simp)
  refine b_X3_listNext_66 (fun _ => jInd (by omega)) (fun _ _ => hs.1) (fun _ _ => hs.2) (fun _ _ => hp.1) (fun _ _ => by omega) (fun _ _ => hi.1) (fun _ _ => by omega) (fun _ _ => by rw [e19, h7]; exact jInd (by omega)) (fun c => absurd c (by omega)) (fun _ c => b_X3_listNext_107 (h112 1 ⟨fun _ => Or.inl c, fun _ => by omega⟩)) (fun _ c => ?_)
  have hl : lstB M1 v (M1 20 s) (M1 (22 + pl.toNat) i) (M1 19 7 - (d : Int)) = lst q v (m - d) (M (22 + pl.toNat) i) := by
    unfold lstB lst
    rw [e1, e3, e19, h7, e20, erow, ← hb, ← hpc]
  refine c_X3_lastsRest (v := v) (by rw [e19]; exact hv) (by rw [erow]; exact ha.1.2) (by rw [e19, h7]; omega) (fun g => ?_) (b_X3_listNext_104 (fun c2 => ?_) (fun c2 => ?_))
  · rw [e1, e20, ← hb] at g
    rw [e3, e20, ← hpc]
    exact (ha.1.1 g).1
  · rw [hl] at c2
    refine h112 0 ⟨fun g => absurd rfl g, fun g => ?_⟩
    rcases g with g | g
    · exact absurd g c
    · rw [g] at c2
      exact absurd rfl c2
  · rw [hl] at c2
    refine b_X3_listNext_107 (h112 1 ⟨fun _ => Or.inr ?_, fun _ => by omega⟩)
    cases g : lst q v (m - d) (M (22 + pl.toNat) i) with
    | false => rfl
    | true => rw [g] at c2; exact absurd c2 (by decide)
theorem c_X3_listNext {q : qT} {x0 v m : Int} {d : Nat} {s pl : Int} (hpl : pl = (d : Int) * 3 + s) (hd : (d : Int) < m) (hm : m ≤ 6) (hs : 0 ≤ s ∧ s < 3) (hq : qS M s = q) (hv : M 19 9 = v) (h7 : M 19 7 = m) (hx : rgA q x0) (hseat : hasB (M 1 4) (M 20 s) = true ∨ M 20 s = -6) (hv0 : 0 ≤ v) (hr : rowA M q x0 d pl) (hk : ∀ M2, frN M M2 pl → rowA M2 q x0 (d + 1) (pl + 3) → rowN M2 q v (m - d) pl → Q none (jG, M2)) : J l z X (dd + 2) mX3_listNext (0, 0) 0 [jR 19, jR 1, jI (d : Int), jI s, jN, jN, jN, jN, jN, jN] [] (jG, M) Q := by
  have hp : 0 ≤ pl ∧ pl < 18 := by omega
  have hc := rowA_cnt hr
  have hloop : ∀ (n : Nat) (i : Int) (M1 : Nat → Int → Int), i = M 43 pl - (n : Int) → 0 ≤ i → invN M M1 q x0 v (m - d) d pl i 0 → J l z X (dd + 2) mX3_listNext (0, 0) 44 [jR 19, jR 1, jI (d : Int), jI s, jI pl, jI i, jN, jN, jN, jN] [] (jG, M1) Q := by
    intro n
    induction n with
    | zero =>
      intro i M1 hi i0 inv
      have e43 : M1 43 pl = M 43 pl := inv.1.2 pl (by omega)
      refine b_X3_listNext_44 hp.1 (by omega) (fun _ => hk M1 inv.1 inv.2.1 (fun i' e' i0 i1 e0 e1 => inv.2.2 i' e' i0 e0 e1 (by omega))) (fun c => absurd c (by omega)) (fun c => absurd c (by omega))
    | succ n ih =>
      intro i M1 hi i0 inv
      have e43 : M1 43 pl = M 43 pl := inv.1.2 pl (by omega)
      refine b_X3_listNext_44 hp.1 (by omega) (fun c => absurd c (by omega)) (fun _ c => absurd c (by omega)) (fun _ _ => ?_)
      refine c_X3_listNext_66 hpl hd hm hs hq hv h7 hx hseat hv0 hr ⟨i0, by omega⟩ (by omega) inv (fun M2 inv2 => ?_)
      refine c_X3_listNext_66 hpl hd hm hs hq hv h7 hx hseat hv0 hr ⟨i0, by omega⟩ (by omega) inv2 (fun M3 inv3 => ?_)
      refine c_X3_listNext_66 hpl hd hm hs hq hv h7 hx hseat hv0 hr ⟨i0, by omega⟩ (by omega) inv3 (fun M4 inv4 => ?_)
      refine b_X3_listNext_66 (fun _ => jInd (by omega)) (fun q => absurd q (by omega)) (fun q => absurd q (by omega)) (fun q => absurd q (by omega)) (fun q => absurd q (by omega)) (fun q => absurd q (by omega)) (fun q => absurd q (by omega)) (fun q => absurd q (by omega)) (fun _ => ih (i + 1) M4 (by omega) (by omega) ⟨inv4.1, inv4.2.1, fun i' e' i0 e0 e1 hd => inv4.2.2 i' e' i0 e0 e1 (by omega)⟩) (fun q => absurd q (by omega)) (fun q => absurd q (by omega))
  refine b_X3_listNext_0 (jInd (by omega)) (jInd (by omega)) (fun _ _ _ _ => jInd (by omega)) (fun _ _ _ _ => by omega) (fun _ _ _ _ => by omega) (fun q => absurd q (by omega)) (fun _ q => absurd q (by omega)) (fun _ _ q => absurd q (by omega)) (fun _ _ _ _ => ?_) (fun _ _ _ q => absurd q (by omega))
  rw [← hpl]
  refine hloop (M 43 pl).toNat 0 _ (by have := hr.1; omega) (by omega) ⟨⟨fun c c1 _ _ => by rw [jupd_c, if_neg c1], fun j hj => by rw [jupd_i _ _ _ _ hj]⟩, ⟨?_, fun i i0 i1 => ?_, fun i j i0 i1 i2 => ?_⟩, fun i' e' i0 e0 e1 hd => ?_⟩
  · rw [jupd_s]; exact Int.le_refl _
  · rw [jupd_s] at i1; omega
  · rw [jupd_s] at i2; omega
  · omega
end LIST
