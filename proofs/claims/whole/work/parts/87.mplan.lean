/-! ## the reference: keeps and plan -/
theorem tbB_same {M M' : Nat → Int → Int} {q : qT} {x0 v : Int} {m : Nat} {i : Int} {C : Nat → Int} (hm : m ≤ 6) (h1 : ∀ k : Int, 0 ≤ k → k < 26 → M' 111 (26 * i + k) = M 111 (26 * i + k)) (h2 : M' 112 i = M 112 i) (h3 : ∀ j : Int, 0 ≤ j → j < 78 → M' 113 (78 * i + j) = M 113 (78 * i + j)) (h4 : M' 115 i = M 115 i) (h : tbB M q x0 v m i C) : tbB M' q x0 v m i C := by
  obtain ⟨t1, t2, t3, t4, t5⟩ := h
  have hc := rowB_cnt t3
  have e : ∀ k : Int, 0 ≤ k → k < 26 → agB M' i k = agB M i k := h1
  have hC : ∀ d : Nat, d ≤ m → C d ≤ 13 := fun d hd => by have := t1.2.2 d m hd (by omega); have := t1.2.1; omega
  have e113 : ∀ k e : Int, 0 ≤ k → k < 13 → 0 ≤ e → e < 3 → M' 113 (78 * i + 3 * k + e) = M 113 (78 * i + 3 * k + e) := fun k e k0 k1 e0 e1 => by
    have := h3 (3 * k + e) (by omega) (by omega)
    rw [← Int.add_assoc] at this
    exact this
  refine ⟨by rw [h2]; exact t1, by rw [e 0 (by omega) (by omega)]; exact t2, ⟨by rw [h2]; exact t3.1, fun k k0 k1 => ?_, fun j k j0 j1 k1 => ?_⟩, fun m' hm' => ⟨by rw [h4]; exact (t4 m' hm').1, fun k e' k0 k1 e0 e1 => ?_⟩, fun d hd k e' k0 k1 e0 e1 ho => ?_⟩
  · rw [h2] at k1
    rw [e k k0 (by omega)]
    exact t3.2.1 k k0 k1
  · rw [h2] at k1
    rw [e j j0 (by omega), e k (by omega) (by omega)]
    exact t3.2.2 j k j0 j1 k1
  · have hk := hC m' (by omega)
    have := (t4 m' hm').2 k e' k0 k1 e0 e1
    rw [e113 k e' k0 (by omega) e0 e1]
    unfold nxB at this ⊢
    rw [h2, e k k0 (by omega)]
    refine ⟨fun g => ?_, this.2⟩
    have g2 := this.1 g
    rw [e _ g2.1.1 (by omega)]
    exact g2
  · have hk := hC d (by omega)
    rw [e k k0 (by omega)] at ho
    rw [e113 k e' k0 (by omega) e0 e1]
    exact t5 d hd k e' k0 k1 e0 e1 ho
theorem kpR_le {t s m n v : Int} : kpR t s m n v ≤ 0 := by
  unfold kpR
  split
  · omega
  · split
    · omega
    · split
      · omega
      · split
        · omega
        · split
          · omega
          · split <;> omega
section MPLAN
variable {l : Launch} {z dd : Nat} {X : jX} {Q : Option jV → jM → Prop} {M : Nat → Int → Int} {q : qF} {x : Int → Int} {n v : Int} {m : Nat}
/-- the seats' ONES by the reference's rows -/
def refQ (M : Nat → Int → Int) (q : qF) (x : Int → Int) (s : Int) : Prop := ∀ i : Int, 0 ≤ i → i < 3 → rgA (q i) (x i) ∧ (((q i).1 = true ∧ (0 ≤ seB s i ∧ seB s i < 6) ∧ (q i).2.1 = M 98 (seB s i) ∧ (q i).2.2 = M 99 (seB s i) ∧ x i = M 97 (seB s i)) ∨ ((q i).1 = false ∧ seB s i = -6 ∧ x i = 0))
def plnB (M : Nat → Int → Int) (q : qF) (x : Int → Int) (n v : Int) (m : Nat) (C : cF) : Prop := mtb M q x v m C ∧ ∀ lt d : Nat, d + lt = m → HV M q n v C lt d
theorem c_X10_findPlan_92 {C : cF} {s x5 : Int} (hm6 : m ≤ 6) (hn : n ≤ 6) (hk : ∀ M2 : Nat → Int → Int, (∀ c : Nat, c ≠ 114 → M2 c = M c) → plnB M2 q x n v m C → Q none (jG, M2)) : ∀ (k lt : Nat) (M1 : Nat → Int → Int), lt + k = m + 1 → (∀ c : Nat, c ≠ 114 → M1 c = M c) → mtb M1 q x v m C → (∀ lt' d : Nat, lt' < lt → d + lt' = m → HV M1 q n v C lt' d) → J l z X (dd + 4) mX10_findPlan (0, 0) 92 [jR 96, jI s, jI (m : Int), jI n, jI v, jI x5, jI (lt : Int)] [] (jG, M1) Q := by
  intro k
  induction k with
  | zero =>
    intro lt M1 hlt f ht hH
    exact b_X10_findPlan_92 (fun _ => hk M1 f ⟨ht, fun lt' d hd => hH lt' d (by omega) hd⟩) (fun g => absurd g (by omega))
  | succ k ih =>
    intro lt M1 hlt f ht hH
    refine b_X10_findPlan_92 (fun g => absurd g (by omega)) (fun _ => ?_)
    refine c_X10_layHalves ht hm6 hn (lt := lt) (d := m - lt) (by omega) (fun lt' e => hH lt' _ (by omega) (by omega)) (fun M2 f2 h2 => b_X10_findPlan_105 (jInd (by omega)) ?_)
    rw [show (lt : Int) + 1 = ((lt + 1 : Nat) : Int) by omega]
    refine ih (lt + 1) M2 (by omega) (fun c hc => by rw [f2.1 c hc]; exact f c hc) (mtb_same (fun c hc => f2.1 c (by omega)) ht) (fun lt' d h1 h3 => ?_)
    by_cases e : lt' = lt
    · subst e
      obtain rfl : d = m - lt' := by omega
      exact h2
    · exact HV_same (m := m) hm6 (by omega) ht (f2.1 111 (by omega)) (fun j j0 j1 => f2.2 j (by omega)) (hH lt' d (by omega) h3)
theorem c_X10_findPlan {s : Int} (hm6 : m ≤ 6) (hn : n ≤ 6) (hv0 : 0 ≤ v) (hq : refQ M q x s) (hlen : (seatL 63 s 6).length ≤ 3) (hpc : ∀ k : Int, 0 ≤ k → k < 6 → 0 ≤ M 98 k ∧ M 98 k ≤ 9) (hk : ∀ (M2 : Nat → Int → Int) (C : cF), (∀ c : Nat, ¬ (110 ≤ c ∧ c ≤ 115) → M2 c = M c) → (∀ j : Int, 0 ≤ j → j < 3 → M2 110 j = seB s j) → plnB M2 q x n v m C → Q none (jG, M2)) : J l z X (dd + 4) mX10_findPlan (0, 0) 0 [jR 96, jI s, jI (m : Int), jI n, jI v, jN, jN] [] (jG, M) Q := by
  -- behind the seats
  have l68 : ∀ (x5 : Int) (M1 : Nat → Int → Int), (∀ c : Nat, c ≠ 110 → M1 c = M c) → (∀ j : Int, 0 ≤ j → j < 3 → M1 110 j = seB s j) → J l z X (dd + 4) mX10_findPlan (0, 0) 68 [jR 96, jI s, jI (m : Int), jI n, jI v, jI x5, jI 0] [] (jG, M1) Q := by
    intro x5 M1 f1 h110
    have hstep : ∀ (i : Nat) (M2 : Nat → Int → Int), i < 3 → (∀ c : Nat, c ≠ 111 → c ≠ 112 → c ≠ 113 → c ≠ 115 → M2 c = M1 c) → (∀ (M3 : Nat → Int → Int) (C : Nat → Int), frB M2 M3 i → tbB M3 (q i) (x i) v m i C → J l z X (dd + 4) mX10_findPlan (0, 0) 68 [jR 96, jI s, jI (m : Int), jI n, jI v, jI x5, jI ((i + 1 : Nat) : Int)] [] (jG, M3) Q) → J l z X (dd + 4) mX10_findPlan (0, 0) 68 [jR 96, jI s, jI (m : Int), jI n, jI v, jI x5, jI (i : Int)] [] (jG, M2) Q := by
      intro i M2 hi f2 hnext
      have e110 : M2 110 = M1 110 := f2 110 (by omega) (by omega) (by omega) (by omega)
      have e98 : M2 98 = M 98 := by rw [f2 98 (by omega) (by omega) (by omega) (by omega), f1 98 (by omega)]
      have e99 : M2 99 = M 99 := by rw [f2 99 (by omega) (by omega) (by omega) (by omega), f1 99 (by omega)]
      have e97 : M2 97 = M 97 := by rw [f2 97 (by omega) (by omega) (by omega) (by omega), f1 97 (by omega)]
      have hb : M2 110 (i : Int) = seB s i := by rw [e110]; exact h110 i (by omega) (by omega)
      obtain ⟨hr, hw⟩ := hq i (by omega) (by omega)
      have hwho : whoB M2 (q i) i := by
        unfold whoB
        rw [hb, e98, e99]
        rcases hw with ⟨w1, w2, w3, w4, w5⟩ | ⟨w1, w2, w3⟩
        · exact Or.inl ⟨w1, w2, w3, w4⟩
        · exact Or.inr ⟨w1, by omega⟩
      refine b_X10_findPlan_68 (fun g => absurd g (by omega)) (fun _ => ?_)
      refine c_X10_layAges (q := q i) (x0 := x i) (v := v) (m := m) (by omega) hm6 hv0 hr (fun g => ?_) (fun g => ?_) hwho (by rw [e98]; exact hpc) (fun M3 C fr tb => b_X10_findPlan_83 (jInd (by omega)) ?_)
      · rcases hw with ⟨w1, -⟩ | ⟨-, -, w3⟩
        · exact absurd (w1.symm.trans g) (by decide)
        · exact w3
      · rw [hb, e97]
        rcases hw with ⟨-, -, -, -, w5⟩ | ⟨w1, -⟩
        · exact w5
        · exact absurd (w1.symm.trans g) (by decide)
      · rw [show (i : Int) + 1 = ((i + 1 : Nat) : Int) by omega]
        exact hnext M3 C fr tb
    refine hstep 0 M1 (by omega) (fun _ _ _ _ _ => rfl) (fun M2 C0 fr0 tb0 => ?_)
    have g2 : ∀ c : Nat, c ≠ 111 → c ≠ 112 → c ≠ 113 → c ≠ 115 → M2 c = M1 c := fr0.1
    refine hstep 1 M2 (by omega) g2 (fun M3 C1 fr1 tb1 => ?_)
    have g3 : ∀ c : Nat, c ≠ 111 → c ≠ 112 → c ≠ 113 → c ≠ 115 → M3 c = M1 c := fun c c1 c2 c3 c4 => by rw [fr1.1 c c1 c2 c3 c4]; exact g2 c c1 c2 c3 c4
    refine hstep 2 M3 (by omega) g3 (fun M4 C2 fr2 tb2 => ?_)
    have g4 : ∀ c : Nat, c ≠ 111 → c ≠ 112 → c ≠ 113 → c ≠ 115 → M4 c = M1 c := fun c c1 c2 c3 c4 => by rw [fr2.1 c c1 c2 c3 c4]; exact g3 c c1 c2 c3 c4
    have keep : ∀ (A B : Nat → Int → Int) (i j : Int) (C : Nat → Int), (0 ≤ i ∧ i < 3) → (0 ≤ j ∧ j < 3) → i ≠ j → frB A B j → tbB A (q i) (x i) v m i C → tbB B (q i) (x i) v m i C := fun A B i j C hi hj hij fr tb => tbB_same hm6 (fun k k0 k1 => fr.2.1 _ (by omega)) (fr.2.2.1 i hij) (fun k k0 k1 => fr.2.2.2.1 _ (by omega)) (fr.2.2.2.2 i hij) tb
    have t0 : tbB M4 (q 0) (x 0) v m 0 C0 := keep M3 M4 0 2 C0 (by omega) (by omega) (by omega) fr2 (keep M2 M3 0 1 C0 (by omega) (by omega) (by omega) fr1 tb0)
    have t1 : tbB M4 (q 1) (x 1) v m 1 C1 := keep M3 M4 1 2 C1 (by omega) (by omega) (by omega) fr2 tb1
    have t2 : tbB M4 (q 2) (x 2) v m 2 C2 := tb2
    have ht : mtb M4 q x v m (fun i => if i = 0 then C0 else if i = 1 then C1 else C2) := by
      intro i i0 i1
      have : i = 0 ∨ i = 1 ∨ i = 2 := by omega
      rcases this with e | e | e <;> subst e
      · exact t0
      · exact t1
      · exact t2
    refine b_X10_findPlan_68 (fun _ => ?_) (fun g => absurd g (by omega))
    refine c_X10_findPlan_92 (M := M4) hm6 hn (fun M5 f5 hp => hk M5 _ (fun c hc => ?_) (fun j j0 j1 => ?_) hp) (m + 1) 0 M4 (by omega) (fun _ _ => rfl) ht (fun lt' d h _ => absurd h (by omega))
    · rw [f5 c (by omega), g4 c (by omega) (by omega) (by omega) (by omega), f1 c (by omega)]
    · rw [f5 110 (by omega), g4 110 (by omega) (by omega) (by omega) (by omega)]
      exact h110 j j0 j1
  obtain ⟨L, hL⟩ : ∃ L : List Int, seatL 63 s 6 = L := ⟨_, rfl⟩
  rw [hL] at hlen
  have l30 : ∀ (k : Nat) (w : Int) (P : List Int) (M1 : Nat → Int → Int), w = 6 - (k : Int) → 0 ≤ w → L = P ++ seatL 63 s k → (∀ c : Nat, c ≠ 110 → M1 c = M c) → (∀ j : Nat, j < 3 → M1 110 j = P.getD j (-6)) → J l z X (dd + 4) mX10_findPlan (0, 0) 30 [jR 96, jI s, jI (m : Int), jI n, jI v, jI (P.length : Int), jI w] [] (jG, M1) Q := by
    intro k
    induction k with
    | zero =>
      intro w P M1 hw w0 hP f1 h110
      refine b_X10_findPlan_30 (fun g => absurd g (by omega)) (fun g => absurd g (by omega)) (fun g => absurd g (by omega)) (fun _ => l68 _ M1 f1 (fun j j0 j1 => ?_)) (fun g => absurd g (by omega)) (fun g => absurd g (by omega))
      have := h110 j.toNat (by omega)
      rw [show ((j.toNat : Nat) : Int) = j by omega] at this
      rw [this]
      unfold seB
      rw [hL, hP]
      show _ = (P ++ []).getD j.toNat (-6)
      rw [List.append_nil]
    | succ k ih =>
      intro w P M1 hw w0 hP f1 h110
      have h63 : ∀ m : Fin 6, hasB 63 ((m : Nat) : Int) = true := by decide +kernel
      have e63 : hasB 63 w = true := by
        obtain ⟨b, rfl⟩ := jfin (n := 6) w0 (by omega)
        exact h63 b
      unfold seatL at hP
      rw [← hw] at hP
      have hle : jand (jshr s w) 1 = 1 → P.length < 3 := fun g => by
        rw [if_pos ⟨g, e63⟩] at hP
        rw [hP] at hlen
        simp at hlen
        omega
      refine b_X10_findPlan_30 (fun _ _ => by omega) (fun _ g => by have := hle g; omega) (fun _ g => by have := hle g; exact jInd (by omega)) (fun g => absurd g (by omega)) (fun _ g => b_X10_findPlan_59 (jInd (by omega)) (ih (w + 1) P M1 (by omega) (by omega) ?_ f1 h110)) (fun _ g => ?_)
      · rw [if_neg (fun q => g q.1), List.nil_append] at hP
        exact hP
      · rw [if_pos ⟨g, e63⟩] at hP
        have hl := hle g
        have hlen2 : ((P ++ [w]).length : Int) = (P.length : Int) + 1 := by simp
        rw [← hlen2]
        refine b_X10_findPlan_59 (jInd (by omega)) (ih (w + 1) (P ++ [w]) _ (by omega) (by omega) (by rw [hP, List.append_assoc]) (fun c hc => by rw [jupd_c, if_neg hc]; exact f1 c hc) (fun j hj => ?_))
        by_cases e : j = P.length
        · subst e
          rw [jupd_s]
          exact (getD_mid P [] w (-6)).symm
        · have e2 : (j : Int) ≠ (P.length : Int) := by omega
          rw [jupd_i _ _ _ _ e2, h110 j hj]
          by_cases e3 : j < P.length
          · rw [List.getD_eq_getElem?_getD, List.getD_eq_getElem?_getD, List.getElem?_append_left e3]
          · rw [getD_end P (-6) j (by omega), getD_end (P ++ [w]) (-6) j (by simp; omega)]
  refine b_X10_findPlan_0 ?_
  refine b_X10_findPlan_6 (fun _ => by omega) (fun _ => by omega) (fun _ => jInd (by omega)) (fun g => absurd g (by omega)) (fun _ => ?_)
  refine b_X10_findPlan_6 (fun _ => by omega) (fun _ => by omega) (fun _ => jInd (by omega)) (fun g => absurd g (by omega)) (fun _ => ?_)
  refine b_X10_findPlan_6 (fun _ => by omega) (fun _ => by omega) (fun _ => jInd (by omega)) (fun g => absurd g (by omega)) (fun _ => ?_)
  refine b_X10_findPlan_6 (fun g => absurd g (by omega)) (fun g => absurd g (by omega)) (fun g => absurd g (by omega)) (fun _ => ?_) (fun g => absurd g (by omega))
  refine l30 6 0 [] _ (by omega) (by omega) (by rw [List.nil_append]; exact hL.symm) (fun c hc => by rw [jupd_c, if_neg hc, jupd_c, if_neg hc, jupd_c, if_neg hc]) (fun j hj => ?_)
  have : j = 0 ∨ j = 1 ∨ j = 2 := by omega
  rcases this with e | e | e <;> subst e <;> simp [jupd]
theorem ix3_dec {a b c : Int} (ha : 0 ≤ a ∧ a < 26) (hb : 0 ≤ b ∧ b < 26) (hc : 0 ≤ c ∧ c < 26) : ix3 a b c / 26 / 26 = a ∧ ix3 a b c / 26 % 26 = b ∧ ix3 a b c % 26 = c ∧ 0 ≤ ix3 a b c ∧ ix3 a b c < 17576 := by
  unfold ix3
  omega
theorem c_X10_firstHow {C : cF} (h : plnB M q x n v m C) (hm6 : m ≤ 6) (hn : n ≤ 6) {d lt : Nat} (hd : d + lt + 1 = m) {a b c : Int} (hin : inB C d a b c) (hl : lf (q 0) (q 1) (q 2) n v (lt + 1) (agB M 0 a) (agB M 1 b) (agB M 2 c) < 1000) (hk : Q (some (jI (pck (cU (q 0) (q 1) (q 2) n v lt (agB M 0 a) (agB M 1 b) (agB M 2 c)) 27))) (jG, M)) : J l z X (dd + 3) mX10_firstHow (0, 0) 0 [jR 96, jI (ix3 a b c), jI n, jI ((lt : Int) + 1), jN, jN, jN, jN] [] (jG, M) Q := by
  have g0 := mtb_C h.1 hm6 (i := 0) (d := d) (by omega) (by omega)
  have g1 := mtb_C h.1 hm6 (i := 1) (d := d) (by omega) (by omega)
  have g2 := mtb_C h.1 hm6 (i := 2) (d := d) (by omega) (by omega)
  have hI := id hin
  unfold inB at hI
  obtain ⟨d0, d1, d2, d3, d4⟩ := ix3_dec (a := a) (b := b) (c := c) (by omega) (by omega) (by omega)
  obtain ⟨i, i27, ip, iv, ino, -⟩ := cU_first hl
  have hval : M 114 (17576 * ((lt : Int) + 1) + ix3 a b c) = lf (q 0) (q 1) (q 2) n v (lt + 1) (agB M 0 a) (agB M 1 b) (agB M 2 c) := by
    have := h.2 (lt + 1) d (by omega) a b c hin
    rw [show ((lt + 1 : Nat) : Int) = (lt : Int) + 1 by omega] at this
    exact this
  have hin' : inB C (m - 1) a b c := inB_mono h.1 (by omega) (by omega) hin
  have hloop : ∀ (k w : Nat), w + k = i → J l z X (dd + 3) mX10_firstHow (0, 0) 27 [jR 96, jI (ix3 a b c), jI n, jI ((lt : Int) + 1), jI a, jI b, jI c, jI (w : Int)] [] (jG, M) Q := by
    intro k
    induction k with
    | zero =>
      intro w hw
      obtain rfl : w = i := by omega
      refine b_X10_firstHow_27 (fun g => absurd g (by omega)) (fun _ => ?_)
      refine c_X10_halvesBy h.1 hm6 (m' := m - 1) (by omega) hn hin' (k := w) i27 (lt := lt) (by omega) (fun t _ t2 => ?_)
      have ht := t2 d (by omega) hin (h.2 lt (d + 1) (by omega))
      refine b_X10_firstHow_48 (jInd (by omega)) (jInd (by omega)) (by omega) (by omega) (fun _ => jInd (by omega)) (fun g => ?_) (fun _ => ?_)
      · rw [ht, hval, iv] at g
        exact absurd rfl g
      · rw [← ip]; exact hk
    | succ k ih =>
      intro w hw
      refine b_X10_firstHow_27 (fun g => absurd g (by omega)) (fun _ => ?_)
      refine c_X10_halvesBy h.1 hm6 (m' := m - 1) (by omega) hn hin' (k := w) (by omega) (lt := lt) (by omega) (fun t _ t2 => ?_)
      have ht := t2 d (by omega) hin (h.2 lt (d + 1) (by omega))
      refine b_X10_firstHow_48 (jInd (by omega)) (jInd (by omega)) (by omega) (by omega) (fun _ => jInd (by omega)) (fun g => ?_) (fun g => ?_)
      · rw [show (w : Int) + 1 = ((w + 1 : Nat) : Int) by omega]
        exact ih (w + 1) (by omega)
      · rw [ht, hval] at g
        exact absurd g (ino w (by omega))
  refine b_X10_firstHow_0 d3 (by omega) ?_
  rw [d0, d1, d2]
  exact hloop i 0 (by omega)
theorem c_X10_plan_94 {C : cF} (h : plnB M q x n v m C) (hm6 : m ≤ 6) (hn : n ≤ 6) {s day one x7 : Int} (hday : 0 ≤ day ∧ day < m) (h110 : ∀ j : Int, 0 ≤ j → j < 3 → M 110 j = seB s j) (hk : Q (some (jI (if seB s 0 = one then wpk (q 0) (q 1) (q 2) n v day.toNat m (x 0) (x 1) (x 2) / 9 else if seB s 1 = one then wpk (q 0) (q 1) (q 2) n v day.toNat m (x 0) (x 1) (x 2) / 3 % 3 else wpk (q 0) (q 1) (q 2) n v day.toNat m (x 0) (x 1) (x 2) % 3))) (jG, M)) : ∀ (k D : Nat) (a b c how : Int), (D : Int) + k = day + 1 → inB C D a b c → lf (q 0) (q 1) (q 2) n v (m - D) (agB M 0 a) (agB M 1 b) (agB M 2 c) < 1000 → (∀ j : Nat, wpk (q 0) (q 1) (q 2) n v (D + j) m (x 0) (x 1) (x 2) = wpk (q 0) (q 1) (q 2) n v j (m - D) (agB M 0 a) (agB M 1 b) (agB M 2 c)) → (0 ≤ how ∧ how < 27) → (∀ D' : Nat, D = D' + 1 → how = wpk (q 0) (q 1) (q 2) n v D' m (x 0) (x 1) (x 2)) → J l z X (dd + 5) mX10_plan (0, 0) 94 [jR 96, jI s, jI (m : Int), jI n, jI v, jI day, jI one, jI x7, jI (ix3 a b c), jI how, jI (D : Int)] [] (jG, M) Q := by
  have h0 := h110 0 (by omega) (by omega)
  have h1 := h110 1 (by omega) (by omega)
  intro k
  induction k with
  | zero =>
    intro D a b c how hD hin hl hw hh hhow
    have e := hhow day.toNat (by omega)
    rw [← e] at hk
    refine b_X10_plan_94 (fun _ _ _ => hh.1) (fun _ _ _ => hh.1) (fun _ _ _ => by omega) (fun _ _ => hh.1) (fun g => absurd g (by omega)) (fun _ g1 g2 => ?_) (fun _ g1 g2 => ?_) (fun _ g1 => ?_) (fun g => absurd g (by omega))
    · rw [h0] at g1
      rw [h1] at g2
      rw [if_neg g1, if_neg g2] at hk
      exact hk
    · rw [h0] at g1
      rw [h1] at g2
      rw [if_neg g1, if_pos g2] at hk
      exact hk
    · rw [h0] at g1
      rw [if_pos g1] at hk
      exact hk
  | succ k ih =>
    intro D a b c how hD hin hl hw hh hhow
    have g0 := mtb_C h.1 hm6 (i := 0) (d := D) (by omega) (by omega)
    have g1 := mtb_C h.1 hm6 (i := 1) (d := D) (by omega) (by omega)
    have g2 := mtb_C h.1 hm6 (i := 2) (d := D) (by omega) (by omega)
    have hI := id hin
    unfold inB at hI
    obtain ⟨d0, d1, d2, d3, d4⟩ := ix3_dec (a := a) (b := b) (c := c) (by omega) (by omega) (by omega)
    have elt : m - D = (m - D - 1) + 1 := by omega
    rw [elt] at hl hw
    obtain ⟨i, i27, ip, -, -, -, o0, o1, o2, il⟩ := cU_first hl
    have hin' : inB C (m - 1) a b c := inB_mono h.1 (by omega) (by omega) hin
    refine b_X10_plan_94 (fun g => absurd g (by omega)) (fun g => absurd g (by omega)) (fun g => absurd g (by omega)) (fun g => absurd g (by omega)) (fun _ => jInd (by omega)) (fun g => absurd g (by omega)) (fun g => absurd g (by omega)) (fun g => absurd g (by omega)) (fun _ => ?_)
    rw [show (m : Int) - (D : Int) = ((m - D - 1 : Nat) : Int) + 1 by omega]
    refine c_X10_firstHow h hm6 hn (d := D) (lt := m - D - 1) (by omega) hin hl ?_
    rw [ip]
    refine b_X10_plan_112 d3 (by omega) ?_
    rw [d0, d1, d2]
    refine c_X10_thenOf h.1 hm6 (m' := m - 1) (by omega) hin' (how := (i : Int)) (by omega) ?_
    rcases thV_ok h.1 hm6 (m' := m - 1) (by omega) hin' (how := (i : Int)) (by omega) with ⟨-, t2⟩ | ⟨-, a', b', c', t2, t3, t4, t5, t6, t7⟩
    · exact absurd ⟨o0, o1, o2⟩ t2
    · rw [t2]
      refine b_X10_plan_141 (jInd (by omega)) ?_
      rw [show (D : Int) + 1 = ((D + 1 : Nat) : Int) by omega]
      refine ih (D + 1) a' b' c' (i : Int) (by omega) (t7 D (by omega) hin) ?_ (fun j => ?_) (by omega) (fun D' hD' => ?_)
      · rw [t4, t5, t6, show m - (D + 1) = m - D - 1 by omega]
        exact il
      · have := hw (j + 1)
        rw [wpk_s, ip] at this
        rw [t4, t5, t6, show m - (D + 1) = m - D - 1 by omega, ← this]
        congr 1
        omega
      · obtain rfl : D' = D := by omega
        have := hw 0
        rw [Nat.add_zero, wpk_0, ip] at this
        exact this.symm
end MPLAN
