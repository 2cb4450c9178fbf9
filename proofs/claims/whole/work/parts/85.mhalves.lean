/-! ## the reference's table of halves -/
abbrev cF : Type := Int → Nat → Int
def mtb (M : Nat → Int → Int) (q : qF) (x : Int → Int) (v : Int) (m : Nat) (C : cF) : Prop := ∀ i : Int, 0 ≤ i → i < 3 → tbB M (q i) (x i) v m i (C i)
theorem mtb_same {M M' : Nat → Int → Int} {q : qF} {x : Int → Int} {v : Int} {m : Nat} {C : cF} (h : ∀ c : Nat, c = 111 ∨ c = 112 ∨ c = 113 ∨ c = 115 → M' c = M c) (k : mtb M q x v m C) : mtb M' q x v m C := by
  intro i i0 i1
  have := k i i0 i1
  have ea : agB M' i = agB M i := by funext j; unfold agB; rw [h 111 (by omega)]
  unfold tbB rowB nxB at this ⊢
  rw [ea, h 112 (by omega), h 113 (by omega), h 115 (by omega)]
  exact this
/-- where a way leads -/
def thV (M : Nat → Int → Int) (a b c how : Int) : Int := if M 113 (3 * a + how / 9) < 0 ∨ M 113 (78 + 3 * b + how / 3 % 3) < 0 ∨ M 113 (156 + 3 * c + how % 3) < 0 then -6 else 26 * (26 * M 113 (3 * a + how / 9) + M 113 (78 + 3 * b + how / 3 % 3)) + M 113 (156 + 3 * c + how % 3)
def ix3 (a b c : Int) : Int := 26 * (26 * a + b) + c
/-- the places that the table goes through -/
def inB (C : cF) (d : Nat) (a b c : Int) : Prop := (0 ≤ a ∧ a < C 0 d) ∧ (0 ≤ b ∧ b < C 1 d) ∧ (0 ≤ c ∧ c < C 2 d)
section MTB
variable {M : Nat → Int → Int} {q : qF} {x : Int → Int} {n v : Int} {m : Nat} {C : cF}
theorem mtb_C (h : mtb M q x v m C) (hm : m ≤ 6) {i : Int} (hi : 0 ≤ i ∧ i < 3) {d : Nat} (hd : d ≤ m) : 1 ≤ C i d ∧ C i d ≤ 13 := by
  obtain ⟨⟨h1, h2, h3⟩, h4, h5, h6, h7⟩ := h i hi.1 hi.2
  have := rowB_cnt h5
  have := h3 0 d (by omega) hd
  have := h3 d m hd (by omega)
  omega
theorem inB_mono (h : mtb M q x v m C) {d d' : Nat} (h1 : d ≤ d') (h2 : d' ≤ m) {a b c : Int} (k : inB C d a b c) : inB C d' a b c := by
  have g0 := (h 0 (by omega) (by omega)).1.2.2 d d' h1 h2
  have g1 := (h 1 (by omega) (by omega)).1.2.2 d d' h1 h2
  have g2 := (h 2 (by omega) (by omega)).1.2.2 d d' h1 h2
  unfold inB at k ⊢
  omega
theorem mtb_nx (h : mtb M q x v m C) {m' : Nat} (hm : m = m' + 1) {i k e : Int} (hi : 0 ≤ i ∧ i < 3) (hk : 0 ≤ k ∧ k < C i m') (he : 0 ≤ e ∧ e < 3) : nxB M (q i) v i k e (M 113 (78 * i + 3 * k + e)) := ((h i hi.1 hi.2).2.2.2.1 m' hm).2 k e hk.1 hk.2 he.1 he.2
/-- where a way leads from places that are reached -/
theorem thV_ok (h : mtb M q x v m C) (hm6 : m ≤ 6) {m' : Nat} (hm : m = m' + 1) {a b c : Int} (hin : inB C m' a b c) {how : Int} (hh : 0 ≤ how ∧ how < 27) : (thV M a b c how = -6 ∧ ¬ (okE (q 0) v (how / 9) (agB M 0 a) = true ∧ okE (q 1) v (how / 3 % 3) (agB M 1 b) = true ∧ okE (q 2) v (how % 3) (agB M 2 c) = true)) ∨ ((okE (q 0) v (how / 9) (agB M 0 a) = true ∧ okE (q 1) v (how / 3 % 3) (agB M 1 b) = true ∧ okE (q 2) v (how % 3) (agB M 2 c) = true) ∧ ∃ a' b' c' : Int, thV M a b c how = ix3 a' b' c' ∧ inB C m a' b' c' ∧ agB M 0 a' = stp (q 0) (how / 9) (agB M 0 a) ∧ agB M 1 b' = stp (q 1) (how / 3 % 3) (agB M 1 b) ∧ agB M 2 c' = stp (q 2) (how % 3) (agB M 2 c) ∧ ∀ d : Nat, d < m → inB C d a b c → inB C (d + 1) a' b' c') := by
  have n0 := mtb_nx h hm (i := 0) (by omega) hin.1 (e := how / 9) (by omega)
  have n1 := mtb_nx h hm (i := 1) (by omega) hin.2.1 (e := how / 3 % 3) (by omega)
  have n2 := mtb_nx h hm (i := 2) (by omega) hin.2.2 (e := how % 3) (by omega)
  rw [show 78 * (0 : Int) + 3 * a + how / 9 = 3 * a + how / 9 by omega] at n0
  rw [show 78 * (1 : Int) + 3 * b + how / 3 % 3 = 78 + 3 * b + how / 3 % 3 by omega] at n1
  rw [show 78 * (2 : Int) + 3 * c + how % 3 = 156 + 3 * c + how % 3 by omega] at n2
  have l0 := (h 0 (by omega) (by omega)).2.2.2.2
  have l1 := (h 1 (by omega) (by omega)).2.2.2.2
  have l2 := (h 2 (by omega) (by omega)).2.2.2.2
  have c0 := (h 0 (by omega) (by omega)).1.2.1
  have c1 := (h 1 (by omega) (by omega)).1.2.1
  have c2 := (h 2 (by omega) (by omega)).1.2.1
  unfold thV
  by_cases o : okE (q 0) v (how / 9) (agB M 0 a) = true ∧ okE (q 1) v (how / 3 % 3) (agB M 1 b) = true ∧ okE (q 2) v (how % 3) (agB M 2 c) = true
  · right
    refine ⟨o, _, _, _, ?_, ?_, (n0.1 o.1).2, (n1.1 o.2.1).2, (n2.1 o.2.2).2, fun d hd hid => ?_⟩
    · rw [if_neg (by have := n0.1 o.1; have := n1.1 o.2.1; have := n2.1 o.2.2; omega)]
      rfl
    · have := n0.1 o.1; have := n1.1 o.2.1; have := n2.1 o.2.2
      unfold inB
      omega
    · have g0 := l0 d hd a (how / 9) hid.1.1 hid.1.2 (by omega) (by omega) o.1
      have g1 := l1 d hd b (how / 3 % 3) hid.2.1.1 hid.2.1.2 (by omega) (by omega) o.2.1
      have g2 := l2 d hd c (how % 3) hid.2.2.1 hid.2.2.2 (by omega) (by omega) o.2.2
      rw [show 78 * (0 : Int) + 3 * a + how / 9 = 3 * a + how / 9 by omega] at g0
      rw [show 78 * (1 : Int) + 3 * b + how / 3 % 3 = 78 + 3 * b + how / 3 % 3 by omega] at g1
      rw [show 78 * (2 : Int) + 3 * c + how % 3 = 156 + 3 * c + how % 3 by omega] at g2
      have := n0.1 o.1; have := n1.1 o.2.1; have := n2.1 o.2.2
      unfold inB
      omega
  · left
    refine ⟨?_, o⟩
    rw [if_pos]
    by_cases o0 : okE (q 0) v (how / 9) (agB M 0 a) = true
    · by_cases o1 : okE (q 1) v (how / 3 % 3) (agB M 1 b) = true
      · by_cases o2 : okE (q 2) v (how % 3) (agB M 2 c) = true
        · exact absurd ⟨o0, o1, o2⟩ o
        · have := n2.2 (by simpa using o2)
          omega
      · have := n1.2 (by simpa using o1)
        omega
    · have := n0.2 (by simpa using o0)
      omega
/-- a row of the table of halves stands -/
def HV (M : Nat → Int → Int) (q : qF) (n v : Int) (C : cF) (lt d : Nat) : Prop := ∀ a b c : Int, inB C d a b c → M 114 (17576 * (lt : Int) + ix3 a b c) = lf (q 0) (q 1) (q 2) n v lt (agB M 0 a) (agB M 1 b) (agB M 2 c)
theorem HV_same {M' : Nat → Int → Int} {lt d : Nat} (hm : m ≤ 6) (hd : d ≤ m) (ht : mtb M q x v m C) (h1 : M' 111 = M 111) (h2 : ∀ j : Int, 17576 * (lt : Int) ≤ j → j < 17576 * (lt : Int) + 17576 → M' 114 j = M 114 j) (k : HV M q n v C lt d) : HV M' q n v C lt d := by
  intro a b c hin
  have g0 := mtb_C ht hm (i := 0) (by omega) hd
  have g1 := mtb_C ht hm (i := 1) (by omega) hd
  have g2 := mtb_C ht hm (i := 2) (by omega) hd
  have e : ∀ i, agB M' i = agB M i := fun i => by funext j; unfold agB; rw [h1]
  have := k a b c hin
  rw [e, e, e, ← this]
  unfold inB at hin
  unfold ix3
  exact h2 _ (by omega) (by omega)
section MHALVES
variable {l : Launch} {z dd : Nat} {X : jX} {Q : Option jV → jM → Prop}
theorem c_X10_thenOf (h : mtb M q x v m C) (hm6 : m ≤ 6) {m' : Nat} (hm : m = m' + 1) {a b c : Int} (hin : inB C m' a b c) {how : Int} (hh : 0 ≤ how ∧ how < 27) (hk : Q (some (jI (thV M a b c how))) (jG, M)) : J l z X (dd + 1) mX10_thenOf (0, 0) 0 [jR 96, jI a, jI b, jI c, jI how, jN, jN, jN] [] (jG, M) Q := by
  have g0 := mtb_C h hm6 (i := 0) (d := m') (by omega) (by omega)
  have g1 := mtb_C h hm6 (i := 1) (d := m') (by omega) (by omega)
  have g2 := mtb_C h hm6 (i := 2) (d := m') (by omega) (by omega)
  have k0 := mtb_C h hm6 (i := 0) (d := m) (by omega) (by omega)
  have k1 := mtb_C h hm6 (i := 1) (d := m) (by omega) (by omega)
  have k2 := mtb_C h hm6 (i := 2) (d := m) (by omega) (by omega)
  have c0 := (h 0 (by omega) (by omega)).1.2.1
  have c1 := (h 1 (by omega) (by omega)).1.2.1
  have c2 := (h 2 (by omega) (by omega)).1.2.1
  have hI := id hin
  unfold inB at hI
  have n0 := mtb_nx h hm (i := 0) (by omega) hin.1 (e := how / 9) (by omega)
  have n1 := mtb_nx h hm (i := 1) (by omega) hin.2.1 (e := how / 3 % 3) (by omega)
  have n2 := mtb_nx h hm (i := 2) (by omega) hin.2.2 (e := how % 3) (by omega)
  rw [show 78 * (0 : Int) + 3 * a + how / 9 = 3 * a + how / 9 by omega] at n0
  rw [show 78 * (1 : Int) + 3 * b + how / 3 % 3 = 78 + 3 * b + how / 3 % 3 by omega] at n1
  rw [show 78 * (2 : Int) + 3 * c + how % 3 = 156 + 3 * c + how % 3 by omega] at n2
  have r0 : M 113 (3 * a + how / 9) ≤ 12 := by
    cases o : okE (q 0) v (how / 9) (agB M 0 a) with
    | true => have := n0.1 o; omega
    | false => have := n0.2 o; omega
  have r1 : M 113 (78 + 3 * b + how / 3 % 3) ≤ 12 := by
    cases o : okE (q 1) v (how / 3 % 3) (agB M 1 b) with
    | true => have := n1.1 o; omega
    | false => have := n1.2 o; omega
  have r2 : M 113 (156 + 3 * c + how % 3) ≤ 12 := by
    cases o : okE (q 2) v (how % 3) (agB M 2 c) with
    | true => have := n2.1 o; omega
    | false => have := n2.2 o; omega
  unfold thV at hk
  refine b_X10_thenOf_0 (jInd (by omega)) hh.1 (jInd (by omega)) (by omega) (by omega) (jInd (by omega)) (jInd (by omega)) (by omega) (jInd (by omega)) (by omega) (by omega) (jInd (by omega)) (jInd (by omega)) (jInd (by omega)) (by omega) (by omega) (fun _ _ _ => by omega) (fun g => ?_) (fun g g' => ?_) (fun g g' g'' => ?_) (fun g g' g'' => ?_)
  · rw [if_pos (Or.inl g)] at hk; exact hk
  · rw [if_pos (Or.inr (Or.inl g'))] at hk; exact hk
  · rw [if_neg (by omega)] at hk; exact hk
  · rw [if_pos (Or.inr (Or.inr g''))] at hk; exact hk
/-- what a way costs; right where its places are reached in time -/
theorem c_X10_halvesBy (h : mtb M q x v m C) (hm6 : m ≤ 6) {m' : Nat} (hm : m = m' + 1) (hn : n ≤ 6) {a b c : Int} (hin : inB C m' a b c) {k : Nat} (hh : k < 27) {lt : Nat} (hlt : lt ≤ 5) (hk : ∀ w : Int, jIn w → (∀ d : Nat, d < m → inB C d a b c → HV M q n v C lt (d + 1) → w = cU (q 0) (q 1) (q 2) n v lt (agB M 0 a) (agB M 1 b) (agB M 2 c) k) → Q (some (jI w)) (jG, M)) : J l z X (dd + 2) mX10_halvesBy (0, 0) 0 [jR 96, jI a, jI b, jI c, jI (k : Int), jI n, jI ((lt : Int) + 1), jN] [] (jG, M) Q := by
  have ht := thV_ok h hm6 hm hin (how := (k : Int)) (by omega)
  have hcU : cU (q 0) (q 1) (q 2) n v lt (agB M 0 a) (agB M 1 b) (agB M 2 c) k = if ((k : Int) / 9 + (k : Int) / 3 % 3 + (k : Int) % 3 ≤ n) ∧ okE (q 0) v ((k : Int) / 9) (agB M 0 a) = true ∧ okE (q 1) v ((k : Int) / 3 % 3) (agB M 1 b) = true ∧ okE (q 2) v ((k : Int) % 3) (agB M 2 c) = true then ((k : Int) / 9 + (k : Int) / 3 % 3 + (k : Int) % 3) + lf (q 0) (q 1) (q 2) n v lt (stp (q 0) ((k : Int) / 9) (agB M 0 a)) (stp (q 1) ((k : Int) / 3 % 3) (agB M 1 b)) (stp (q 2) ((k : Int) % 3) (agB M 2 c)) else 1000 := rfl
  have k0 := mtb_C h hm6 (i := 0) (d := m) (by omega) (by omega)
  have k1 := mtb_C h hm6 (i := 1) (d := m) (by omega) (by omega)
  have k2 := mtb_C h hm6 (i := 2) (d := m) (by omega) (by omega)
  have j1000 : jIn 1000 := jInd (by omega)
  refine b_X10_halvesBy_0 (by omega) (fun g => c_X10_thenOf h hm6 hm hin (by omega) ?_) (fun g => ?_)
  · rcases ht with ⟨t1, t2⟩ | ⟨t1, a', b', c', t2, t3, t4, t5, t6, t7⟩
    · rw [t1]
      refine b2_X10_halvesBy_24 (fun g => absurd g (by omega)) (fun g => absurd g (by omega)) (fun g => absurd g (by omega)) (fun g => absurd g (by omega)) (fun g => absurd g (by omega)) (fun g => absurd g (by omega)) (fun g => absurd g (by omega)) (fun _ => hk 1000 j1000 (fun d _ _ _ => ?_))
      rw [hcU, if_neg (fun w => t2 w.2)]
    · rw [t2]
      have t3' := id t3
      unfold inB at t3'
      have hix : 0 ≤ ix3 a' b' c' ∧ ix3 a' b' c' < 17576 := by unfold ix3; omega
      have el : (lt : Int) + 1 - 1 = lt := by omega
      refine b2_X10_halvesBy_24 (fun _ => by omega) (fun _ => jInd (by omega)) (fun _ => jInd (by omega)) (fun _ => jInd (by omega)) (fun _ => by omega) (fun _ => by omega) (fun _ w w1 w2 => hk w w1 (fun d hd hid hHV => ?_)) (fun g => absurd g (by omega))
      rw [el] at w2
      have hv := hHV a' b' c' (t7 d hd hid)
      have hr := lf_rng (q0 := q 0) (q1 := q 1) (q2 := q 2) (n := n) (v := v) lt (agB M 0 a') (agB M 1 b') (agB M 2 c')
      rw [hv] at w2
      rw [w2 (jInd (by omega)), hcU, if_pos ⟨g, t1⟩, t4, t5, t6]
  · refine b2_X10_halvesBy_24 (fun g => absurd g (by omega)) (fun g => absurd g (by omega)) (fun g => absurd g (by omega)) (fun g => absurd g (by omega)) (fun g => absurd g (by omega)) (fun g => absurd g (by omega)) (fun g => absurd g (by omega)) (fun _ => hk 1000 j1000 (fun d _ _ _ => ?_))
    rw [hcU, if_neg (by omega)]
end MHALVES
end MTB
