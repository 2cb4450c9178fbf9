/-! ## the reference's list of ages, all days -/
def frB (M M1 : Nat → Int → Int) (i : Int) : Prop := (∀ c : Nat, c ≠ 111 → c ≠ 112 → c ≠ 113 → c ≠ 115 → M1 c = M c) ∧ (∀ p : Int, ¬ (26 * i ≤ p ∧ p < 26 * i + 26) → M1 111 p = M 111 p) ∧ (∀ p : Int, p ≠ i → M1 112 p = M 112 p) ∧ (∀ p : Int, ¬ (78 * i ≤ p ∧ p < 78 * i + 78) → M1 113 p = M 113 p) ∧ (∀ p : Int, p ≠ i → M1 115 p = M 115 p)
def lay (M1 : Nat → Int → Int) (q : qT) (x0 v i : Int) (D : Nat) (C : Nat → Int) : Prop := (C 0 = 1 ∧ C D = M1 112 i ∧ ∀ d d' : Nat, d ≤ d' → d' ≤ D → C d ≤ C d') ∧ (∀ d : Nat, d < D → ∀ k e : Int, 0 ≤ k → k < C d → 0 ≤ e → e < 3 → okE q v e (agB M1 i k) = true → ∃ w : Int, 0 ≤ w ∧ w < C (d + 1) ∧ agB M1 i w = stp q e (agB M1 i k)) ∧ rowB M1 q x0 D i ∧ agB M1 i 0 = x0 ∧ ∀ D' : Nat, D = D' + 1 → M1 115 i = C D' ∧ ∀ j : Int, 0 ≤ j → j < 3 * C D' → nxB M1 q v i (j / 3) (j % 3) (M1 113 (78 * i + j))
/-- a seat's tables of the reference, m days; behind d days the first C d ages are reached -/
def tbB (M : Nat → Int → Int) (q : qT) (x0 v : Int) (m : Nat) (i : Int) (C : Nat → Int) : Prop := (C 0 = 1 ∧ C m = M 112 i ∧ ∀ d d' : Nat, d ≤ d' → d' ≤ m → C d ≤ C d') ∧ agB M i 0 = x0 ∧ rowB M q x0 m i ∧ (∀ m' : Nat, m = m' + 1 → M 115 i = C m' ∧ ∀ k e : Int, 0 ≤ k → k < C m' → 0 ≤ e → e < 3 → nxB M q v i k e (M 113 (78 * i + 3 * k + e))) ∧ ∀ d : Nat, d < m → ∀ k e : Int, 0 ≤ k → k < C d → 0 ≤ e → e < 3 → okE q v e (agB M i k) = true → M 113 (78 * i + 3 * k + e) < C (d + 1)
theorem lay_tbB {M : Nat → Int → Int} {q : qT} {x0 v i : Int} {m : Nat} {C : Nat → Int} (h : lay M q x0 v i m C) : tbB M q x0 v m i C := by
  obtain ⟨h1, h2, h3, h4, h5⟩ := h
  have ht : ∀ m' : Nat, m = m' + 1 → ∀ k e : Int, 0 ≤ k → k < C m' → 0 ≤ e → e < 3 → nxB M q v i k e (M 113 (78 * i + 3 * k + e)) := by
    intro m' hm k e k0 k1 e0 e1
    have := (h5 m' hm).2 (3 * k + e) (by omega) (by omega)
    rw [show (3 * k + e) / 3 = k by omega, show (3 * k + e) % 3 = e by omega, show 78 * i + (3 * k + e) = 78 * i + 3 * k + e by omega] at this
    exact this
  refine ⟨h1, h4, h3, fun m' hm => ⟨(h5 m' hm).1, ht m' hm⟩, fun d hd k e k0 k1 e0 e1 ho => ?_⟩
  have hm : m = (m - 1) + 1 := by omega
  have hC := h1.2.2 d (m - 1) (by omega) (by omega)
  have hC2 := h1.2.2 (d + 1) m (by omega) (by omega)
  have k2 := (ht (m - 1) hm k e k0 (by omega) e0 e1).1 ho
  obtain ⟨w, w0, w1, w2⟩ := h2 d hd k e k0 k1 e0 e1 ho
  generalize M 113 (78 * i + 3 * k + e) = u at k2 ⊢
  rcases Int.lt_trichotomy u w with g | g | g
  · omega
  · omega
  · exact absurd (w2.trans k2.2.symm) (h3.2.2 w u w0 g (by omega))
section MLAY
variable {l : Launch} {z dd : Nat} {X : jX} {M : Nat → Int → Int} {Q : Option jV → jM → Prop}
theorem c_X10_layAges {q : qT} {x0 v : Int} {m : Nat} {i : Int} (hi : 0 ≤ i ∧ i < 3) (hm : m ≤ 6) (hv0 : 0 ≤ v) (hx : rgA q x0) (hx0 : q.1 = false → x0 = 0) (hx1 : q.1 = true → x0 = M 97 (M 110 i)) (hwho : whoB M q i) (hpc : ∀ k : Int, 0 ≤ k → k < 6 → 0 ≤ M 98 k ∧ M 98 k ≤ 9) (hk : ∀ (M2 : Nat → Int → Int) (C : Nat → Int), frB M M2 i → tbB M2 q x0 v m i C → Q none (jG, M2)) : J l z X (dd + 2) mX10_layAges (0, 0) 0 [jR 96, jI i, jI (m : Int), jI v, jN, jN, jN, jN] [] (jG, M) Q := by
  have hloop : ∀ (n D : Nat) (C : Nat → Int) (M1 : Nat → Int → Int), D + n = m → frB M M1 i → lay M1 q x0 v i D C → J l z X (dd + 2) mX10_layAges (0, 0) 43 [jR 96, jI i, jI (m : Int), jI v, jI (M 110 i), jI (D : Int), jN, jN] [] (jG, M1) Q := by
    intro n
    induction n with
    | zero =>
      intro D C M1 hD fr hl
      obtain rfl : D = m := by omega
      exact b_X10_layAges_43 (fun g => absurd g (by omega)) (fun g => absurd g (by omega)) (fun _ => hk M1 C fr (lay_tbB hl)) (fun g => absurd g (by omega))
    | succ n ih =>
      intro D C M1 hD fr hl
      obtain ⟨l1, l2, l3, l4, l5⟩ := hl
      obtain ⟨r1, r2, r3, r4, r5⟩ := fr
      have hcnt := rowB_cnt l3
      have hw1 : whoB M1 q i := by
        unfold whoB
        rw [r1 110 (by omega) (by omega) (by omega) (by omega), r1 98 (by omega) (by omega) (by omega) (by omega), r1 99 (by omega) (by omega) (by omega) (by omega)]
        exact hwho
      have hp1 : ∀ k : Int, 0 ≤ k → k < 6 → 0 ≤ M1 98 k ∧ M1 98 k ≤ 9 := by
        rw [r1 98 (by omega) (by omega) (by omega) (by omega)]
        exact hpc
      refine b_X10_layAges_43 (fun _ => hi.1) (fun _ => hi.2) (fun g => absurd g (by omega)) (fun _ => ?_)
      have hin : ∀ (k : Nat) (j : Int) (M2 : Nat → Int → Int), j = 3 * M1 112 i - (k : Int) → 0 ≤ j → invB M1 M2 q x0 v D i (M1 112 i) j → J l z X (dd + 2) mX10_layAges (0, 0) 60 [jR 96, jI i, jI (m : Int), jI v, jI (M 110 i), jI (D : Int), jI (M1 112 i), jI j] [] (jG, M2) Q := by
        intro k
        induction k with
        | zero =>
          intro j M2 hj j0 inv
          obtain ⟨i1, i2, i3, i4, i5, i6, i7⟩ := inv
          refine b_X10_layAges_60 (jInd (by omega)) (fun _ => hi.1) (fun _ => hi.2) (fun _ => jInd (by omega)) (fun g => absurd g (by omega)) (fun _ => ?_) (fun g => absurd g (by omega))
          rw [show (D : Int) + 1 = ((D + 1 : Nat) : Int) by omega]
          have a1 : ∀ c : Nat, c ≠ 115 → jupd M2 115 i (M1 112 i) c = M2 c := fun c hc => by rw [jupd_c, if_neg hc]
          have a2 : agB (jupd M2 115 i (M1 112 i)) i = agB M2 i := by funext k; unfold agB; rw [a1 111 (by omega)]
          have a3 : ∀ k : Int, k < M1 112 i → agB M2 i k = agB M1 i k := fun k hk' => i2 _ (by omega)
          have hcnt2 := rowB_cnt i6
          refine ih (D + 1) (fun d => if d ≤ D then C d else M2 112 i) _ (by omega) ⟨fun c c1 c2 c3 c4 => ?_, fun p hp => ?_, fun p hp => ?_, fun p hp => ?_, fun p hp => ?_⟩ ⟨⟨?_, ?_, fun d d' h1 h2 => ?_⟩, fun d hd k e k0 k1 e0 e1 ho => ?_, ?_, ?_, fun D' hD' => ?_⟩
          · rw [a1 c c4, i1 c c1 c2 c3]; exact r1 c c1 c2 c3 c4
          · rw [a1 111 (by omega), i2 p (by have := l3.1; omega)]; exact r2 p hp
          · rw [a1 112 (by omega), i3 p hp]; exact r3 p hp
          · rw [a1 113 (by omega), i4 p hp]; exact r4 p hp
          · rw [jupd_i _ _ _ _ hp, i1 115 (by omega) (by omega) (by omega)]; exact r5 p hp
          · show (if 0 ≤ D then C 0 else M2 112 i) = 1
            rw [if_pos (by omega)]; exact l1.1
          · show (if D + 1 ≤ D then C (D + 1) else M2 112 i) = _
            rw [if_neg (by omega), a1 112 (by omega)]
          · show (if d ≤ D then C d else M2 112 i) ≤ (if d' ≤ D then C d' else M2 112 i)
            by_cases g : d' ≤ D
            · rw [if_pos g, if_pos (by omega)]; exact l1.2.2 d d' h1 g
            · rw [if_neg g]
              by_cases g2 : d ≤ D
              · rw [if_pos g2]
                have := l1.2.2 d D g2 (by omega)
                have := l1.2.1
                omega
              · rw [if_neg g2]; exact Int.le_refl _
          · show ∃ w : Int, 0 ≤ w ∧ w < (if d + 1 ≤ D then C (d + 1) else M2 112 i) ∧ _
            replace k1 : k < (if d ≤ D then C d else M2 112 i) := k1
            rw [if_pos (by omega)] at k1
            have hCd := l1.2.2 d D (by omega) (by omega)
            have hCD := l1.2.1
            rw [a2] at ho ⊢
            by_cases g : d + 1 ≤ D
            · rw [if_pos g]
              rw [a3 k (by omega)] at ho ⊢
              obtain ⟨w, w0, w1, w2⟩ := l2 d (by omega) k e k0 k1 e0 e1 ho
              have hCd1 := l1.2.2 (d + 1) D g (by omega)
              exact ⟨w, w0, w1, by rw [a3 w (by omega)]; exact w2⟩
            · rw [if_neg g]
              have := i7 (3 * k + e) (by omega) (by omega)
              rw [show (3 * k + e) / 3 = k by omega, show (3 * k + e) % 3 = e by omega] at this
              have := this.1 ho
              exact ⟨_, this.1.1, this.1.2, this.2⟩
          · unfold rowB
            rw [a2, a1 112 (by omega)]
            exact i6
          · rw [a2, a3 0 (by have := l3.1; omega)]
            exact l4
          · obtain rfl : D' = D := by omega
            show _ = (if D' ≤ D' then C D' else M2 112 i) ∧ ∀ j : Int, 0 ≤ j → j < 3 * (if D' ≤ D' then C D' else M2 112 i) → _
            rw [if_pos (Nat.le_refl _), l1.2.1, jupd_s]
            refine ⟨rfl, fun j' j'0 j'1 => ?_⟩
            unfold nxB
            rw [a2, a1 112 (by omega), a1 113 (by omega)]
            exact i7 j' j'0 (by omega)
        | succ k ihk =>
          intro j M2 hj j0 inv
          refine b_X10_layAges_60 (jInd (by omega)) (fun g => absurd g (by omega)) (fun g => absurd g (by omega)) (fun g => absurd g (by omega)) (fun _ => j0) (fun g => absurd g (by omega)) (fun _ => ?_)
          refine c_X10_layAgeThen hi (by omega) hv0 hx hx0 l3 rfl hw1 hp1 ⟨j0, by omega⟩ inv (fun M3 inv3 => b_X10_layAges_83 (jInd (by omega)) (ihk (j + 1) M3 (by omega) (by omega) inv3))
      refine hin (3 * M1 112 i).toNat 0 M1 (by have := l3.1; omega) (by omega) ⟨fun _ _ _ _ => rfl, fun _ _ => rfl, fun _ _ => rfl, fun _ _ => rfl, Int.le_refl _, ⟨l3.1, fun k k0 k1 => ⟨(l3.2.1 k k0 k1).1, RcL_up (l3.2.1 k k0 k1).2⟩, l3.2.2⟩, fun j' j0 j1 => absurd j1 (by omega)⟩
  have h39 : J l z X (dd + 2) mX10_layAges (0, 0) 39 [jR 96, jI i, jI (m : Int), jI v, jI (M 110 i), jN, jN, jN] [jI x0, jI (26 * i), jR 111] (jG, jupd M 112 i 1) Q := by
    refine b_X10_layAges_39 (by omega) (by omega) ?_
    have a1 : ∀ c : Nat, c ≠ 111 → c ≠ 112 → jupd (jupd M 112 i 1) 111 (26 * i) x0 c = M c := fun c c1 c2 => by rw [jupd_c, if_neg c1, jupd_c, if_neg c2]
    have a2 : ∀ p : Int, jupd (jupd M 112 i 1) 111 (26 * i) x0 112 p = if p = i then 1 else M 112 p := fun p => by
      rw [jupd_h _ _ _ _ (by omega), jupd_c, if_pos rfl]
    have a3 : ∀ p : Int, jupd (jupd M 112 i 1) 111 (26 * i) x0 111 p = if p = 26 * i then x0 else M 111 p := fun p => by
      rw [jupd_c, if_pos rfl]
      rw [jupd_h _ _ _ _ (by omega)]
    have ag0 : agB (jupd (jupd M 112 i 1) 111 (26 * i) x0) i 0 = x0 := by
      unfold agB
      rw [a3, if_pos (by omega)]
    refine hloop m 0 (fun _ => 1) _ (by omega) ⟨fun c c1 c2 _ _ => a1 c c1 c2, fun p hp => by rw [a3, if_neg (by omega)], fun p hp => by rw [a2, if_neg hp], fun p _ => by rw [a1 113 (by omega) (by omega)], fun p _ => by rw [a1 115 (by omega) (by omega)]⟩ ⟨⟨rfl, by rw [a2, if_pos rfl], fun _ _ _ _ => Int.le_refl _⟩, fun d hd => absurd hd (by omega), ⟨by rw [a2, if_pos rfl]; omega, fun k k0 k1 => ?_, fun j k j0 j1 k1 => ?_⟩, ag0, fun D' h => absurd h (by omega)⟩
    · rw [a2, if_pos rfl] at k1
      obtain rfl : k = 0 := by omega
      rw [ag0]
      exact ⟨hx, List.mem_singleton.mpr rfl⟩
    · rw [a2, if_pos rfl] at k1
      omega
  refine b_X10_layAges_0 hi.1 hi.2 (jInd (by omega)) (fun g => g) (fun g => ?_) (fun g => ?_) (fun g => ?_)
  · rcases hwho with ⟨w1, w2, -⟩ | ⟨w1, w2⟩
    · exact w2.2
    · exact absurd g (by omega)
  · rcases hwho with ⟨w1, w2, -⟩ | ⟨w1, w2⟩
    · have : jupd M 112 i 1 97 (M 110 i) = x0 := by rw [jupd_c, if_neg (by omega)]; exact (hx1 w1).symm
      rw [this]
      exact h39
    · exact absurd g (by omega)
  · rcases hwho with ⟨w1, w2, -⟩ | ⟨w1, w2⟩
    · exact absurd g (by omega)
    · have := hx0 w1
      subst this
      exact h39
end MLAY
