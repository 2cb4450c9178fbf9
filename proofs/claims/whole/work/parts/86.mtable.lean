/-! ## the reference's table of halves, laid -/
section MTABLE
variable {l : Launch} {z dd : Nat} {X : jX} {Q : Option jV → jM → Prop} {M : Nat → Int → Int} {q : qF} {x : Int → Int} {n v : Int} {m : Nat} {C : cF}
/-- while a row of the table is laid -/
def frH (M M1 : Nat → Int → Int) (lt : Nat) : Prop := (∀ c : Nat, c ≠ 114 → M1 c = M c) ∧ ∀ j : Int, ¬ (17576 * (lt : Int) ≤ j ∧ j < 17576 * (lt : Int) + 17576) → M1 114 j = M 114 j
def dnH (M M1 : Nat → Int → Int) (q : qF) (n v : Int) (C : cF) (lt d : Nat) (t : Int) : Prop := ∀ a b c : Int, inB C d a b c → ix3 a b c < t → M1 114 (17576 * (lt : Int) + ix3 a b c) = lf (q 0) (q 1) (q 2) n v lt (agB M 0 a) (agB M 1 b) (agB M 2 c)
theorem c_X10_manyAt (h : mtb M q x v m C) {lt mm : Nat} (hl : lt ≤ m) (hmm : (lt = 0 ∧ mm = m) ∨ (lt ≠ 0 ∧ m = mm + 1)) {i : Int} (hi : 0 ≤ i ∧ i < 3) (hk : Q (some (jI (C i mm))) (jG, M)) : J l z X dd mX10_manyAt (0, 0) 0 [jR 96, jI i, jI (lt : Int)] [] (jG, M) Q := by
  have ht := h i hi.1 hi.2
  refine b_X10_manyAt_0 (fun _ => hi.1) (fun _ => hi.2) (fun _ => hi.1) (fun _ => hi.2) (fun g => ?_) (fun g => ?_)
  · rw [(ht.2.2.2.1 mm (by omega)).1]; exact hk
  · rcases hmm with ⟨-, e⟩ | ⟨e, -⟩
    · subst e
      rw [← ht.1.2.1]; exact hk
    · exact absurd g (by omega)
theorem c_X10_layHalves (h : mtb M q x v m C) (hm6 : m ≤ 6) (hn : n ≤ 6) {lt d : Nat} (hd : d + lt = m) (hprev : ∀ lt' : Nat, lt = lt' + 1 → HV M q n v C lt' (d + 1)) (hk : ∀ M2 : Nat → Int → Int, frH M M2 lt → HV M2 q n v C lt d → Q none (jG, M2)) : J l z X (dd + 3) mX10_layHalves (0, 0) 0 [jR 96, jI (lt : Int), jI n, jN, jN, jN, jN, jN, jN] [] (jG, M) Q := by
  obtain ⟨mm, hmm⟩ : ∃ mm : Nat, (lt = 0 ∧ mm = m) ∨ (lt ≠ 0 ∧ m = mm + 1) := by
    by_cases e : lt = 0
    · exact ⟨m, Or.inl ⟨e, rfl⟩⟩
    · exact ⟨m - 1, Or.inr ⟨e, by omega⟩⟩
  have hmmm : mm ≤ m := by omega
  have hdm : d ≤ mm := by omega
  have g0 := mtb_C h hm6 (i := 0) (by omega) hmmm
  have g1 := mtb_C h hm6 (i := 1) (by omega) hmmm
  have g2 := mtb_C h hm6 (i := 2) (by omega) hmmm
  have htb : ∀ M1, frH M M1 lt → mtb M1 q x v m C := fun M1 f => mtb_same (fun c hc => f.1 c (by omega)) h
  have hag : ∀ M1, frH M M1 lt → ∀ i, agB M1 i = agB M i := fun M1 f i => by funext j; unfold agB; rw [f.1 111 (by omega)]
  -- one state: its best
  have l104 : ∀ (a b c best x7 : Int) (M1 : Nat → Int → Int), inB C mm a b c → frH M M1 lt → dnH M M1 q n v C lt d (ix3 a b c) → (inB C d a b c → best = lf (q 0) (q 1) (q 2) n v lt (agB M 0 a) (agB M 1 b) (agB M 2 c)) → (∀ M2, frH M M2 lt → dnH M M2 q n v C lt d (ix3 a b (c + 1)) → J l z X (dd + 3) mX10_layHalves (0, 0) 29 [jR 96, jI (lt : Int), jI n, jI a, jI b, jI (c + 1), jN, jN, jN] [] (jG, M2) Q) → J l z X (dd + 3) mX10_layHalves (0, 0) 104 [jR 96, jI (lt : Int), jI n, jI a, jI b, jI c, jI best, jI x7, jN] [] (jG, M1) Q := by
    intro a b c best x7 M1 hin fr hdn hb hnext
    have hI := id hin
    unfold inB at hI
    have hix : ix3 a b c = 26 * (26 * a + b) + c := rfl
    refine b_X10_layHalves_104 (jInd (by omega)) (by omega) (jInd (by omega)) (by omega) (by omega) (jInd (by omega)) (hnext _ ⟨fun c' hc' => by rw [jupd_c, if_neg hc']; exact fr.1 c' hc', fun j hj => by rw [jupd_i _ _ _ _ (by omega)]; exact fr.2 j hj⟩ (fun a' b' c' hin' hlt => ?_))
    have hC0 := inB_mono h hdm hmmm hin'
    unfold inB at hC0
    have hix' : ix3 a' b' c' = 26 * (26 * a' + b') + c' := rfl
    have hixn : ix3 a b (c + 1) = 26 * (26 * a + b) + (c + 1) := rfl
    by_cases e : ix3 a' b' c' = ix3 a b c
    · have e1 : a' = a := by omega
      have e2 : b' = b := by omega
      have e3 : c' = c := by omega
      subst e1; subst e2; subst e3
      rw [← hix, jupd_s]
      exact hb hin'
    · rw [jupd_i _ _ _ _ (by omega)]
      exact hdn a' b' c' hin' (by omega)
  have l56 : ∀ (lt' : Nat), lt = lt' + 1 → ∀ (a b c : Int), inB C mm a b c → ∀ (k : Nat) (w : Nat) (best : Int) (M1 : Nat → Int → Int), w + k = 27 → frH M M1 lt → dnH M M1 q n v C lt d (ix3 a b c) → (inB C d a b c → best = bst (cU (q 0) (q 1) (q 2) n v lt' (agB M 0 a) (agB M 1 b) (agB M 2 c)) w) → (∀ M2, frH M M2 lt → dnH M M2 q n v C lt d (ix3 a b (c + 1)) → J l z X (dd + 3) mX10_layHalves (0, 0) 29 [jR 96, jI (lt : Int), jI n, jI a, jI b, jI (c + 1), jN, jN, jN] [] (jG, M2) Q) → J l z X (dd + 3) mX10_layHalves (0, 0) 56 [jR 96, jI (lt : Int), jI n, jI a, jI b, jI c, jI best, jI (w : Int), jN] [] (jG, M1) Q := by
    intro lt' hlt' a b c hin k
    induction k with
    | zero =>
      intro w best M1 hw fr hdn hb hnext
      refine b_X10_layHalves_56 (fun _ => l104 a b c best _ M1 hin fr hdn (fun g => ?_) hnext) (fun g => absurd g (by omega)) (fun g => absurd g (by omega))
      rw [hb g, show w = 27 by omega, hlt', lf_s]
    | succ k ih =>
      intro w best M1 hw fr hdn hb hnext
      refine b_X10_layHalves_56 (fun g => absurd g (by omega)) (fun _ g => absurd g (by omega)) (fun _ _ => ?_)
      have e1 : (lt : Int) = (lt' : Int) + 1 := by omega
      have hcall : J l z X (dd + 2) mX10_halvesBy (0, 0) 0 [jR 96, jI a, jI b, jI c, jI (w : Int), jI n, jI ((lt' : Int) + 1), jN] [] (jG, M1) (fun r μ => J l z X (dd + 3) mX10_layHalves (0, 0) 80 [jR 96, jI (lt : Int), jI n, jI a, jI b, jI c, jI best, jI (w : Int), jN] (r.toList ++ []) μ Q) := by
        refine c_X10_halvesBy (htb M1 fr) hm6 (m' := mm) (by omega) hn hin (k := w) (by omega) (lt := lt') (by omega) (fun t t1 t2 => ?_)
        have hval : inB C d a b c → t = cU (q 0) (q 1) (q 2) n v lt' (agB M 0 a) (agB M 1 b) (agB M 2 c) w := by
          intro g
          have hp : HV M1 q n v C lt' (d + 1) := HV_same (m := m) hm6 (by omega) h (fr.1 111 (by omega)) (fun j j0 j1 => fr.2 j (by omega)) (hprev lt' hlt')
          have := t2 d (by omega) g hp
          rw [hag M1 fr, hag M1 fr, hag M1 fr] at this
          exact this
        refine b_X10_layHalves_80 (fun g => b_X10_layHalves_96 (jInd (by omega)) ?_) (fun g => b_X10_layHalves_96 (jInd (by omega)) ?_)
        · rw [show (w : Int) + 1 = ((w + 1 : Nat) : Int) by omega]
          refine ih (w + 1) best M1 (by omega) fr hdn (fun g' => ?_) hnext
          have hv := hval g'
          have hb' := hb g'
          rw [bst_s, ← hv, ← hb', if_neg (by omega)]
        · rw [show (w : Int) + 1 = ((w + 1 : Nat) : Int) by omega]
          refine ih (w + 1) t M1 (by omega) fr hdn (fun g' => ?_) hnext
          have hv := hval g'
          have hb' := hb g'
          rw [bst_s, ← hv, ← hb', if_pos g]
      rw [← e1] at hcall
      exact hcall
  have l29 : ∀ (a b : Int), (0 ≤ a ∧ a < C 0 mm) → (0 ≤ b ∧ b < C 1 mm) → (∀ M2, frH M M2 lt → dnH M M2 q n v C lt d (ix3 a (b + 1) 0) → J l z X (dd + 3) mX10_layHalves (0, 0) 15 [jR 96, jI (lt : Int), jI n, jI a, jI (b + 1), jN, jN, jN, jN] [] (jG, M2) Q) → ∀ (k : Nat) (c : Int) (M1 : Nat → Int → Int), c = C 2 mm - (k : Int) → 0 ≤ c → frH M M1 lt → dnH M M1 q n v C lt d (ix3 a b c) → J l z X (dd + 3) mX10_layHalves (0, 0) 29 [jR 96, jI (lt : Int), jI n, jI a, jI b, jI c, jN, jN, jN] [] (jG, M1) Q := by
    intro a b ha hb hend k
    induction k with
    | zero =>
      intro c M1 hc c0 fr hdn
      refine b_X10_layHalves_29 (c_X10_manyAt (htb M1 fr) (by omega) hmm (by omega) ?_)
      refine b_X10_layHalves_37 (fun _ => jInd (by omega)) (fun _ => hend M1 fr (fun a' b' c' hin' hlt => hdn a' b' c' hin' ?_)) (fun g => absurd g (by omega)) (fun g => absurd g (by omega))
      have hC0 := inB_mono h hdm hmmm hin'
      unfold inB at hC0
      unfold ix3 at hlt ⊢
      omega
    | succ k ih =>
      intro c M1 hc c0 fr hdn
      have hin : inB C mm a b c := ⟨ha, hb, c0, by omega⟩
      refine b_X10_layHalves_29 (c_X10_manyAt (htb M1 fr) (by omega) hmm (by omega) ?_)
      refine b_X10_layHalves_37 (fun g => absurd g (by omega)) (fun g => absurd g (by omega)) (fun _ g => ?_) (fun _ g => ?_)
      · refine b_X10_layHalves_51 (l56 (lt - 1) (by omega) a b c hin 27 0 1000 M1 (by omega) fr hdn (fun _ => rfl) (fun M2 f2 d2 => ih (c + 1) M2 (by omega) (by omega) f2 d2))
      · have e0 : lt = 0 := by omega
        refine b_X10_layHalves_51 (b_X10_layHalves_56 (fun g => absurd g (by omega)) (fun _ _ => l104 a b c 0 _ M1 hin fr hdn (fun _ => ?_) (fun M2 f2 d2 => ih (c + 1) M2 (by omega) (by omega) f2 d2)) (fun _ g => absurd g (by omega)))
        rw [e0]
        rfl
  have l15 : ∀ (a : Int), (0 ≤ a ∧ a < C 0 mm) → (∀ M2, frH M M2 lt → dnH M M2 q n v C lt d (ix3 (a + 1) 0 0) → J l z X (dd + 3) mX10_layHalves (0, 0) 2 [jR 96, jI (lt : Int), jI n, jI (a + 1), jN, jN, jN, jN, jN] [] (jG, M2) Q) → ∀ (k : Nat) (b : Int) (M1 : Nat → Int → Int), b = C 1 mm - (k : Int) → 0 ≤ b → frH M M1 lt → dnH M M1 q n v C lt d (ix3 a b 0) → J l z X (dd + 3) mX10_layHalves (0, 0) 15 [jR 96, jI (lt : Int), jI n, jI a, jI b, jN, jN, jN, jN] [] (jG, M1) Q := by
    intro a ha hend k
    induction k with
    | zero =>
      intro b M1 hb b0 fr hdn
      refine b_X10_layHalves_15 (c_X10_manyAt (htb M1 fr) (by omega) hmm (by omega) ?_)
      refine b_X10_layHalves_23 (fun _ => jInd (by omega)) (fun _ => hend M1 fr (fun a' b' c' hin' hlt => hdn a' b' c' hin' ?_)) (fun g => absurd g (by omega))
      have hC0 := inB_mono h hdm hmmm hin'
      unfold inB at hC0
      unfold ix3 at hlt ⊢
      omega
    | succ k ih =>
      intro b M1 hb b0 fr hdn
      refine b_X10_layHalves_15 (c_X10_manyAt (htb M1 fr) (by omega) hmm (by omega) ?_)
      refine b_X10_layHalves_23 (fun g => absurd g (by omega)) (fun g => absurd g (by omega)) (fun _ => ?_)
      exact l29 a b ha ⟨b0, by omega⟩ (fun M2 f2 d2 => ih (b + 1) M2 (by omega) (by omega) f2 d2) (C 2 mm).toNat 0 M1 (by omega) (by omega) fr hdn
  have l2 : ∀ (k : Nat) (a : Int) (M1 : Nat → Int → Int), a = C 0 mm - (k : Int) → 0 ≤ a → frH M M1 lt → dnH M M1 q n v C lt d (ix3 a 0 0) → J l z X (dd + 3) mX10_layHalves (0, 0) 2 [jR 96, jI (lt : Int), jI n, jI a, jN, jN, jN, jN, jN] [] (jG, M1) Q := by
    intro k
    induction k with
    | zero =>
      intro a M1 ha a0 fr hdn
      refine b_X10_layHalves_2 (c_X10_manyAt (htb M1 fr) (by omega) hmm (by omega) ?_)
      refine b_X10_layHalves_9 (fun _ => hk M1 fr (fun a' b' c' hin' => ?_)) (fun g => absurd g (by omega))
      rw [hag M1 fr, hag M1 fr, hag M1 fr]
      refine hdn a' b' c' hin' ?_
      have hC0 := inB_mono h hdm hmmm hin'
      unfold inB at hC0
      unfold ix3
      omega
    | succ k ih =>
      intro a M1 ha a0 fr hdn
      refine b_X10_layHalves_2 (c_X10_manyAt (htb M1 fr) (by omega) hmm (by omega) ?_)
      refine b_X10_layHalves_9 (fun g => absurd g (by omega)) (fun _ => ?_)
      exact l15 a ⟨a0, by omega⟩ (fun M2 f2 d2 => ih (a + 1) M2 (by omega) (by omega) f2 d2) (C 1 mm).toNat 0 M1 (by omega) (by omega) fr hdn
  refine b_X10_layHalves_0 (l2 (C 0 mm).toNat 0 M (by omega) (by omega) ⟨fun _ _ => rfl, fun _ _ => rfl⟩ (fun a' b' c' hin' hlt => ?_))
  have hC0 := inB_mono h hdm hmmm hin'
  unfold inB at hC0
  unfold ix3 at hlt
  omega
end MTABLE
