def eB (M : Nat → Int → Int) (s : Int → Int) (a : Int) : Nat → Bool
  | 0 => true
  | n + 1 => (!badP M s a (6 - ((n + 1 : Nat) : Int))) && eB M s a n
def eA (M : Nat → Int → Int) (s : Int → Int) : Nat → Bool
  | 0 => true
  | n + 1 => eB M s (6 - ((n + 1 : Nat) : Int)) 6 && eA M s n
def shR (M : Nat → Int → Int) (c : Int) : Nat → Int → Int → Int → Int → (Int → Int) → Int
  | 0, _, sum, dg, _, s => if sum = c then (if eA M s 6 = true then dg else -6) else -6
  | m + 1, num, sum, dg, pw, s => if hasB (M 1 4) m = false ∧ 0 < num % 3 then -6 else shR M c m (num / 3) (sum + num % 3) (dg + pw * (if hasB (M 1 4) m = true then num % 3 else 3)) (pw * 10) (setS s m (num % 3))
def numL (V : Int → Int) : Nat → Int → List Int
  | 0, _ => []
  | m + 1, a => (if 0 ≤ V a then [V a] else []) ++ numL V m (a + 1)
theorem numL_len (V : Int → Int) : ∀ (m : Nat) (a : Int), (numL V m a).length ≤ m
  | 0, _ => Nat.le_refl 0
  | m + 1, a => by
    unfold numL
    have := numL_len V m (a + 1)
    rw [List.length_append]
    split <;> simp <;> omega
section MENVY
variable {l : Launch} {z d : Nat} {X : jX} {M : Nat → Int → Int} {Q : Option jV → jM → Prop}
theorem c_X10_isEnvyless_12 {M1 : Nat → Int → Int} (hI : Inv M) (hf : ∀ c, c ≠ 116 → M1 c = M c) {a : Int} (ha : 0 ≤ a ∧ a < 6) : ∀ (n : Nat) (x : Int) (r : Bool), x = 6 - (n : Int) → 0 ≤ x → J l z X (d + 2) mX10_isEnvyless (0, 0) 4 [jR 96, jI (bI (r && eB M (M1 116) a n)), jI (a + 1), jN, jN, jN] [] (jG, M1) Q → J l z X (d + 2) mX10_isEnvyless (0, 0) 12 [jR 96, jI (bI r), jI a, jI x, jN, jN] [] (jG, M1) Q := by
  obtain ⟨⟨q1, _⟩, hr, hK⟩ := hI.1
  have e96 : hasB (M1 96 0) = hasB (M 1 4) := by rw [hf 96 (by omega), q1]
  have hka := hK a ha.1 ha.2
  intro n
  induction n with
  | zero =>
    intro x r hx x0 kk
    unfold eB at kk
    rw [Bool.and_true] at kk
    exact b_X10_isEnvyless_12 (fun _ => jInd (by omega)) (fun q => absurd q (by omega)) (fun q => absurd q (by omega)) (fun q => absurd q (by omega)) (fun q => absurd q (by omega)) (fun _ => kk) (fun q => absurd q (by omega)) (fun q => absurd q (by omega)) (fun q => absurd q (by omega)) (fun q => absurd q (by omega)) (fun q => absurd q (by omega))
  | succ n ih =>
    intro x r hx x0 kk
    have x1 : x < 6 := by omega
    have hkx := hK x x0 x1
    unfold eB at kk
    rw [← hx, ← Bool.and_assoc] at kk
    have hend : ∀ (b : Bool) (x4 x5 : Int), b = (r && !badP M (M1 116) a x) → J l z X (d + 2) mX10_isEnvyless (0, 0) 124 [jR 96, jI (bI r), jI a, jI x, jI x4, jI x5] [jI (bI b)] (jG, M1) Q := fun b x4 x5 e => by
      rw [← e] at kk
      exact b_X10_isEnvyless_124 (jInd (by omega)) (ih _ _ (by omega) (by omega) kk)
    have h108 : ∀ (b : Bool) (x4 : Int), b = badP M (M1 116) a x → J l z X (d + 2) mX10_isEnvyless (0, 0) 108 [jR 96, jI (bI r), jI a, jI x, jI x4, jN] [jI (bI b)] (jG, M1) Q := by
      intro b x4 e
      rw [← e] at hend
      refine b_X10_isEnvyless_108 (fun c => b_X10_isEnvyless_123 (hend false _ _ ?_)) (fun c c2 => b_X10_isEnvyless_123 (hend false _ _ ?_)) (fun c c2 => hend true _ _ ?_)
      · cases r
        · rfl
        · exact absurd c (by decide)
      · cases b
        · exact absurd rfl c2
        · simp
      · cases r
        · exact absurd rfl c
        · cases b
          · rfl
          · exact absurd c2 (by decide)
    have hbad : ∀ p : Bool, (p = true ↔ (hasB (M 1 4) a = true ∧ hasB (M 1 4) x = true ∧ M 2 a ≤ M 2 x)) → badP M (M1 116) a x = (p && decide (evF M x (M1 116 x) < evF M a (M1 116 a))) := by
      intro p hp
      unfold badP
      have : ((hasB (M 1 4) a && hasB (M 1 4) x) && decide (M 2 a ≤ M 2 x)) = p := by
        cases p
        · by_cases g : M 2 a ≤ M 2 x
          · cases h1 : hasB (M 1 4) a
            · rfl
            · cases h2 : hasB (M 1 4) x
              · rfl
              · exact absurd (hp.2 ⟨h1, h2, g⟩) (by decide)
          · rw [decide_eq_false g, Bool.and_false]
        · obtain ⟨h1, h2, h3⟩ := hp.1 rfl
          rw [h1, h2, decide_eq_true h3]
          rfl
      rw [← Bool.and_assoc, this]
    have h59 : ∀ (p : Bool), (p = true ↔ (hasB (M 1 4) a = true ∧ hasB (M 1 4) x = true ∧ M 2 a ≤ M 2 x)) → J l z X (d + 2) mX10_isEnvyless (0, 0) 59 [jR 96, jI (bI r), jI a, jI x, jN, jN] [jI (bI p)] (jG, M1) Q := by
      intro p hp
      have hb := hbad p hp
      have ev : ∀ j : Int, 0 ≤ j → j < 6 → agF (M1 98 j) (M1 99 j) (M1 97 j) (M1 116 j) = evF M j (M1 116 j) := fun j j0 j1 => by
        have := hK j j0 j1
        rw [hf 97 (by omega), hf 98 (by omega), hf 99 (by omega), this.1.1, this.1.2.1, this.1.2.2]
        rfl
      have b97 := hf 97 (by omega)
      have b98 := hf 98 (by omega)
      refine b_X10_isEnvyless_59 (fun _ => ha.1) (fun _ => ha.2) (fun _ => ⟨ha, by rw [b97]; omega, by rw [b98]; omega⟩) (fun _ => x0) (fun _ => x1) (fun _ => ⟨⟨x0, x1⟩, by rw [b97]; omega, by rw [b98]; omega⟩) (fun c => b_X10_isEnvyless_107 (h108 false _ ?_)) (fun c c2 => b_X10_isEnvyless_107 (h108 false _ ?_)) (fun c c2 => h108 true _ ?_)
      · cases p
        · rw [hb]; rfl
        · exact absurd c (by decide)
      · rw [ev a ha.1 ha.2, ev x x0 x1] at c2
        rw [hb, decide_eq_false (by omega), Bool.and_false]
      · rw [ev a ha.1 ha.2, ev x x0 x1] at c2
        rw [hb, decide_eq_true c2]
        cases p
        · exact absurd rfl c
        · rfl
    have b97 : M1 97 = M 97 := hf 97 (by omega)
    have hz : ¬ (hasB (M 1 4) a = true ∧ hasB (M 1 4) x = true ∧ M 2 a ≤ M 2 x) → J l z X (d + 2) mX10_isEnvyless (0, 0) 58 [jR 96, jI (bI r), jI a, jI x, jN, jN] [] (jG, M1) Q := fun e => b_X10_isEnvyless_58 (h59 false ⟨fun q => absurd q (by decide), fun q => absurd q e⟩)
    refine b_X10_isEnvyless_12 (fun q => absurd q (by omega)) (fun _ _ _ _ => x0) (fun _ _ _ _ => x1) (fun _ _ _ _ => ha.1) (fun _ _ _ _ => ha.2) (fun q => absurd q (by omega)) (fun _ c => ?_) (fun _ c c1 c2 c3 => hz ?_) (fun _ c c1 c2 c3 => h59 true ?_) (fun _ c c1 c2 => hz ?_) (fun _ c c1 => hz ?_)
    · refine b_X10_isEnvyless_58 (b_X10_isEnvyless_59 (fun q => absurd rfl q) (fun q => absurd rfl q) (fun q => absurd rfl q) (fun q => absurd rfl q) (fun q => absurd rfl q) (fun q => absurd rfl q) (fun _ => b_X10_isEnvyless_107 (h108 false _ ?_)) (fun q => absurd rfl q) (fun q => absurd rfl q))
      subst c
      unfold badP
      rw [decide_eq_false (show ¬ evF M a (M1 116 a) < evF M a (M1 116 a) by omega)]
      simp
    · rw [b97] at c3
      omega
    · rw [e96] at c1 c2
      rw [b97] at c3
      exact ⟨fun _ => ⟨c1, c2, by omega⟩, fun _ => rfl⟩
    · rw [e96] at c2
      rw [c2]
      exact fun q => absurd q.2.1 (by decide)
    · rw [e96] at c1
      rw [c1]
      exact fun q => absurd q.1 (by decide)
theorem c_X10_isEnvyless_4 {M1 : Nat → Int → Int} (hI : Inv M) (hf : ∀ c, c ≠ 116 → M1 c = M c) : ∀ (n : Nat) (x : Int) (r : Bool), x = 6 - (n : Int) → 0 ≤ x → Q (some (jI (bI (r && eA M (M1 116) n)))) (jG, M1) → J l z X (d + 2) mX10_isEnvyless (0, 0) 4 [jR 96, jI (bI r), jI x, jN, jN, jN] [] (jG, M1) Q := by
  intro n
  induction n with
  | zero =>
    intro x r hx x0 kk
    unfold eA at kk
    rw [Bool.and_true] at kk
    exact b_X10_isEnvyless_4 (fun _ => by unfold bI; cases r <;> simp) (fun _ => kk) (fun q => absurd q (by omega))
  | succ n ih =>
    intro x r hx x0 kk
    unfold eA at kk
    rw [← hx, ← Bool.and_assoc] at kk
    exact b_X10_isEnvyless_4 (fun q => absurd q (by omega)) (fun q => absurd q (by omega)) (fun _ => c_X10_isEnvyless_12 hI hf ⟨x0, by omega⟩ 6 0 r (by omega) (by omega) (ih _ _ (by omega) (by omega) kk))
theorem c_X10_shareOf_14 (hI : Inv M) {c num0 : Int} : ∀ (m : Nat) (k num sum dg pw : Int) (M1 : Nat → Int → Int), m ≤ 6 → k = (m : Int) - 1 → 0 ≤ num → (0 ≤ sum ∧ sum ≤ 2 * (6 - (m : Int))) → pw = dB m → (0 ≤ dg ∧ dg < 4 * pw) → (∀ c, c ≠ 116 → M1 c = M c) → (∀ M2, (∀ c, c ≠ 116 → M2 c = M c) → Q (some (jI (shR M c m num sum dg pw (M1 116)))) (jG, M2)) → J l z X (d + 3) mX10_shareOf (0, 0) 14 [jR 96, jI num0, jI c, jI num, jI sum, jI dg, jI pw, jI k] [] (jG, M1) Q := by
  have q1 := hI.1.1.1
  intro m
  induction m with
  | zero =>
    intro k num sum dg pw M1 _ hk h0 hs hp hd hf hq
    unfold shR at hq
    refine b_X10_shareOf_14 (fun q => absurd q (by omega)) (fun q => absurd q (by omega)) (fun q => absurd q (by omega)) (fun q => absurd q (by omega)) (fun q => absurd q (by omega)) (fun _ g => ?_) (fun _ g => ?_) (fun q => absurd q (by omega)) (fun q => absurd q (by omega)) (fun q => absurd q (by omega))
    · rw [if_neg g] at hq
      exact hq M1 hf
    · rw [if_pos g] at hq
      refine b_X10_isEnvyless_0 (c_X10_isEnvyless_4 hI hf 6 0 true (by omega) (by omega) ?_)
      rw [Bool.true_and]
      refine b_X10_shareOf_118 (fun g2 => ?_) (fun g2 => ?_)
      · rw [if_neg] at hq
        · exact hq M1 hf
        · intro q
          rw [q] at g2
          exact absurd g2 (by decide)
      · rw [if_pos] at hq
        · exact hq M1 hf
        · revert g2
          cases eA M (M1 116) 6
          · intro q; exact absurd rfl q
          · intro _; rfl
  | succ m ih =>
    intro k num sum dg pw M1 hm hk h0 hs hp hd hf hq
    have ek : k = (m : Int) := by omega
    subst ek
    have hpw : pw * 10 = dB m ∧ 1 ≤ pw ∧ pw ≤ 100000 := by
      have : m = 0 ∨ m = 1 ∨ m = 2 ∨ m = 3 ∨ m = 4 ∨ m = 5 := by omega
      rcases this with e | e | e | e | e | e <;> subst e <;> simp [dB] at hp ⊢ <;> omega
    unfold shR at hq
    have e96 : jupd M1 116 (m : Int) (num % 3) 96 0 = M 1 4 := by rw [jupd_c, if_neg (by omega), hf 96 (by omega)]; exact q1
    have e116 : jupd M1 116 (m : Int) (num % 3) 116 (m : Int) = num % 3 := jupd_s _ _ _ _
    have es : jupd M1 116 (m : Int) (num % 3) 116 = setS (M1 116) m (num % 3) := by
      funext j
      simp [jupd, setS]
    have f2 : ∀ c, c ≠ 116 → jupd M1 116 (m : Int) (num % 3) c = M c := fun c hcc => by rw [jupd_c, if_neg hcc]; exact hf c hcc
    have h3 : 0 ≤ num % 3 ∧ num % 3 ≤ 2 := by omega
    have h55 : ¬ (hasB (M 1 4) m = false ∧ 0 < num % 3) → J l z X (d + 3) mX10_shareOf (0, 0) 55 [jR 96, jI num0, jI c, jI (num / 3), jI sum, jI dg, jI pw, jI (m : Int)] [] (jG, jupd M1 116 (m : Int) (num % 3)) Q := by
      intro hne
      rw [if_neg hne, ← es] at hq
      have h91 : ∀ v : Int, v = (if hasB (M 1 4) m = true then num % 3 else 3) → J l z X (d + 3) mX10_shareOf (0, 0) 91 [jR 96, jI num0, jI c, jI (num / 3), jI (sum + num % 3), jI dg, jI pw, jI (m : Int)] [jI v, jI pw, jI dg] (jG, jupd M1 116 (m : Int) (num % 3)) Q := by
        intro v hv
        rw [← hv] at hq
        have hv3 : 0 ≤ v ∧ v ≤ 3 := by rw [hv]; split <;> omega
        have m1 : 0 ≤ pw * v := Int.mul_nonneg (by omega) hv3.1
        have m2 : pw * v ≤ pw * 3 := Int.mul_le_mul_of_nonneg_left hv3.2 (by omega)
        exact b_X10_shareOf_91 (jInd (by omega)) (jInd (by omega)) (jInd (by omega)) (jInd (by omega)) (ih _ _ _ _ _ _ (by omega) (by omega) (by omega) (by omega) hpw.1 (by omega) f2 hq)
      refine b_X10_shareOf_55 (by omega) (by omega) (jInd (by rw [e116]; omega)) (fun _ => by omega) (fun _ => by omega) (fun g => ?_) (fun g => ?_)
      · rw [e96] at g
        rw [e116]
        exact h91 _ (by rw [if_pos g])
      · rw [e96] at g
        rw [e116]
        exact h91 _ (by rw [if_neg (by rw [g]; decide)])
    refine b_X10_shareOf_14 (fun _ => h0) (fun _ => by omega) (fun _ => by omega) (fun _ _ => by omega) (fun _ _ => by omega) (fun q => absurd q (by omega)) (fun q => absurd q (by omega)) (fun _ g => h55 ?_) (fun _ g g2 => h55 ?_) (fun _ g g2 => ?_)
    · rw [e96] at g
      rw [g]
      exact fun q => absurd q.1 (by decide)
    · rw [e116] at g2
      omega
    · rw [e96] at g
      rw [e116] at g2
      rw [if_pos ⟨g, g2⟩] at hq
      exact hq _ f2
end MENVY
