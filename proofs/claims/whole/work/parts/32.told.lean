section SIMPLE3
variable {l : Launch} {z : Nat} {X : jX}
theorem pr_told (a : Int) (ha : jIn a) : Pair l z X mX9_told mX10_told [jR 0, jI a] [jR 96, jI a] := by
  intro M hI
  obtain ⟨h1, h2, h3, h4, h5⟩ := id hI
  obtain ⟨⟨q1, q2, q3, q4⟩, hr, hk⟩ := id h1
  have ha1 := ha.1
  have ha2 := ha.2
  have hq : ∀ k, hasB (M 96 0) k = hasB (M 1 4) k := fun k => by rw [q1]
  -- the reference's answer for a ONE's field
  have hone : ∀ (w : Int), 10 ≤ a → (hasB (M 1 4) (a / 10 - 1) = false → w = -2) → (hasB (M 1 4) (a / 10 - 1) = true → (a % 10 = 0 → w = M 2 (a / 10 - 1)) ∧ (a % 10 = 1 → w = M 3 (a / 10 - 1)) ∧ (a % 10 = 2 → w = M 4 (a / 10 - 1)) ∧ (a % 10 = 3 → w = M 5 (a / 10 - 1)) ∧ (3 < a % 10 → w = -2)) →
      J l z X 20 mX10_told (0, 0) 0 [jR 96, jI a] [] (jG, M) (fun r' μ' => r' = some (jI w) ∧ ∃ M'' : Nat → Int → Int, μ' = (jG, M'') ∧ Inv M'') := by
    intro w w0 w1 w2
    by_cases hb : a ≤ 69
    · refine b_X10_told_0 (fun _ => by omega) (fun _ => jInd (by omega)) (fun _ => ?_) (fun q => absurd (And.intro w0 hb) q) (fun q => absurd (And.intro w0 hb) q) (fun q => absurd (And.intro w0 hb) q) (fun q => absurd (And.intro w0 hb) q) (fun q => absurd (And.intro w0 hb) q) (fun q => absurd (And.intro w0 hb) q) (fun q => absurd (And.intro w0 hb) q)
      generalize hx1 : a / 10 - 1 = x1 at w1 w2
      generalize hx2 : a % 10 = x2 at w2
      have hx3 : 0 ≤ x2 ∧ x2 ≤ 9 := by omega
      refine b_X10_toldOf_0 (fun c _ _ _ _ => (hasB_in c).1) (fun c _ _ _ _ => (hasB_in c).2) (fun c _ _ _ => (hasB_in c).1) (fun c _ _ _ => (hasB_in c).2) (fun c _ _ => (hasB_in c).1) (fun c _ _ => (hasB_in c).2) (fun c _ => (hasB_in c).1) (fun c _ => (hasB_in c).2) (fun c _ _ _ _ => ?_) (fun c _ _ _ _ => ?_) (fun c _ _ _ => ?_) (fun c _ _ => ?_) (fun c _ => ?_) (fun c => ?_)
      all_goals refine b_X10_told_28 ⟨?_, _, rfl, hI⟩
      · rw [hq] at c
        rw [(w2 c).2.2.2.2 (by omega)]
      · rw [hq] at c
        rw [(w2 c).2.2.2.1 (by omega), ((hk _ (hasB_in c).1 (hasB_in c).2).2.1 c).1]
      · rw [hq] at c
        rw [(w2 c).2.2.1 (by omega), (hk _ (hasB_in c).1 (hasB_in c).2).1.2.2]
      · rw [hq] at c
        rw [(w2 c).2.1 (by omega), (hk _ (hasB_in c).1 (hasB_in c).2).1.2.1]
      · rw [hq] at c
        rw [(w2 c).1 (by omega), (hk _ (hasB_in c).1 (hasB_in c).2).1.1]
      · rw [hq] at c
        rw [w1 c]
    · have hw : w = -2 := w1 (hasB_o (Or.inr (by omega)))
      subst hw
      exact b_X10_told_0 (fun q => absurd q.2 hb) (fun q => absurd q.2 hb) (fun q => absurd q.2 hb) (fun _ _ => ⟨rfl, _, rfl, hI⟩) (fun _ q => absurd q (by omega)) (fun _ q => absurd q (by omega)) (fun _ q => absurd q (by omega)) (fun _ q => absurd q (by omega)) (fun _ q => absurd q (by omega)) (fun _ q => absurd q (by omega))
  have hlow : ∀ w : Int, a < 10 → ((a < 0 ∨ 5 < a) → w = -2) → (a = 0 → w = M 6 4) → (a = 1 → w = M 1 4) → (a = 2 → w = M 1 5) → (a = 3 → w = M 1 6) → (a = 4 → w = M 1 7) → (a = 5 → w = M 68 2) → J l z X 20 mX10_told (0, 0) 0 [jR 96, jI a] [] (jG, M) (fun r' μ' => r' = some (jI w) ∧ ∃ M'' : Nat → Int → Int, μ' = (jG, M'') ∧ Inv M'') := by
    intro w w0 w1 w2 w3 w4 w5 w6 w7
    refine b_X10_told_0 (fun q => absurd q (by omega)) (fun q => absurd q (by omega)) (fun q => absurd q (by omega)) (fun _ c => ⟨by rw [w1 c], _, rfl, hI⟩) (fun _ c => ⟨by rw [w2 c, h3.1], _, rfl, hI⟩) (fun _ c => ⟨by rw [w3 c, q1], _, rfl, hI⟩) (fun _ c => ⟨by rw [w4 c, q2], _, rfl, hI⟩) (fun _ c => ⟨by rw [w5 c, q3], _, rfl, hI⟩) (fun _ c => ⟨by rw [w6 c, q4], _, rfl, hI⟩) (fun _ c => ⟨by rw [w7 c, h2.1], _, rfl, hI⟩)
  refine b_X9_told_0 (fun _ _ => by omega) (fun _ _ => jInd (by omega)) (fun c1 c2 => ?_) (fun c1 c2 => b_X9_told_113 ⟨_, _, rfl, rfl, hlow _ c2 (fun _ => rfl) (fun q => absurd q (by omega)) (fun q => absurd q (by omega)) (fun q => absurd q (by omega)) (fun q => absurd q (by omega)) (fun q => absurd q (by omega)) (fun q => absurd q (by omega))⟩) (fun c => ?_) (fun c => ?_) (fun c => ?_) (fun c => ?_) (fun c => ?_) (fun c => ?_)
  · refine b_X9_toldOf_0 (fun c _ => (hasB_in c).1) (fun c _ => (hasB_in c).2) (fun c _ => (hasB_in c).1) (fun c _ => (hasB_in c).2) (fun c _ => (hasB_in c).1) (fun c _ => (hasB_in c).2) (fun c _ => (hasB_in c).1) (fun c _ => (hasB_in c).2) (fun c g => ?_) (fun c g => ?_) (fun c g => ?_) (fun c g => ?_) (fun c g => ?_) (fun c => ?_)
    all_goals refine b_X9_told_113 ⟨_, _, rfl, rfl, ?_⟩
    · exact hone _ c2 (fun _ => rfl) (fun _ => ⟨fun _ => absurd g (by omega), fun _ => absurd g (by omega), fun _ => absurd g (by omega), fun _ => absurd g (by omega), fun _ => rfl⟩)
    · exact hone _ c2 (fun q => absurd (c.symm.trans q) (by decide)) (fun _ => ⟨fun _ => rfl, fun _ => absurd g (by omega), fun _ => absurd g (by omega), fun _ => absurd g (by omega), fun _ => absurd g (by omega)⟩)
    · exact hone _ c2 (fun q => absurd (c.symm.trans q) (by decide)) (fun _ => ⟨fun _ => absurd g (by omega), fun _ => rfl, fun _ => absurd g (by omega), fun _ => absurd g (by omega), fun _ => absurd g (by omega)⟩)
    · exact hone _ c2 (fun q => absurd (c.symm.trans q) (by decide)) (fun _ => ⟨fun _ => absurd g (by omega), fun _ => absurd g (by omega), fun _ => rfl, fun _ => absurd g (by omega), fun _ => absurd g (by omega)⟩)
    · exact hone _ c2 (fun q => absurd (c.symm.trans q) (by decide)) (fun _ => ⟨fun _ => absurd g (by omega), fun _ => absurd g (by omega), fun _ => absurd g (by omega), fun _ => rfl, fun _ => absurd g (by omega)⟩)
    · exact hone _ c2 (fun _ => rfl) (fun q => absurd (c.symm.trans q) (by decide))
  all_goals (refine ⟨_, _, rfl, rfl, ?_⟩; refine hlow _ (by omega) (fun _ => ?_) (fun _ => ?_) (fun _ => ?_) (fun _ => ?_) (fun _ => ?_) (fun _ => ?_) (fun _ => ?_) <;> first | rfl | (exfalso; omega))
/-- the sum over the places 6 - n .. 5 -/
def tailS (f : Int → Int) : Nat → Int
  | 0 => 0
  | n + 1 => f (6 - ((n + 1 : Nat) : Int)) + tailS f n
theorem tailS_eq {f g : Int → Int} (h : ∀ k, 0 ≤ k → k < 6 → f k = g k) : ∀ n : Nat, n ≤ 6 → tailS f n = tailS g n
  | 0, _ => rfl
  | n + 1, hn => by
    unfold tailS
    rw [h _ (by omega) (by omega), tailS_eq h n (by omega)]
theorem tailS_bd {f : Int → Int} {c : Int} (h : ∀ k, 0 ≤ k → k < 6 → -c ≤ f k ∧ f k ≤ c) : ∀ n : Nat, n ≤ 6 → -(c * n) ≤ tailS f n ∧ tailS f n ≤ c * n
  | 0, _ => by simp [tailS]
  | n + 1, hn => by
    have h1 := tailS_bd h n (by omega)
    have h2 := h (6 - ((n + 1 : Nat) : Int)) (by omega) (by omega)
    unfold tailS
    have e : c * ((n + 1 : Nat) : Int) = c * n + c := by rw [Int.natCast_add, Int.mul_add]; simp
    rw [e]
    omega
/-- by how much older one looks behind m mornings without her -/
def refF (h : Bool) (a p y m : Int) : Int := if h = true then min 99 (a + m * p) - max y (a - m * p) else 0
theorem refF_bd {h : Bool} {a p y m : Int} (ha : 0 ≤ a ∧ a ≤ 99) (hp : 0 ≤ p ∧ p ≤ 9) (hy : 0 ≤ y ∧ y ≤ a) (hm : 0 ≤ m ∧ m ≤ 60) : (0 ≤ m * p ∧ m * p ≤ 540) ∧ -1000 ≤ refF h a p y m ∧ refF h a p y m ≤ 1000 := by
  have h1 : 0 ≤ m * p := Int.mul_nonneg hm.1 hp.1
  have h2 : m * p ≤ 60 * 9 := Int.mul_le_mul hm.2 hp.2 hp.1 (by omega)
  refine ⟨⟨h1, by omega⟩, ?_⟩
  unfold refF
  by_cases e : h = true
  · rw [if_pos e]; omega
  · rw [if_neg e]; omega
theorem pr_refuses (m : Int) : Pair l z X mX9_refuses mX10_refuses [jR 0, jI m, jN, jN, jN, jN, jN] [jR 96, jI m, jN, jN, jN, jN] := by
  intro M hI
  obtain ⟨h1, h2, h3, h4, h5⟩ := id hI
  obtain ⟨⟨q1, q2, q3, q4⟩, hr, hk⟩ := id h1
  let f : Int → Int := fun k => refF (hasB (M 1 4) k) (M 2 k) (M 3 k) (M 4 k) m
  have hfd : ∀ k, f k = refF (hasB (M 1 4) k) (M 2 k) (M 3 k) (M 4 k) m := fun _ => rfl
  have hb : (0 ≤ m ∧ m ≤ 60) → ∀ k, 0 ≤ k → k < 6 → (0 ≤ m * M 3 k ∧ m * M 3 k ≤ 540) ∧ -1000 ≤ f k ∧ f k ≤ 1000 := fun hm k k0 k1 => by
    have := hk k k0 k1
    exact refF_bd (by omega) (by omega) (by omega) hm
  clear_value f
  -- the class
  have hc : ∀ (Q : Option jV → jM → Prop), (0 ≤ m ∧ m ≤ 60) → ∀ (n : Nat) (acc : Int), n ≤ 6 → -6000 ≤ acc → acc ≤ 6000 → -(1000 * (6 - (n : Int))) ≤ acc → acc ≤ 1000 * (6 - (n : Int)) → Q (some (jI (acc + tailS f n))) (jG, M) → J l z X 20 mX9_refuses (0, 0) 17 [jR 0, jI m, jI acc, jI (6 - (n : Int)), jN, jN, jN] [] (jG, M) Q := by
    intro Q hm n
    induction n with
    | zero =>
      intro acc _ _ _ _ _ k
      refine b_X9_refuses_17 (fun q => absurd q (by omega)) (fun q => absurd q (by omega)) (fun q => absurd q (by omega)) (fun q => absurd q (by omega)) (fun q => absurd q (by omega)) (fun q => absurd q (by omega)) (fun q => absurd q (by omega)) (fun _ => ?_) (fun q => absurd q (by omega)) (fun q => absurd q (by omega))
      simpa [tailS] using k
    | succ n ih =>
      intro acc hn ha1 ha2 ha3 ha4 k
      have hx0 : 0 ≤ 6 - ((n + 1 : Nat) : Int) := by omega
      have hx1 : 6 - ((n + 1 : Nat) : Int) < 6 := by omega
      have hstep : (6 - ((n + 1 : Nat) : Int)) + 1 = 6 - (n : Int) := by omega
      have hkk := hk _ hx0 hx1
      have hbb := hb hm _ hx0 hx1
      have hff := hfd (6 - ((n + 1 : Nat) : Int))
      have ktail : tailS f (n + 1) = f (6 - ((n + 1 : Nat) : Int)) + tailS f n := rfl
      rw [ktail] at k
      generalize 6 - ((n + 1 : Nat) : Int) = x at hx0 hx1 hstep hkk hbb hff k ⊢
      have hrec : ∀ acc', acc' = acc + f x → J l z X 20 mX9_refuses (0, 0) 17 [jR 0, jI m, jI acc', jI (x + 1), jN, jN, jN] [] (jG, M) Q := by
        intro acc' e9
        rw [hstep]
        refine ih acc' (by omega) (by omega) (by omega) (by omega) (by omega) ?_
        rw [e9, Int.add_assoc]
        exact k
      refine b_X9_refuses_17 (fun _ _ => hx0) (fun _ _ => hx1) (fun _ _ => jInd (by omega)) (fun _ _ => jInd (by omega)) (fun _ _ => jInd (by omega)) (fun _ _ => jInd (by omega)) (fun _ c => jInd ?_) (fun q => absurd q (by omega)) (fun _ c => ?_) (fun _ c => ?_)
      · rw [c, refF, if_pos rfl] at hff
        omega
      · refine b_X9_refuses_100 (jInd (by omega)) (hrec _ ?_)
        rw [hff, c, refF, if_pos rfl]
      · refine b_X9_refuses_100 (jInd (by omega)) (hrec _ ?_)
        rw [hff, c, refF, if_neg (by decide), Int.add_zero]
  -- the reference
  have hmd : ∀ (Q : Option jV → jM → Prop), (0 ≤ m ∧ m ≤ 60) → ∀ (n : Nat) (acc : Int) (u v : jV), n ≤ 6 → -(1000 * (6 - (n : Int))) ≤ acc → acc ≤ 1000 * (6 - (n : Int)) → Q (some (jI (acc + tailS f n))) (jG, M) → J l z X 20 mX10_refuses (0, 0) 19 [jR 96, jI m, jI acc, jI (6 - (n : Int)), u, v] [] (jG, M) Q := by
    intro Q hm n
    induction n with
    | zero =>
      intro acc u v _ _ _ k
      refine J_weak [jR 96, jI m, jI acc, jI (6 - ((0 : Nat) : Int)), jN, jN] ⟨Or.inr rfl, Or.inr rfl, Or.inr rfl, Or.inr rfl, Or.inl rfl, Or.inl rfl, trivial⟩ ?_
      refine b_X10_refuses_19 (fun q => absurd q (by omega)) (fun q => absurd q (by omega)) (fun q => absurd q (by omega)) (fun q => absurd q (by omega)) (fun q => absurd q (by omega)) (fun q => absurd q (by omega)) (fun q => absurd q (by omega)) (fun q => absurd q (by omega)) (fun _ => ?_) (fun q => absurd q (by omega)) (fun q => absurd q (by omega))
      simpa [tailS] using k
    | succ n ih =>
      intro acc u v hn ha3 ha4 k
      have hx0 : 0 ≤ 6 - ((n + 1 : Nat) : Int) := by omega
      have hx1 : 6 - ((n + 1 : Nat) : Int) < 6 := by omega
      have hstep : (6 - ((n + 1 : Nat) : Int)) + 1 = 6 - (n : Int) := by omega
      have hkk := hk _ hx0 hx1
      have hbb := hb hm _ hx0 hx1
      have hff := hfd (6 - ((n + 1 : Nat) : Int))
      have ktail : tailS f (n + 1) = f (6 - ((n + 1 : Nat) : Int)) + tailS f n := rfl
      rw [ktail] at k
      generalize 6 - ((n + 1 : Nat) : Int) = x at hx0 hx1 hstep hkk hbb hff k ⊢
      refine J_weak [jR 96, jI m, jI acc, jI x, jN, jN] ⟨Or.inr rfl, Or.inr rfl, Or.inr rfl, Or.inr rfl, Or.inl rfl, Or.inl rfl, trivial⟩ ?_
      have e97 : M 97 x = M 2 x := hkk.1.1
      have e98 : M 98 x = M 3 x := hkk.1.2.1
      have e99 : M 99 x = M 4 x := hkk.1.2.2
      have hrec : ∀ (acc' : Int) (u v : jV), acc' = acc + f x → J l z X 20 mX10_refuses (0, 0) 19 [jR 96, jI m, jI acc', jI (x + 1), u, v] [] (jG, M) Q := by
        intro acc' u v e9
        rw [hstep]
        refine ih acc' u v (by omega) (by omega) (by omega) ?_
        rw [e9, Int.add_assoc]
        exact k
      have h115 : ∀ more less : Int, more = min 99 (M 2 x + m * M 3 x) → less = max (M 4 x) (M 2 x - m * M 3 x) → J l z X 20 mX10_refuses (0, 0) 115 [jR 96, jI m, jI acc, jI x, jI more, jN] [jI less] (jG, M) Q := by
        intro more less e1 e2
        refine b_X10_refuses_115 (fun _ => jInd (by omega)) (fun c => ?_) (fun c => ?_)
        · rw [q1] at c
          rw [c, refF, if_pos rfl] at hff
          exact b_X10_refuses_135 (jInd (by omega)) (jInd (by omega)) (hrec _ _ _ (by omega))
        · rw [q1] at c
          rw [c, refF, if_neg (by decide)] at hff
          exact b_X10_refuses_135 (jInd (by omega)) (jInd (by omega)) (hrec _ _ _ (by omega))
      have h65 : ∀ more : Int, more = min 99 (M 2 x + m * M 3 x) → J l z X 20 mX10_refuses (0, 0) 65 [jR 96, jI m, jI acc, jI x, jN, jN] [jI more] (jG, M) Q := by
        intro more e1
        refine b_X10_refuses_65 hx0 hx1 ?_ ?_ (fun _ => hx0) (fun _ => hx1) (fun _ => hx0) (fun _ => hx1) (fun _ => ?_) (fun _ => ?_) (fun c => h115 _ _ e1 ?_) (fun c => h115 _ _ e1 ?_)
        all_goals first
          | (rw [e97, e98, e99] at c; rw [e99]; omega)
          | (rw [e97, e98, e99] at c; rw [e97, e98]; omega)
          | (rw [e97, e98]; exact jInd (by omega))
          | (rw [e98]; exact jInd (by omega))
      refine b_X10_refuses_19 (fun _ => hx0) (fun _ => hx1) (fun _ => ?_) (fun _ => ?_) (fun _ _ => hx0) (fun _ _ => hx1) (fun _ _ => ?_) (fun _ _ => ?_) (fun q => absurd q (by omega)) (fun _ c => h65 _ ?_) (fun _ c => h65 _ ?_)
      all_goals first
        | (rw [e97, e98] at c; omega)
        | (rw [e97, e98] at c; rw [e97, e98]; omega)
        | (rw [e97, e98]; exact jInd (by omega))
        | (rw [e98]; exact jInd (by omega))
  refine b_X9_refuses_0 (fun c => ?_) (fun c => ⟨_, _, rfl, rfl, ?_⟩)
  · refine hc _ c 6 0 (by omega) (by omega) (by omega) (by omega) (by omega) ⟨_, _, rfl, rfl, ?_⟩
    refine b_X10_refuses_0 (fun _ => ?_) (fun q => absurd c q)
    exact hmd _ c 6 0 jN jN (by omega) (by omega) (by omega) ⟨rfl, _, rfl, hI⟩
  · exact b_X10_refuses_0 (fun q => absurd q c) (fun _ => ⟨rfl, _, rfl, hI⟩)
end SIMPLE3
