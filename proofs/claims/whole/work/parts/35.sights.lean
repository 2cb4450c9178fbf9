/-! ## gave and ask -/
def lkB (lk pc yo : Int → Int) (j k : Int) : Int := agF (pc k) (yo k) (lk k) (if j = k then 1 else 2)
def fitR (f : Int → Bool) (n : Int) : Nat → Bool
  | 0 => true
  | m + 1 => f (n - ((m + 1 : Nat) : Int)) && fitR f n m
theorem fitR_eq {f g : Int → Bool} {n : Int} (h : ∀ i, 0 ≤ i → i < n → f i = g i) : ∀ m : Nat, (m : Int) ≤ n → fitR f n m = fitR g n m
  | 0, _ => rfl
  | m + 1, hm => by
    unfold fitR
    rw [h _ (by omega) (by omega), fitR_eq h m (by omega)]
def sgF (M : Nat → Int → Int) (j i : Int) : Bool := hasB (M 1 4) (M 69 i) && decide (lkB (M 2) (M 3) (M 4) j (M 69 i) = M 70 i)
def fitsF (M : Nat → Int → Int) (j : Int) : Bool := fitR (sgF M j) (M 68 2) (M 68 2).toNat
def bI (b : Bool) : Int := if b = true then 1 else 0
def givG (M : Nat → Int → Int) (k : Int) : Bool := (decide (k = 6) || hasB (M 1 4) k) && fitsF M k
def givR (g : Int → Bool) : Nat → Int → Int
  | 0, acc => acc
  | m + 1, acc => givR g m (if g (7 - ((m + 1 : Nat) : Int)) = true then jor acc (jshl 1 (7 - ((m + 1 : Nat) : Int))) else acc)
theorem bit_or {t k : Int} (h0 : 0 ≤ t ∧ t < 128) (h1 : 0 ≤ k ∧ k < 7) : (0 ≤ jor t (jshl 1 k) ∧ jor t (jshl 1 k) < 128) ∧ jor t 0 = t := by
  have hall : ∀ (n : Fin 128) (m : Fin 7), (0 ≤ jor ((n : Nat) : Int) (jshl 1 ((m : Nat) : Int)) ∧ jor ((n : Nat) : Int) (jshl 1 ((m : Nat) : Int)) < 128) ∧ jor ((n : Nat) : Int) 0 = ((n : Nat) : Int) := by decide +kernel
  obtain ⟨n, rfl⟩ := jfin (n := 128) h0.1 h0.2
  obtain ⟨m, rfl⟩ := jfin (n := 7) h1.1 h1.2
  exact hall n m
theorem givR_bd (g : Int → Bool) : ∀ (n : Nat) (acc : Int), n ≤ 7 → 0 ≤ acc ∧ acc < 128 → 0 ≤ givR g n acc ∧ givR g n acc < 128
  | 0, _, _, h => h
  | n + 1, acc, hn, h => by
    unfold givR
    refine givR_bd g n _ (by omega) ?_
    by_cases e : g (7 - ((n + 1 : Nat) : Int)) = true
    · rw [if_pos e]; exact (bit_or h (by omega)).1
    · rw [if_neg e]; exact h
section SIGHTS
variable {l : Launch} {z d : Nat} {X : jX} {M : Nat → Int → Int} {Q : Option jV → jM → Prop}
theorem c_X6_fits_2 (hI : Inv M) (j : Int) : ∀ (m : Nat) (x : Int), x = M 68 2 - m → 0 ≤ x → Q (some (jI (bI (fitR (sgF M j) (M 68 2) m)))) (jG, M) → J l z X (d + 3) mX6_fits (0, 0) 2 [jR 68, jR 1, jI j, jI x] [] (jG, M) Q := by
  obtain ⟨⟨_, hr, hk⟩, h2, _⟩ := id hI
  obtain ⟨_, n0, n1, hs⟩ := id h2
  intro m
  induction m with
  | zero =>
    intro x hx x0 k
    refine b_X6_fits_2 si_68 (fun q => absurd q (by omega)) (fun q => absurd q (by omega)) (fun q => absurd q (by omega)) (fun q => absurd q (by omega)) (fun _ => k) (fun q => absurd q (by omega)) (fun q => absurd q (by omega)) (fun q => absurd q (by omega))
  | succ m ih =>
    intro x hx x0 k
    have hsx := hs x x0 (by omega)
    unfold fitR at k
    rw [← hx] at k
    refine b_X6_fits_2 si_68 (fun _ _ => x0) (fun _ q => q) (fun _ _ _ => x0) (fun _ q _ => q) (fun q => absurd q (by omega)) (fun _ q => absurd q (by omega)) (fun c1 c2 c3 => ?_) (fun c1 c2 c3 => ?_)
    · have hkk := hk _ (hasB_in c3).1 (hasB_in c3).2
      have hend : ∀ t : Int, t = lkB (M 2) (M 3) (M 4) j (M 69 x) → J l z X (d + 3) mX6_fits (0, 0) 40 [jR 68, jR 1, jI j, jI x] [jI t] (jG, M) Q := by
        intro t ht
        refine b_X6_fits_40 si_68 x0 c2 (fun _ => jInd (by omega)) (fun c => ?_) (fun c => ?_)
        · refine ih _ (by omega) (by omega) ?_
          have e : sgF M j x = true := by
            unfold sgF
            rw [c3, ← ht]
            exact decide_eq_true c
          rw [e, Bool.true_and] at k
          exact k
        · have e : sgF M j x = false := by
            unfold sgF
            rw [c3, ← ht]
            exact decide_eq_false c
          rw [e, Bool.false_and] at k
          exact k
      refine b_X6_looksBehind_0 (fun _ => (hasB_in c3).1) (fun _ => (hasB_in c3).2) (fun _ c => ?_) (fun _ c => ?_) (fun q => absurd (c3.symm.trans q) (by decide))
      all_goals
        refine b_X6_looksBehind_26 (fun _ => by omega) (hend _ ?_)
        unfold lkB agH agF
        rw [if_pos c3]
        try rw [if_pos c]
        try rw [if_neg c]
        simp
        try omega
    · have e : sgF M j x = false := by
        unfold sgF
        rw [show hasB (M 1 4) (M 69 x) = false from c3, Bool.false_and]
      rw [e, Bool.false_and] at k
      exact k
theorem c_X6_fits (hI : Inv M) (j : Int) (k : Q (some (jI (bI (fitsF M j)))) (jG, M)) : J l z X (d + 3) mX6_fits (0, 0) 0 [jR 68, jR 1, jI j, jN] [] (jG, M) Q := by
  have n0 := hI.2.1.2.1
  exact b_X6_fits_0 si_68 (c_X6_fits_2 hI j (M 68 2).toNat 0 (by omega) (by omega) k)
theorem c_X6_givers_4 (hI : Inv M) : ∀ (m : Nat) (x acc : Int), x = 7 - (m : Int) → 0 ≤ x → Q (some (jI (givR (givG M) m acc))) (jG, M) → J l z X (d + 4) mX6_givers (0, 0) 4 [jR 68, jR 1, jI acc, jI x] [] (jG, M) Q := by
  intro m
  induction m with
  | zero =>
    intro x acc hx x0 k
    exact b_X6_givers_4 si_68 (fun _ => k) (fun q => absurd q (by omega)) (fun q => absurd q (by omega)) (fun q => absurd q (by omega))
  | succ m ih =>
    intro x acc hx x0 k
    unfold givR at k
    rw [← hx] at k
    have hno : givG M x = false → J l z X (d + 4) mX6_givers (0, 0) 39 [jR 68, jR 1, jI acc, jI x] [] (jG, M) Q := fun e => by
      rw [e] at k
      exact b_X6_givers_39 si_68 (jInd (by omega)) (ih _ _ (by omega) (by omega) k)
    have hgo : (decide (x = 6) || hasB (M 1 4) x) = true → J l z X (d + 4) mX6_givers (0, 0) 24 [jR 68, jR 1, jI acc, jI x] [] (jG, M) Q := fun e => by
      refine b_X6_givers_24 si_68 (c_X6_fits hI x ?_)
      refine b_X6_givers_30 si_68 (fun c => hno ?_) (fun c => ?_)
      · unfold givG
        rw [e, Bool.true_and]
        revert c
        unfold bI
        cases fitsF M x
        · intro _; rfl
        · intro q; exact absurd q (by decide)
      · have e2 : givG M x = true := by
          unfold givG
          rw [e, Bool.true_and]
          revert c
          unfold bI
          cases fitsF M x
          · intro q; exact absurd rfl q
          · intro _; rfl
        rw [e2] at k
        exact b_X6_givers_39 si_68 (jInd (by omega)) (ih _ _ (by omega) (by omega) k)
    refine b_X6_givers_4 si_68 (fun q => absurd q (by omega)) (fun _ c => hgo ?_) (fun _ c q => hgo ?_) (fun _ c q => hno ?_)
    · simp [c]
    · simp [q]
    · unfold givG
      simp [c, q]
theorem c_X6_givers (hI : Inv M) (k : Q (some (jI (givR (givG M) 7 0))) (jG, M)) : J l z X (d + 4) mX6_givers (0, 0) 0 [jR 68, jR 1, jN, jN] [] (jG, M) Q :=
  b_X6_givers_0 si_68 (c_X6_givers_4 hI 7 0 0 rfl (by omega) k)
/-- the reference's -/
theorem c_X10_lookedBy (hI : Inv M) {j o : Int} (ho : 0 ≤ o ∧ o < 6) (k : Q (some (jI (lkB (M 2) (M 3) (M 4) j o))) (jG, M)) : J l z X (d + 1) mX10_lookedBy (0, 0) 0 [jR 96, jI j, jI o] [] (jG, M) Q := by
  obtain ⟨⟨_, hr, hk⟩, _⟩ := id hI
  have hkk := hk o ho.1 ho.2
  refine b_X10_lookedBy_0 ho.1 ho.2 (fun c => ?_) (fun c => ?_)
  all_goals
    refine b_X10_lookedBy_18 ⟨ho, by omega, by omega⟩ ?_
    rw [hkk.1.1, hkk.1.2.1, hkk.1.2.2]
    unfold lkB at k
    try rw [if_pos c] at k
    try rw [if_neg c] at k
    exact k
theorem c_X10_fits_22 (hI : Inv M) (j : Int) : ∀ (m : Nat) (x : Int) (b : Bool) (w : jV), x = M 68 2 - m → 0 ≤ x → Q (some (jI (bI (b && fitR (sgF M j) (M 68 2) m)))) (jG, M) → J l z X (d + 2) mX10_fits (0, 0) 22 [jR 96, jI j, jI (bI b), jI x, w] [] (jG, M) Q := by
  obtain ⟨⟨q1, hr, hk⟩, h2, _⟩ := id hI
  obtain ⟨e9, n0, n1, hs⟩ := id h2
  intro m
  induction m with
  | zero =>
    intro x b w hx x0 k
    refine J_weak [jR 96, jI j, jI (bI b), jI x, jN] ⟨Or.inr rfl, Or.inr rfl, Or.inr rfl, Or.inr rfl, Or.inl rfl, trivial⟩ ?_
    rw [show fitR (sgF M j) (M 68 2) 0 = true from rfl, Bool.and_true] at k
    refine b_X10_fits_22 (fun _ => by unfold bI; cases b <;> simp) (fun q => absurd q (by omega)) (fun q => absurd q (by omega)) (fun _ => k) (fun q => absurd q (by omega)) (fun q => absurd q (by omega)) (fun q => absurd q (by omega))
  | succ m ih =>
    intro x b w hx x0 k
    refine J_weak [jR 96, jI j, jI (bI b), jI x, jN] ⟨Or.inr rfl, Or.inr rfl, Or.inr rfl, Or.inr rfl, Or.inl rfl, trivial⟩ ?_
    have hsx := hs x x0 (by omega)
    unfold fitR at k
    rw [← hx] at k
    have hend : ∀ (b' : Bool) (u : jV), b' = (b && sgF M j x) → u = jI (M 101 x) → J l z X (d + 2) mX10_fits (0, 0) 72 [jR 96, jI j, jI (bI b), jI x, u] [jI (bI b')] (jG, M) Q := by
      intro b' u e eu
      rw [eu]
      refine b_X10_fits_72 (jInd (by omega)) (ih _ b' _ (by omega) (by omega) ?_)
      rw [e, Bool.and_assoc]
      exact k
    have hno : (b = false ∨ sgF M j x = false) → J l z X (d + 2) mX10_fits (0, 0) 71 [jR 96, jI j, jI (bI b), jI x, jI (M 101 x)] [] (jG, M) Q := by
      intro e
      refine b_X10_fits_71 (hend false _ ?_ rfl)
      rcases e with e | e <;> simp [e]
    refine b_X10_fits_22 (fun q => absurd q (by omega)) (fun _ => x0) (fun _ => by omega) (fun q => absurd q (by omega)) (fun _ c => hno (Or.inl ?_)) (fun _ c1 c2 => ?_) (fun _ c1 c2 => hno (Or.inr ?_))
    · revert c
      unfold bI
      cases b
      · intro _; rfl
      · intro q; exact absurd q (by decide)
    · have eb : b = true := by
        revert c1
        unfold bI
        cases b
        · intro q; exact absurd rfl q
        · intro _; rfl
      rw [q1.1] at c2
      rw [hsx.1] at c2
      have ho := hasB_in c2
      refine jcg (P := fun v => J l z X (d + 1) mX10_lookedBy (0, 0) 0 [jR 96, jI j, jI v] [] (jG, M) _) hsx.1 ?_
      refine c_X10_lookedBy hI ho ?_
      refine b_X10_fits_58 x0 (by omega) (fun c => hno (Or.inr ?_)) (fun c => hend true _ ?_ rfl)
      · unfold sgF
        rw [hsx.2.1] at c
        rw [decide_eq_false c, Bool.and_false]
      · unfold sgF
        rw [hsx.2.1] at c
        rw [decide_eq_true c, c2, eb]
        rfl
    · rw [q1.1, hsx.1] at c2
      unfold sgF
      rw [c2, Bool.false_and]
theorem c_X10_fits (hI : Inv M) (j : Int) (k : Q (some (jI (bI ((decide (j = 6) || hasB (M 1 4) j) && fitsF M j)))) (jG, M)) : J l z X (d + 2) mX10_fits (0, 0) 0 [jR 96, jI j, jN, jN, jN] [] (jG, M) Q := by
  have n0 := hI.2.1.2.1
  have q1 := hI.1.1.1
  have hgo : ∀ b : Bool, b = (decide (j = 6) || hasB (M 1 4) j) → J l z X (d + 2) mX10_fits (0, 0) 19 [jR 96, jI j, jN, jN, jN] [jI (bI b)] (jG, M) Q := fun b e => by
    refine b_X10_fits_19 (c_X10_fits_22 hI j (M 68 2).toNat 0 b _ (by omega) (by omega) ?_)
    rw [e]
    exact k
  refine b_X10_fits_0 (fun c => b_X10_fits_14 (hgo true ?_)) (fun c q => b_X10_fits_14 (hgo true ?_)) (fun c q => hgo false ?_)
  · simp [c]
  · rw [q1] at q
    simp [q]
  · rw [q1] at q
    simp [c, q]
theorem c_X10_givers_4 (hI : Inv M) : ∀ (m : Nat) (x acc : Int), m ≤ 7 → 0 ≤ acc ∧ acc < 128 → x = 7 - (m : Int) → Q (some (jI (givR (givG M) m acc))) (jG, M) → J l z X (d + 3) mX10_givers (0, 0) 4 [jR 96, jI acc, jI x] [] (jG, M) Q := by
  intro m
  induction m with
  | zero =>
    intro x acc _ _ hx k
    exact b_X10_givers_4 (fun _ => k) (fun q => absurd q (by omega))
  | succ m ih =>
    intro x acc hm ha hx k
    unfold givR at k
    rw [← hx] at k
    refine b_X10_givers_4 (fun q => absurd q (by omega)) (fun _ => c_X10_fits hI x ?_)
    have hb := bit_or ha (by omega : 0 ≤ x ∧ x < 7)
    refine b_X10_givers_16 (fun c => b_X10_givers_26 (jInd (by omega)) ?_) (fun c => b_X10_givers_26 (jInd (by omega)) ?_)
    · have e : givG M x = false := by
        revert c
        show bI (givG M x) = 0 → _
        unfold bI
        cases givG M x
        · intro _; rfl
        · intro q; exact absurd q (by decide)
      rw [hb.2]
      rw [e] at k
      exact ih _ _ (by omega) ha (by omega) k
    · have e : givG M x = true := by
        revert c
        show bI (givG M x) ≠ 0 → _
        unfold bI
        cases givG M x
        · intro q; exact absurd rfl q
        · intro _; rfl
      rw [e] at k
      exact ih _ _ (by omega) hb.1 (by omega) k
theorem c_X10_givers (hI : Inv M) (k : Q (some (jI (givR (givG M) 7 0))) (jG, M)) : J l z X (d + 3) mX10_givers (0, 0) 0 [jR 96, jN, jN] [] (jG, M) Q :=
  b_X10_givers_0 (c_X10_givers_4 hI 7 0 0 (by omega) (by omega) rfl k)
theorem pr_gave (a : Int) : Pair l z X mX9_gave mX10_gave [jR 0, jI a, jN] [jR 96, jI a] := by
  intro M hI
  have hb := givR_bd (givG M) 7 0 (by omega) (by omega)
  refine b_X9_gave_0 (fun c => c_X6_givers hI ?_) (fun c => ⟨_, _, rfl, rfl, b_X10_gave_0 (fun q => absurd q c) (fun q => absurd q c) (fun _ => ⟨rfl, _, rfl, hI⟩)⟩)
  refine b_X9_gave_23 (fun _ => hb) (fun c2 => ⟨_, _, rfl, rfl, ?_⟩) (fun c2 => ⟨_, _, rfl, rfl, ?_⟩)
  · exact b_X10_gave_0 (fun _ _ => c_X10_givers hI (b_X10_gave_31 ⟨rfl, _, rfl, hI⟩)) (fun _ q => absurd q c2) (fun q => absurd c q)
  · exact b_X10_gave_0 (fun _ q => absurd c2 q) (fun _ _ => c_X10_givers hI (b_X10_gave_21 hb ⟨rfl, _, rfl, hI⟩)) (fun q => absurd c q)
end SIGHTS
/-! ## ask -/
def sumA (p : Int → Bool) : Nat → Int → Int
  | 0, a => a
  | m + 1, a => sumA p m (a + bI (p (7 - ((m + 1 : Nat) : Int))))
def maxA (s : Int → Int) : Nat → Int → Int
  | 0, b => b
  | m + 1, b => maxA s m (if s (7 - ((m + 1 : Nat) : Int)) ≤ b then b else s (7 - ((m + 1 : Nat) : Int)))
def bt (t k : Int) : Bool := decide (jand (jshr t k) 1 = 1)
def mostS (t : Int) (eq : Int → Int → Bool) : Int := maxA (fun a => sumA (fun b => (bt t a && bt t b) && eq a b) 7 0) 7 0
def leftS (t k : Int) (e : Bool) : Int := if e = true then popc t else max (jand (jshr t k) 1) (popc t - jand (jshr t k) 1)
theorem most_left {t k : Int} (h0 : 0 ≤ t ∧ t < 128) (h1 : 0 ≤ k ∧ k < 6) (e : Bool) : mostS t (fun a b => e || decide (a = k) == decide (b = k)) = leftS t k e := by
  have hall : ∀ (n : Fin 128) (m : Fin 6) (e : Bool), mostS ((n : Nat) : Int) (fun a b => e || decide (a = ((m : Nat) : Int)) == decide (b = ((m : Nat) : Int))) = leftS ((n : Nat) : Int) ((m : Nat) : Int) e := by decide +kernel
  obtain ⟨n, rfl⟩ := jfin (n := 128) h0.1 h0.2
  obtain ⟨m, rfl⟩ := jfin (n := 6) h1.1 h1.2
  exact hall n m e
