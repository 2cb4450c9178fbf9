def agE (M : Nat → Int → Int) (k : Int) : Bool := decide (lkB (M 2) (M 3) (M 4) k k = lkB (M 2) (M 3) (M 4) 6 k)
def leftM (M : Nat → Int → Int) (t k : Int) : Int := leftS t k (agE M k)
def alkP (M : Nat → Int → Int) (t k a : Int) (b : Int) : Bool := (bt t a && bt t b) && decide (lkB (M 2) (M 3) (M 4) a k = lkB (M 2) (M 3) (M 4) b k)
theorem bt_rng {t k : Int} (h0 : 0 ≤ t ∧ t < 128) (h1 : 0 ≤ k ∧ k < 7) : 0 ≤ jand (jshr t k) 1 ∧ jand (jshr t k) 1 ≤ 1 := by
  have hall : ∀ (n : Fin 128) (m : Fin 7), 0 ≤ jand (jshr ((n : Nat) : Int) ((m : Nat) : Int)) 1 ∧ jand (jshr ((n : Nat) : Int) ((m : Nat) : Int)) 1 ≤ 1 := by decide +kernel
  obtain ⟨n, rfl⟩ := jfin (n := 128) h0.1 h0.2
  obtain ⟨m, rfl⟩ := jfin (n := 7) h1.1 h1.2
  exact hall n m
theorem most_M (M : Nat → Int → Int) {t k : Int} (h0 : 0 ≤ t ∧ t < 128) (h1 : 0 ≤ k ∧ k < 6) : maxA (fun a => sumA (alkP M t k a) 7 0) 7 0 = leftM M t k := by
  unfold leftM
  rw [← most_left h0 h1]
  unfold mostS
  have e : (fun a b : Int => decide (lkB (M 2) (M 3) (M 4) a k = lkB (M 2) (M 3) (M 4) b k)) = fun a b => agE M k || decide (a = k) == decide (b = k) := by
    funext a b
    unfold agE lkB
    rw [if_pos rfl, if_neg (by omega : ¬ (6 : Int) = k)]
    by_cases ha : a = k <;> by_cases hb : b = k <;> simp [ha, hb]
    rw [eq_comm]
  have e2 : (fun a : Int => sumA (alkP M t k a) 7 0) = fun a => sumA (fun b => (bt t a && bt t b) && (agE M k || decide (a = k) == decide (b = k))) 7 0 := by
    funext a
    congr 1
    funext b
    unfold alkP
    rw [congrFun (congrFun e a) b]
  rw [e2]
/-- the best of the first ones -/
def askR (c : Int → Bool) (L : Int → Int) : Nat → Int → Int
  | 0, b => b
  | m + 1, b => askR c L m (if c (6 - ((m + 1 : Nat) : Int)) = true ∧ (b < 0 ∨ L (6 - ((m + 1 : Nat) : Int)) < L b) then 6 - ((m + 1 : Nat) : Int) else b)
def askE (a b : Int) (L : Int → Int) : Int := if b < 0 then b else if a ≠ 0 then L b else b
section ASK
variable {l : Launch} {z d : Nat} {X : jX} {M : Nat → Int → Int} {Q : Option jV → jM → Prop}
theorem c_X6_leftAtMost (hI : Inv M) {t k : Int} (h0 : 0 ≤ t ∧ t < 128) (hb : hasB (M 1 4) k = true) (kk : Q (some (jI (leftM M t k))) (jG, M)) : J l z X (d + 3) mX6_leftAtMost (0, 0) 0 [jR 1, jI t, jI k, jN, jN] [] (jG, M) Q := by
  obtain ⟨⟨_, hr, hk⟩, _⟩ := id hI
  have h1 := hasB_in hb
  have hkk := hk k h1.1 h1.2
  have hp := popc_rng (x := t)
  have hbt := bt_rng h0 (by omega : 0 ≤ k ∧ k < 7)
  have e1 : agH (hasB (M 1 4) k) (M 3 k) (M 4 k) (M 2 k) 1 = lkB (M 2) (M 3) (M 4) k k := by
    unfold lkB agH agF
    rw [if_pos hb, if_pos rfl, if_pos rfl]
    simp
  have e2 : agH (hasB (M 1 4) k) (M 3 k) (M 4 k) (M 2 k) 2 = lkB (M 2) (M 3) (M 4) 6 k := by
    unfold lkB agH agF
    rw [if_pos hb, if_neg (by omega : ¬ (6 : Int) = k)]
    simp
    omega
  refine b_X6_leftAtMost_0 h0 (fun _ => ?_) (fun q => absurd (hb.symm.trans q) (by decide))
  refine b_X6_looksBehind_0 (fun _ => h1.1) (fun _ => h1.2) (fun _ q => absurd rfl q) (fun _ _ => ?_) (fun q => absurd (hb.symm.trans q) (by decide))
  refine b_X6_looksBehind_26 (fun _ => by omega) (b_X6_leftAtMost_19 ?_)
  refine b_X6_looksBehind_0 (fun _ => h1.1) (fun _ => h1.2) (fun _ _ => ?_) (fun _ q => absurd q (by omega)) (fun q => absurd (hb.symm.trans q) (by decide))
  refine b_X6_looksBehind_26 (fun _ => by omega) (b_X6_leftAtMost_26 (fun _ => jInd (by omega)) (fun c => ?_) (fun c => ?_))
  · rw [e1, e2] at c
    unfold leftM leftS at kk
    rw [if_neg (show ¬ agE M k = true by unfold agE; simpa using c)] at kk
    exact kk
  · rw [e1, e2] at c
    unfold leftM leftS at kk
    rw [if_pos (show agE M k = true by unfold agE; simpa using c)] at kk
    exact kk
theorem c_ma_18 (hI : Inv M) {t k x4 best : Int} (h4 : 0 ≤ x4 ∧ x4 < 7) (h1 : 0 ≤ k ∧ k < 6) : ∀ (m : Nat) (x cnt : Int), m ≤ 7 → x = 7 - (m : Int) → 0 ≤ cnt → cnt ≤ 7 - m → (∀ x5 x6 : Int, J l z X (d + 2) mX10_mostAlike (0, 0) 102 [jR 96, jI t, jI k, jI best, jI x4, jI x5, jI x6, jN] [jI (if sumA (alkP M t k x4) m cnt ≤ best then best else sumA (alkP M t k x4) m cnt)] (jG, M) Q) → J l z X (d + 2) mX10_mostAlike (0, 0) 18 [jR 96, jI t, jI k, jI best, jI x4, jI cnt, jI x, jN] [] (jG, M) Q := by
  intro m
  induction m with
  | zero =>
    intro x cnt _ hx c0 c1 kk
    unfold sumA at kk
    refine b_X10_mostAlike_18 (fun _ c => ?_) (fun _ c => ?_) (fun q => absurd q (by omega)) (fun q => absurd q (by omega)) (fun q => absurd q (by omega))
    · rw [if_pos c] at kk; exact kk _ _
    · rw [if_neg (by omega)] at kk; exact kk _ _
  | succ m ih =>
    intro x cnt hm hx c0 c1 kk
    unfold sumA at kk
    rw [← hx] at kk
    have hend : ∀ (b : Bool) (x7 : Int), b = alkP M t k x4 x → J l z X (d + 2) mX10_mostAlike (0, 0) 81 [jR 96, jI t, jI k, jI best, jI x4, jI cnt, jI x, jI x7] [jI (bI b), jI cnt] (jG, M) Q := by
      intro b x7 e
      have e3 : 0 ≤ bI b ∧ bI b ≤ 1 := by unfold bI; cases b <;> simp
      refine b_X10_mostAlike_81 (jInd (by omega)) (jInd (by omega)) (ih _ _ (by omega) (by omega) (by omega) (by omega) ?_)
      rw [e]
      exact kk
    have hz : (bt t x4 && bt t x) = false → J l z X (d + 2) mX10_mostAlike (0, 0) 49 [jR 96, jI t, jI k, jI best, jI x4, jI cnt, jI x, jN] [] (jG, M) Q := fun e => by
      refine b_X10_mostAlike_49 (b_X10_mostAlike_50 (fun _ => b_X10_mostAlike_80 (hend false _ ?_)) (fun q => absurd rfl q))
      unfold alkP
      rw [e, Bool.false_and]
    refine b_X10_mostAlike_18 (fun q => absurd q (by omega)) (fun q => absurd q (by omega)) (fun _ c => hz ?_) (fun _ c1 c2 => hz ?_) (fun _ c1 c2 => ?_)
    · unfold bt; rw [decide_eq_false c, Bool.false_and]
    · unfold bt; rw [decide_eq_false c2, Bool.and_false]
    · have e : (bt t x4 && bt t x) = true := by unfold bt; rw [decide_eq_true c1, decide_eq_true c2]; rfl
      refine b_X10_mostAlike_50 (fun q => absurd q (by decide)) (fun _ => c_X10_lookedBy hI h1 ?_)
      refine b_X10_mostAlike_66 (c_X10_lookedBy hI h1 ?_)
      refine b_X10_mostAlike_73 (fun c => b_X10_mostAlike_80 (hend false _ ?_)) (fun c => hend true _ ?_)
      · unfold alkP
        rw [decide_eq_false c, Bool.and_false]
      · unfold alkP
        rw [decide_eq_true c, e]
        rfl
theorem c_ma_5 (hI : Inv M) {t k : Int} (h1 : 0 ≤ k ∧ k < 6) : ∀ (m : Nat) (x best : Int), m ≤ 7 → x = 7 - (m : Int) → Q (some (jI (maxA (fun a => sumA (alkP M t k a) 7 0) m best))) (jG, M) → J l z X (d + 2) mX10_mostAlike (0, 0) 5 [jR 96, jI t, jI k, jI best, jI x, jN, jN, jN] [] (jG, M) Q := by
  intro m
  induction m with
  | zero =>
    intro x best _ hx kk
    exact b_X10_mostAlike_5 (fun _ => kk) (fun q => absurd q (by omega))
  | succ m ih =>
    intro x best hm hx kk
    unfold maxA at kk
    rw [← hx] at kk
    refine b_X10_mostAlike_5 (fun q => absurd q (by omega)) (fun _ => ?_)
    refine c_ma_18 hI (by omega) h1 7 0 0 (by omega) rfl (by omega) (by omega) (fun x5 x6 => ?_)
    exact b_X10_mostAlike_102 (jInd (by omega)) (ih _ _ (by omega) (by omega) kk)
theorem c_X10_mostAlike (hI : Inv M) {t k : Int} (h0 : 0 ≤ t ∧ t < 128) (h1 : 0 ≤ k ∧ k < 6) (kk : Q (some (jI (leftM M t k))) (jG, M)) : J l z X (d + 2) mX10_mostAlike (0, 0) 0 [jR 96, jI t, jI k, jN, jN, jN, jN, jN] [] (jG, M) Q := by
  rw [← most_M M h0 h1] at kk
  exact b_X10_mostAlike_0 (c_ma_5 hI h1 7 0 0 (by omega) rfl kk)
theorem c_X9_ask_34 (hI : Inv M) {a t : Int} (h0 : 0 ≤ t ∧ t < 128) (ht : t ≠ 0) : ∀ (m : Nat) (x b w : Int), m ≤ 6 → x = 6 - (m : Int) → ((b = -6 ∧ w = -6) ∨ (0 ≤ b ∧ b < 6 ∧ w = leftM M t b)) → Q (some (jI (askE a (askR (hasB (M 1 4)) (leftM M t) m b) (leftM M t)))) (jG, M) → J l z X (d + 5) mX9_ask (0, 0) 34 [jR 0, jI a, jI t, jI b, jI w, jI x, jN] [] (jG, M) Q := by
  intro m
  induction m with
  | zero =>
    intro x b w _ hx hw kk
    unfold askR askE at kk
    refine b_X9_ask_34 (fun _ => b_X9_ask_95 (fun c => ?_) (fun c => ?_)) (fun q => absurd q (by omega)) (fun q => absurd q (by omega)) (fun q => absurd q (by omega))
    · rcases hw with ⟨e1, e2⟩ | ⟨e1, e2, e3⟩
      · rw [if_pos (by omega)] at kk
        rw [e2, ← e1]; exact kk
      · rw [if_neg (by omega), if_pos c] at kk
        rw [e3]; exact kk
    · rcases hw with ⟨e1, e2⟩ | ⟨e1, e2, e3⟩
      · rw [if_pos (by omega)] at kk
        exact kk
      · rw [if_neg (by omega), if_neg (by omega)] at kk
        exact kk
  | succ m ih =>
    intro x b w hm hx hw kk
    unfold askR at kk
    rw [← hx] at kk
    have hno : ¬ (hasB (M 1 4) x = true ∧ (b < 0 ∨ leftM M t x < leftM M t b)) → J l z X (d + 5) mX9_ask (0, 0) 89 [jR 0, jI a, jI t, jI b, jI w, jI x, jN] [] (jG, M) Q := fun e => by
      rw [if_neg e] at kk
      exact b_X9_ask_89 (jInd (by omega)) (ih _ _ _ (by omega) (by omega) hw kk)
    have hyes : (hasB (M 1 4) x = true ∧ (b < 0 ∨ leftM M t x < leftM M t b)) → J l z X (d + 5) mX9_ask (0, 0) 82 [jR 0, jI a, jI t, jI b, jI w, jI x, jI (leftM M t x)] [] (jG, M) Q := fun e => by
      rw [if_pos e] at kk
      have := hasB_in e.1
      exact b_X9_ask_82 (b_X9_ask_89 (jInd (by omega)) (ih _ _ _ (by omega) (by omega) (Or.inr ⟨by omega, by omega, rfl⟩) kk))
    refine b_X9_ask_34 (fun q => absurd q (by omega)) (fun _ q => absurd q ht) (fun _ _ c => ?_) (fun _ _ c => hno ?_)
    · refine c_X6_leftAtMost hI h0 c (b_X9_ask_67 (fun c2 => hyes ⟨c, Or.inl (by omega)⟩) (fun c2 c3 => hno ?_) (fun c2 c3 => hyes ⟨c, Or.inr ?_⟩))
      · rcases hw with ⟨e1, e2⟩ | ⟨e1, e2, e3⟩
        · omega
        · rw [← e3]; omega
      · rcases hw with ⟨e1, e2⟩ | ⟨e1, e2, e3⟩
        · omega
        · rw [← e3]; omega
    · rw [c]
      exact fun q => absurd q.1 (by decide)
theorem c_X10_ask_24 (hI : Inv M) {a t : Int} (h0 : 0 ≤ t ∧ t < 128) (ht : t ≠ 0) : ∀ (m : Nat) (x b : Int), m ≤ 6 → x = 6 - (m : Int) → b < 6 → Q (some (jI (askE a (askR (hasB (M 1 4)) (leftM M t) m b) (leftM M t)))) (jG, M) → J l z X (d + 4) mX10_ask (0, 0) 24 [jR 96, jI a, jI t, jI b, jI x] [] (jG, M) Q := by
  have q1 := hI.1.1.1
  intro m
  induction m with
  | zero =>
    intro x b _ hx hb kk
    unfold askR askE at kk
    refine b_X10_ask_24 (fun _ => b_X10_ask_77 (fun c => b_X10_ask_95 ?_) (fun c c2 => c_X10_mostAlike hI h0 ⟨c, hb⟩ (b_X10_ask_95 ?_)) (fun c c2 => b_X10_ask_95 ?_)) (fun q => absurd q (by omega)) (fun q => absurd q (by omega)) (fun q => absurd q (by omega)) (fun q => absurd q (by omega))
    · rw [if_pos c] at kk; exact kk
    · rw [if_neg (by omega), if_pos c2] at kk; exact kk
    · rw [if_neg (by omega), if_neg (by omega)] at kk; exact kk
  | succ m ih =>
    intro x b hm hx hb kk
    unfold askR at kk
    rw [← hx] at kk
    have hno : ¬ (hasB (M 1 4) x = true ∧ (b < 0 ∨ leftM M t x < leftM M t b)) → J l z X (d + 4) mX10_ask (0, 0) 69 [jR 96, jI a, jI t, jI b, jI x] [] (jG, M) Q := fun e => by
      rw [if_neg e] at kk
      exact b_X10_ask_69 (b_X10_ask_70 (jInd (by omega)) (ih _ _ (by omega) (by omega) hb kk))
    have hyes : (hasB (M 1 4) x = true ∧ (b < 0 ∨ leftM M t x < leftM M t b)) → J l z X (d + 4) mX10_ask (0, 0) 64 [jR 96, jI a, jI t, jI b, jI x] [] (jG, M) Q := fun e => by
      rw [if_pos e] at kk
      exact b_X10_ask_64 (b_X10_ask_70 (jInd (by omega)) (ih _ _ (by omega) (by omega) (by omega) kk))
    refine b_X10_ask_24 (fun q => absurd q (by omega)) (fun _ q => absurd q ht) (fun _ _ c c2 => ?_) (fun _ _ c c2 => ?_) (fun _ _ c => hno ?_)
    · rw [q1] at c
      exact hyes ⟨c, Or.inl c2⟩
    · rw [q1] at c
      have := hasB_in c
      refine c_X10_mostAlike hI h0 (by omega) (b_X10_ask_55 (c_X10_mostAlike hI h0 ⟨c2, hb⟩ (b_X10_ask_61 (fun c3 => hno ?_) (fun c3 => hyes ⟨c, Or.inr c3⟩))))
      omega
    · rw [q1] at c
      rw [c]
      exact fun q => absurd q.1 (by decide)
theorem pr_ask (a : Int) : Pair l z X mX9_ask mX10_ask [jR 0, jI a, jN, jN, jN, jN, jN] [jR 96, jI a, jN, jN, jN] := by
  intro M hI
  have hb := givR_bd (givG M) 7 0 (by omega) (by omega)
  refine b_X9_ask_0 (fun c => c_X6_givers hI ?_) (fun c => ⟨_, _, rfl, rfl, b_X10_ask_0 (fun q => absurd q c) (fun _ => ⟨rfl, _, rfl, hI⟩)⟩)
  refine b_X9_ask_23 ?_
  by_cases ht : givR (givG M) 7 0 = 0
  · refine b_X9_ask_34 (fun q => absurd q (by omega)) (fun _ _ => b_X9_ask_95 (fun c2 => ?_) (fun c2 => ?_)) (fun _ q => absurd ht q) (fun _ q => absurd ht q)
    all_goals
      refine ⟨_, _, rfl, rfl, b_X10_ask_0 (fun _ => c_X10_givers hI (b_X10_ask_17 ?_)) (fun q => absurd c q)⟩
      refine b_X10_ask_24 (fun q => absurd q (by omega)) (fun _ _ => b_X10_ask_77 (fun _ => b_X10_ask_95 ⟨rfl, _, rfl, hI⟩) (fun q => absurd q (by omega)) (fun q => absurd q (by omega))) (fun _ q => absurd ht q) (fun _ q => absurd ht q) (fun _ q => absurd ht q)
  · refine c_X9_ask_34 hI hb ht 6 0 _ _ (by omega) rfl (Or.inl ⟨rfl, rfl⟩) ⟨_, _, rfl, rfl, ?_⟩
    exact b_X10_ask_0 (fun _ => c_X10_givers hI (b_X10_ask_17 (c_X10_ask_24 hI hb ht 6 0 _ (by omega) rfl (by omega) ⟨rfl, _, rfl, hI⟩))) (fun q => absurd c q)
end ASK
