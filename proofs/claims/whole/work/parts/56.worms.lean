/-! ## worms: the common divisor -/
def gE : Nat → Int → Int → Int
  | 0, a, _ => a
  | n + 1, a, b => if b = 0 then a else gE n b (a % b)
def gT : Nat → Int → Int → Prop
  | 0, _, b => b = 0
  | n + 1, a, b => b = 0 ∨ gT n b (a % b)
theorem gE_zero : ∀ (n : Nat) (a : Int), gE n a 0 = a
  | 0, _ => rfl
  | n + 1, a => by
    unfold gE
    rw [if_pos rfl]
theorem gT_zero : ∀ (n : Nat) (a : Int), gT n a 0
  | 0, _ => rfl
  | n + 1, a => Or.inl rfl
theorem gE_more : ∀ (n m : Nat) (a b : Int), gT n a b → n ≤ m → gE m a b = gE n a b
  | 0, m, a, b, h, _ => by
    have h' : b = 0 := h
    rw [h', gE_zero, gE_zero]
  | n + 1, 0, a, b, h, hm => by omega
  | n + 1, m + 1, a, b, h, hm => by
    unfold gE
    by_cases e : b = 0
    · rw [if_pos e, if_pos e]
    · rw [if_neg e, if_neg e]
      rcases h with h | h
      · exact absurd h e
      · exact gE_more n m b (a % b) h (by omega)
theorem gT_more : ∀ (n m : Nat) (a b : Int), gT n a b → n ≤ m → gT m a b
  | 0, m, a, b, h, _ => by
    have h' : b = 0 := h
    rw [h']
    exact gT_zero m a
  | n + 1, 0, a, b, h, hm => by omega
  | n + 1, m + 1, a, b, h, hm => by
    rcases h with h | h
    · exact Or.inl h
    · exact Or.inr (gT_more n m b (a % b) h (by omega))
theorem gT_pow : ∀ (n : Nat) (a b : Int), 0 ≤ a → 0 ≤ b → b < 2 ^ n → gT (2 * n + 1) a b
  | 0, a, b, h0, h1, h2 => by
    left
    have : (2 : Int) ^ 0 = 1 := rfl
    omega
  | n + 1, a, b, h0, h1, h2 => by
    show gT (2 * (n + 1) + 1) a b
    rw [show 2 * (n + 1) + 1 = (2 * n + 1) + 1 + 1 by omega]
    by_cases e : b = 0
    · exact Or.inl e
    · right
      have hr0 : 0 ≤ a % b := Int.emod_nonneg a e
      have hr1 : a % b < b := Int.emod_lt_of_pos a (by omega)
      generalize a % b = r at hr0 hr1
      by_cases e2 : r = 0
      · exact Or.inl e2
      · right
        have hp : (2 : Int) ^ (n + 1) = 2 ^ n * 2 := Int.pow_succ 2 n
        have q0 : 0 ≤ b % r := Int.emod_nonneg b e2
        have q1 : b % r < r := Int.emod_lt_of_pos b (by omega)
        have q2 : r * (b / r) + b % r = b := Int.mul_ediv_add_emod b r
        have q3 : 1 ≤ b / r := by
          rw [Int.le_ediv_iff_mul_le (by omega)]
          omega
        have q4 : r * 1 ≤ r * (b / r) := Int.mul_le_mul_of_nonneg_left q3 (by omega)
        exact gT_pow n r (b % r) (by omega) q0 (by omega)
theorem gE_swap (n m : Nat) (a b : Int) (ha : 0 ≤ a) (hb : 0 < b) (h1 : gT n a b) (h2 : gT m b a) : gE n a b = gE m b a := by
  by_cases e : a < b
  · have : gE (m + 1) a b = gE m b a := by
      conv => lhs; unfold gE
      rw [if_neg (by omega), Int.emod_eq_of_lt ha e]
    rw [← this]
    have ht : gT (m + 1) a b := by
      right
      rw [Int.emod_eq_of_lt ha e]
      exact h2
    rw [← gE_more n (n + m + 1) a b h1 (by omega), ← gE_more (m + 1) (n + m + 1) a b ht (by omega)]
  · by_cases e2 : a = b
    · subst e2
      have h0 : a % a = 0 := Int.emod_self
      have : ∀ k : Nat, gE k a a = a := fun k => by
        cases k with
        | zero => rfl
        | succ k =>
          unfold gE
          rw [if_neg (by omega), h0, gE_zero]
      rw [this, this]
    · have hlt : b < a := by omega
      have : gE (n + 1) b a = gE n a b := by
        conv => lhs; unfold gE
        rw [if_neg (by omega), Int.emod_eq_of_lt (by omega) hlt]
      rw [← this]
      have ht : gT (n + 1) b a := by
        right
        rw [Int.emod_eq_of_lt (by omega) hlt]
        exact h1
      rw [← gE_more m (n + m + 1) b a h2 (by omega), ← gE_more (n + 1) (n + m + 1) b a ht (by omega)]
theorem gE_pos : ∀ (n : Nat) (a b : Int), 0 < a → 0 ≤ b → 0 < gE n a b
  | 0, _, _, h, _ => h
  | n + 1, a, b, h, hb => by
    unfold gE
    by_cases e : b = 0
    · rw [if_pos e]; exact h
    · rw [if_neg e]
      exact gE_pos n b (a % b) (by omega) (Int.emod_nonneg a e)
section GCD
variable {l : Launch} {z d : Nat} {X : jX} {M : Nat → Int → Int} {Q : Option jV → jM → Prop}
theorem c_X7_commonDivisor_3 : ∀ (n : Nat) (a b i : Int), i = 200 - (n : Int) → 0 ≤ i → 0 ≤ a → 0 ≤ b → Q (some (jL (max 1 (gE n a b)))) (jG, M) → J l z X (d + 1) mX7_commonDivisor (0, 0) 3 [jL a, jN, jL b, jN, jI i, jN, jN] [] (jG, M) Q := by
  intro n
  induction n with
  | zero =>
    intro a b i hi i0 ha hb kk
    exact b_X7_commonDivisor_3 (fun q => absurd q (by omega)) (fun q => absurd q (by omega)) (fun q => absurd q (by omega)) (fun _ => kk) (fun q => absurd q (by omega)) (fun q => absurd q (by omega))
  | succ n ih =>
    intro a b i hi i0 ha hb kk
    unfold gE at kk
    refine b_X7_commonDivisor_3 (fun _ _ => ha) (fun _ q => by omega) (fun _ _ => jInd (by omega)) (fun q => absurd q (by omega)) (fun _ g => ?_) (fun _ g => ?_)
    · rw [if_pos g] at kk
      exact kk
    · rw [if_neg g] at kk
      exact ih b (a % b) (i + 1) (by omega) (by omega) hb (Int.emod_nonneg a g) kk
theorem c_X7_commonDivisor {a b : Int} (ha : 0 ≤ a) (hb : 0 ≤ b) (kk : Q (some (jL (max 1 (gE 200 a b)))) (jG, M)) : J l z X (d + 1) mX7_commonDivisor (0, 0) 0 [jL a, jN, jL b, jN, jN, jN, jN] [] (jG, M) Q :=
  b_X7_commonDivisor_0 (c_X7_commonDivisor_3 200 a b 0 (by omega) (by omega) ha hb kk)
theorem c_X10_lowest_6 {u w p : Int} (hu : 0 ≤ u) (hw : 0 ≤ w) : ∀ (n : Nat) (a b : Int), gT n a b → 0 < a → 0 ≤ b → Q (some (jL (if p = 0 then u / gE n a b else w / gE n a b))) (jG, M) → J l z X d mX10_lowest (0, 0) 6 [jL u, jN, jL w, jN, jI p, jL a, jN, jL b, jN, jN, jN] [] (jG, M) Q := by
  have hz : ∀ (n : Nat) (a : Int), 0 < a → Q (some (jL (if p = 0 then u / gE n a 0 else w / gE n a 0))) (jG, M) → J l z X d mX10_lowest (0, 0) 6 [jL u, jN, jL w, jN, jI p, jL a, jN, jL 0, jN, jN, jN] [] (jG, M) Q := by
    intro n a ha kk
    rw [gE_zero] at kk
    refine b_X10_lowest_6 (fun _ _ => hw) (fun _ _ => ha) (fun _ _ => hu) (fun _ _ => ha) (fun q => absurd rfl q) (fun q => absurd rfl q) (fun _ g => ?_) (fun _ g => ?_) (fun q => absurd rfl q)
    · rw [if_neg g] at kk; exact kk
    · rw [if_pos g] at kk; exact kk
  intro n
  induction n with
  | zero =>
    intro a b ht ha hb kk
    have h' : b = 0 := ht
    subst h'
    exact hz 0 a ha kk
  | succ n ih =>
    intro a b ht ha hb kk
    by_cases e : b = 0
    · subst e
      exact hz (n + 1) a ha kk
    · rcases ht with ht | ht
      · exact absurd ht e
      · unfold gE at kk
        rw [if_neg e] at kk
        refine b_X10_lowest_6 (fun q => absurd q e) (fun q => absurd q e) (fun q => absurd q e) (fun q => absurd q e) (fun _ => by omega) (fun _ => by omega) (fun q => absurd q e) (fun q => absurd q e) (fun _ => ih b (a % b) ht (by omega) (Int.emod_nonneg a e) kk)
end GCD
