/-! ## what the small methods answer -/
def hasB (t k : Int) : Bool := decide (0 ≤ k ∧ k < 6 ∧ jand (jshr t k) 1 = 1)
def popc (t : Int) : Int := t % 2 + t / 2 % 2 + t / 4 % 2 + t / 8 % 2 + t / 16 % 2 + t / 32 % 2 + t / 64 % 2
def cmpI (x y : Int) : Int := if x < y then -1 else if x = y then 0 else 1
def kindF (x : Int) : Int := if x = 0 ∨ x = 1 then 98 else if x = 2 ∨ x = 3 then 104 else if x = 4 then 62 else if x = 5 then 46 else 33
/-- how old one looks behind a morning: pace, youth, the age ahead, what was eaten -/
def agF (p y a e : Int) : Int := if e = 2 then max (a - p) y else if e = 1 then a else min (a + p) 99
def agH (h : Bool) (p y a e : Int) : Int := if h = true then (if e = 1 then a else if e = 0 then min 99 (a + p) else max y (a - p)) else a
theorem jfin {n : Nat} {x : Int} (h0 : 0 ≤ x) (h1 : x < n) : ∃ k : Fin n, x = ((k : Nat) : Int) := ⟨⟨x.toNat, by omega⟩, by simp; omega⟩
theorem jcg {P : Int → Prop} {a b : Int} (e : a = b) (h : P b) : P a := e ▸ h
section BASE
variable {l : Launch} {z d : Nat} {X : jX} {M : Nat → Int → Int} {Q : Option jV → jM → Prop}
theorem c_X9_within {v a b : Int} (k1 : a ≤ v ∧ v ≤ b → Q (some (jI 1)) (jG, M)) (k0 : ¬ (a ≤ v ∧ v ≤ b) → Q (some (jI 0)) (jG, M)) : J l z X d mX9_within (0, 0) 0 [jI v, jI a, jI b] [] (jG, M) Q :=
  b_X9_within_0 (fun h => k0 (by omega)) (fun _ h => k0 (by omega)) (fun h1 h2 => k1 ⟨h1, h2⟩)
theorem c_X10_in {v a b : Int} (k1 : a ≤ v ∧ v ≤ b → Q (some (jI 1)) (jG, M)) (k0 : ¬ (a ≤ v ∧ v ≤ b) → Q (some (jI 0)) (jG, M)) : J l z X d mX10_in (0, 0) 0 [jL v, jN, jL a, jN, jL b, jN] [] (jG, M) Q :=
  b_X10_in_0 (fun h => k0 (by omega)) (fun _ h => k0 (by omega)) (fun h1 h2 => k1 ⟨h1, h2⟩)
theorem c_X4_isLetter {c : Int} (k1 : 65 ≤ c ∧ c ≤ 70 → Q (some (jI 1)) (jG, M)) (k0 : ¬ (65 ≤ c ∧ c ≤ 70) → Q (some (jI 0)) (jG, M)) : J l z X d mX4_isLetter (0, 0) 0 [jI c] [] (jG, M) Q :=
  b_X4_isLetter_0 (fun h => k0 (by omega)) (fun _ h => k0 (by omega)) (fun h1 h2 => k1 (by omega))
theorem c_X10_isLetter {c : Int} (k1 : 65 ≤ c ∧ c ≤ 70 → Q (some (jI 1)) (jG, M)) (k0 : ¬ (65 ≤ c ∧ c ≤ 70) → Q (some (jI 0)) (jG, M)) : J l z X (d + 1) mX10_isLetter (0, 0) 0 [jI c] [] (jG, M) Q :=
  b_X10_isLetter_0 (c_X10_in (fun h => b_X10_isLetter_11 (by omega) (k1 h)) (fun h => b_X10_isLetter_11 (by omega) (k0 h)))
theorem hasB_t {t k : Int} (h0 : 0 ≤ k) (h1 : k < 6) (h : jand (jshr t k) 1 = 1) : hasB t k = true := by unfold hasB; simp [h0, h1, h]
theorem hasB_f {t k : Int} (h : jand (jshr t k) 1 ≠ 1) : hasB t k = false := by unfold hasB; simp [h]
theorem hasB_o {t k : Int} (h : k < 0 ∨ 6 ≤ k) : hasB t k = false := by
  unfold hasB
  rw [decide_eq_false_iff_not]
  omega
theorem hasB_in {t k : Int} (h : hasB t k = true) : 0 ≤ k ∧ k < 6 := by
  unfold hasB at h
  rw [decide_eq_true_iff] at h
  omega
theorem c_X1_has {h : Nat} {k : Int} (hh : jHi h) (k1 : hasB (M h 4) k = true → Q (some (jI 1)) (jG, M)) (k0 : hasB (M h 4) k = false → Q (some (jI 0)) (jG, M)) : J l z X d mX1_has (0, 0) 0 [jR h, jI k] [] (jG, M) Q :=
  b_X1_has_0 hh (fun h => k0 (hasB_o (Or.inl h))) (fun _ h => k0 (hasB_o (Or.inr h))) (fun _ _ h => k0 (hasB_f h)) (fun h1 h2 h => k1 (hasB_t h1 h2 h))
theorem c_X10_isOne {k : Int} (k1 : hasB (M 96 0) k = true → Q (some (jI 1)) (jG, M)) (k0 : hasB (M 96 0) k = false → Q (some (jI 0)) (jG, M)) : J l z X (d + 1) mX10_isOne (0, 0) 0 [jR 96, jI k] [] (jG, M) Q :=
  b_X10_isOne_0 (c_X10_in (fun h => b_X10_isOne_9 (fun q => absurd q (by decide)) (fun _ q => k0 (hasB_f q)) (fun _ q => k1 (hasB_t h.1 (by omega) q))) (fun h => b_X10_isOne_9 (fun _ => k0 (hasB_o (by omega))) (fun q => absurd rfl q) (fun q => absurd rfl q)))
theorem c_J6_compare_7cf53 {x y : Int} (k : Q (some (jI (cmpI x y))) (jG, M)) : J l z X d mJ6_compare_7cf53 (0, 0) 0 [jI x, jI y] [] (jG, M) Q :=
  b_J6_compare_7cf53_0 (fun h1 h2 => jcg (P := fun v => Q (some (jI v)) (jG, M)) (by unfold cmpI; rw [if_neg (by omega), if_neg h2]) k) (fun h1 h2 => jcg (P := fun v => Q (some (jI v)) (jG, M)) (by unfold cmpI; rw [if_neg (by omega), if_pos h2]) k) (fun h1 => jcg (P := fun v => Q (some (jI v)) (jG, M)) (by unfold cmpI; rw [if_pos h1]) k)
theorem c_X8_kindOf {x : Int} (k : Q (some (jI (kindF x))) (jG, M)) : J l z X d mX8_kindOf (0, 0) 0 [jI x] [] (jG, M) Q := by
  refine b_X8_kindOf_0 (fun h => jcg (P := fun v => Q (some (jI v)) (jG, M)) ?_ k) (fun h => jcg (P := fun v => Q (some (jI v)) (jG, M)) ?_ k) (fun h => jcg (P := fun v => Q (some (jI v)) (jG, M)) ?_ k) (fun h => jcg (P := fun v => Q (some (jI v)) (jG, M)) ?_ k) (fun h => jcg (P := fun v => Q (some (jI v)) (jG, M)) ?_ k) (fun h => jcg (P := fun v => Q (some (jI v)) (jG, M)) ?_ k) (fun h => jcg (P := fun v => Q (some (jI v)) (jG, M)) ?_ k) <;> unfold kindF
  · rw [if_neg (by omega), if_neg (by omega), if_neg (by omega), if_neg (by omega)]
  all_goals (subst h; decide)
theorem c_X1_halvesOf {x : Int} (k : Q (some (jI (if x = 98 then 2 else 1))) (jG, M)) : J l z X d mX1_halvesOf (0, 0) 0 [jI x] [] (jG, M) Q :=
  b_X1_halvesOf_0 (fun h => by rw [if_neg h] at k; exact k) (fun h => by rw [if_pos h] at k; exact k)
theorem c_X10_stateOf {a b c : Int} (h : 0 ≤ a ∧ a ≤ 26 ∧ 0 ≤ b ∧ b ≤ 26 ∧ 0 ≤ c ∧ c ≤ 26) (k : Q (some (jI (26 * (26 * a + b) + c))) (jG, M)) : J l z X d mX10_stateOf (0, 0) 0 [jI a, jI b, jI c] [] (jG, M) Q :=
  b_X10_stateOf_0 (by unfold jIn; omega) (by unfold jIn; omega) (by unfold jIn; omega) (by unfold jIn; omega) k
theorem c_X10_halvesOf {x : Int} (h : 0 ≤ x ∧ x < 27) (k : Q (some (jI (x / 9 + x / 3 % 3 + x % 3))) (jG, M)) : J l z X d mX10_halvesOf (0, 0) 0 [jI x] [] (jG, M) Q :=
  b_X10_halvesOf_0 (by omega) (by omega) (by unfold jIn; omega) (by unfold jIn; omega) k
theorem jInd {x : Int} (h : -2147483648 ≤ x ∧ x ≤ 2147483647) : jIn x := h
theorem jIn_iff (x : Int) : jIn x ↔ (-2147483648 ≤ x ∧ x ≤ 2147483647) := Iff.rfl
theorem c_J6_bitCount_0f7a4 {x : Int} (h : 0 ≤ x ∧ x < 128) (k : Q (some (jI (popc x))) (jG, M)) : J l z X d mJ6_bitCount_0f7a4 (0, 0) 0 [jI x] [] (jG, M) Q := by
  refine b_J6_bitCount_0f7a4_0 ?_ ?_ ?_ ?_ ?_ (jcg (P := fun v => Q (some (jI v)) (jG, M)) ?_ k) <;> clear k <;> (first | (rw [jIn_iff]) | skip) <;> (obtain ⟨n, rfl⟩ := jfin (n := 128) h.1 h.2; clear h; revert n; decide +kernel)
theorem popc_step {x : Int} (h0 : 0 < x) (h1 : x < 128) : 0 ≤ jand x (x - 1) ∧ jand x (x - 1) < x ∧ popc x = popc (jand x (x - 1)) + 1 := by
  obtain ⟨n, rfl⟩ := jfin (n := 128) (by omega : 0 ≤ x) h1
  revert h0
  clear h1
  revert n
  decide +kernel
theorem popc_rng {x : Int} : 0 ≤ popc x ∧ popc x ≤ 7 := by unfold popc; omega
theorem c_X10_ones_4 {x0 : Int} : ∀ (n : Nat) (c x : Int), 0 ≤ x → x < 128 → x.toNat ≤ n → 0 ≤ c → c + popc x ≤ 100 → Q (some (jI (c + popc x))) (jG, M) → J l z X d mX10_ones (0, 0) 4 [jI x0, jI c, jI x] [] (jG, M) Q := by
  intro n
  induction n with
  | zero =>
    intro c x h0 h1 h2 h3 h4 k
    have e : x = 0 := by omega
    subst e
    refine b_X10_ones_4 (fun q => absurd rfl q) (fun q => absurd rfl q) (fun _ => ?_) (fun q => absurd rfl q)
    exact jcg (P := fun v => Q (some (jI v)) (jG, M)) (show c = c + popc 0 by rw [show popc 0 = 0 by decide]; omega) k
  | succ n ih =>
    intro c x h0 h1 h2 h3 h4 k
    refine b_X10_ones_4 (fun q => ?_) (fun q => ?_) (fun q => ?_) (fun q => ?_)
    · have := popc_step (x := x) (by omega) h1
      have h9 := popc_rng (x := jand x (x - 1))
      exact jInd (by omega)
    · exact jInd (by omega)
    · subst q
      exact jcg (P := fun v => Q (some (jI v)) (jG, M)) (show c = c + popc 0 by rw [show popc 0 = 0 by decide]; omega) k
    · obtain ⟨g1, g2, g3⟩ := popc_step (x := x) (by omega) h1
      refine ih (c + 1) _ g1 (by omega) (by omega) (by omega) (by omega) ?_
      exact jcg (P := fun v => Q (some (jI v)) (jG, M)) (by omega) k
theorem c_X10_ones {x : Int} (h : 0 ≤ x ∧ x < 128) (k : Q (some (jI (popc x))) (jG, M)) : J l z X d mX10_ones (0, 0) 0 [jI x, jN, jN] [] (jG, M) Q := by
  have h9 := popc_rng (x := x)
  exact b_X10_ones_0 (c_X10_ones_4 128 0 x h.1 h.2 (by omega) (by omega) (by omega) (jcg (P := fun v => Q (some (jI v)) (jG, M)) (by omega) k))
theorem c_X1_people {h : Nat} (hh : jHi h) (hr : 0 ≤ M h 4 ∧ M h 4 < 128) (k : Q (some (jI (popc (M h 4)))) (jG, M)) : J l z X (d + 1) mX1_people (0, 0) 0 [jR h] [] (jG, M) Q :=
  b_X1_people_0 hh (c_J6_bitCount_0f7a4 hr (b_X1_people_7 hh k))
theorem c_X10_lookBehind {k a e : Int} (hr : (0 ≤ k ∧ k < 6) ∧ (-1000 ≤ a ∧ a ≤ 1000) ∧ (0 ≤ M 98 k ∧ M 98 k ≤ 9)) (kk : Q (some (jI (agF (M 98 k) (M 99 k) a e))) (jG, M)) : J l z X d mX10_lookBehind (0, 0) 0 [jR 96, jI k, jI a, jI e, jN, jN] [] (jG, M) Q := by
  obtain ⟨⟨h1, h2⟩, h3, h4⟩ := hr
  have hf : ∀ less more : Int, less = max (a - M 98 k) (M 99 k) → more = min (a + M 98 k) 99 → J l z X d mX10_lookBehind (0, 0) 62 [jR 96, jI k, jI a, jI e, jI less, jN] [jI more] (jG, M) Q := by
    intro less more e1 e2
    refine b_X10_lookBehind_62 (fun q1 q2 => ?_) (fun q1 q2 => ?_) (fun q1 => ?_)
    · simpa only [agF, if_neg q1, if_neg q2, ← e2] using kk
    · simpa only [agF, if_neg q1, if_pos q2] using kk
    · simpa only [agF, if_pos q1, ← e1] using kk
  have hg : ∀ less : Int, less = max (a - M 98 k) (M 99 k) → J l z X d mX10_lookBehind (0, 0) 34 [jR 96, jI k, jI a, jI e, jN, jN] [jI less] (jG, M) Q := by
    intro less e1
    exact b_X10_lookBehind_34 h1 h2 (jInd (by omega)) (fun _ => h1) (fun _ => h2) (fun _ => jInd (by omega)) (fun q => hf _ _ e1 (by omega)) (fun q => hf _ _ e1 (by omega))
  exact b_X10_lookBehind_0 h1 h2 (jInd (by omega)) (fun _ => h1) (fun _ => h2) (fun _ => h1) (fun _ => h2) (fun _ => jInd (by omega)) (fun q => hg _ (by omega)) (fun q => hg _ (by omega))
theorem c_X1_aged {h : Nat} {k a e : Int} (hh : jHi h) (hr : hasB (M h 4) k = true → (-1000 ≤ a ∧ a ≤ 1000) ∧ (0 ≤ M (h + 2) k ∧ M (h + 2) k ≤ 9)) (kk : Q (some (jI (agH (hasB (M h 4) k) (M (h + 2) k) (M (h + 3) k) a e))) (jG, M)) : J l z X (d + 1) mX1_aged (0, 0) 0 [jR h, jI k, jI a, jI e] [] (jG, M) Q := by
  refine b_X1_aged_0 hh (c_X1_has hh (fun c => ?_) (fun c => ?_))
  · have hk := hasB_in c
    have hr1 := hr c
    rw [c] at kk
    refine b_X1_aged_5 hh (fun _ _ _ => hk.1) (fun _ _ _ => hk.2) (fun _ _ _ => jInd (by omega)) (fun _ _ _ => hk.1) (fun _ _ _ => hk.2) (fun _ _ _ => jInd (by omega)) (fun q => absurd q (by decide)) (fun _ q1 q2 => ?_) (fun _ q1 q2 => ?_) (fun _ q1 => ?_)
    · simpa only [agH, if_pos, if_neg q1, if_neg q2] using kk
    · simpa only [agH, if_pos, if_neg q1, if_pos q2] using kk
    · simpa only [agH, if_pos, if_pos q1] using kk
  · rw [c] at kk
    refine b_X1_aged_5 hh (fun q => absurd rfl q) (fun q => absurd rfl q) (fun q => absurd rfl q) (fun q => absurd rfl q) (fun q => absurd rfl q) (fun q => absurd rfl q) (fun _ => ?_) (fun q => absurd rfl q) (fun q => absurd rfl q) (fun q => absurd rfl q)
    simpa [agH] using kk
/-! ## bits of who is there -/
theorem bit_set {t k : Int} (h0 : 0 ≤ t ∧ t ≤ 63) (h1 : 0 ≤ k ∧ k < 6) : (0 ≤ jor t (jshl 1 k) ∧ jor t (jshl 1 k) ≤ 63) ∧ ∀ j : Int, hasB (jor t (jshl 1 k)) j = if j = k then true else hasB t j := by
  have hall : ∀ (n : Fin 64) (m : Fin 6), (0 ≤ jor ((n : Nat) : Int) (jshl 1 ((m : Nat) : Int)) ∧ jor ((n : Nat) : Int) (jshl 1 ((m : Nat) : Int)) ≤ 63) ∧ ∀ q : Fin 6, hasB (jor ((n : Nat) : Int) (jshl 1 ((m : Nat) : Int))) ((q : Nat) : Int) = if ((q : Nat) : Int) = ((m : Nat) : Int) then true else hasB ((n : Nat) : Int) ((q : Nat) : Int) := by decide +kernel
  obtain ⟨n, rfl⟩ := jfin (n := 64) h0.1 (by omega)
  obtain ⟨m, rfl⟩ := jfin (n := 6) h1.1 h1.2
  refine ⟨(hall n m).1, fun j => ?_⟩
  by_cases hj : 0 ≤ j ∧ j < 6
  · obtain ⟨q, rfl⟩ := jfin (n := 6) hj.1 hj.2
    exact (hall n m).2 q
  · rw [hasB_o (by omega), hasB_o (by omega), if_neg (by omega)]
theorem bit_clr {t k : Int} (h0 : 0 ≤ t ∧ t ≤ 63) (h1 : 0 ≤ k ∧ k < 6) : (0 ≤ jand t (jxor (jshl 1 k) (-1)) ∧ jand t (jxor (jshl 1 k) (-1)) ≤ 63) ∧ ∀ j : Int, hasB (jand t (jxor (jshl 1 k) (-1))) j = if j = k then false else hasB t j := by
  have hall : ∀ (n : Fin 64) (m : Fin 6), (0 ≤ jand ((n : Nat) : Int) (jxor (jshl 1 ((m : Nat) : Int)) (-1)) ∧ jand ((n : Nat) : Int) (jxor (jshl 1 ((m : Nat) : Int)) (-1)) ≤ 63) ∧ ∀ q : Fin 6, hasB (jand ((n : Nat) : Int) (jxor (jshl 1 ((m : Nat) : Int)) (-1))) ((q : Nat) : Int) = if ((q : Nat) : Int) = ((m : Nat) : Int) then false else hasB ((n : Nat) : Int) ((q : Nat) : Int) := by decide +kernel
  obtain ⟨n, rfl⟩ := jfin (n := 64) h0.1 (by omega)
  obtain ⟨m, rfl⟩ := jfin (n := 6) h1.1 h1.2
  refine ⟨(hall n m).1, fun j => ?_⟩
  by_cases hj : 0 ≤ j ∧ j < 6
  · obtain ⟨q, rfl⟩ := jfin (n := 6) hj.1 hj.2
    exact (hall n m).2 q
  · rw [hasB_o (by omega), hasB_o (by omega), if_neg (by omega)]
end BASE
