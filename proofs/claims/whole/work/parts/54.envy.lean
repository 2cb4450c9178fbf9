theorem badP_congr {M : Nat → Int → Int} {s s' : Int → Int} {a b : Int} (ha : s a = s' a) (hb : s b = s' b) : badP M s a b = badP M s' a b := by
  unfold badP
  rw [ha, hb]
theorem eB_congr {M : Nat → Int → Int} {s s' : Int → Int} (h : ∀ j : Int, 0 ≤ j → j < 6 → s j = s' j) {a : Int} (ha : 0 ≤ a ∧ a < 6) : ∀ n : Nat, n ≤ 6 → eB M s a n = eB M s' a n
  | 0, _ => rfl
  | n + 1, hn => by
    unfold eB
    rw [badP_congr (h a ha.1 ha.2) (h (6 - ((n + 1 : Nat) : Int)) (by omega) (by omega)), eB_congr h ha n (by omega)]
theorem eA_congr {M : Nat → Int → Int} {s s' : Int → Int} (h : ∀ j : Int, 0 ≤ j → j < 6 → s j = s' j) : ∀ n : Nat, n ≤ 6 → eA M s n = eA M s' n
  | 0, _ => rfl
  | n + 1, hn => by
    unfold eA
    rw [eB_congr h (by omega) 6 (by omega), eA_congr h n (by omega)]
theorem shR_congr {M : Nat → Int → Int} {c : Int} : ∀ (m : Nat) (num sum dg pw : Int) (s s' : Int → Int), (∀ j : Int, (m : Int) ≤ j → j < 6 → s j = s' j) → shR M c m num sum dg pw s = shR M c m num sum dg pw s'
  | 0, num, sum, dg, pw, s, s', h => by
    unfold shR
    rw [eA_congr (s := s) (s' := s') (fun j j0 j1 => h j (by omega) j1) 6 (by omega)]
  | m + 1, num, sum, dg, pw, s, s', h => by
    unfold shR
    rw [shR_congr m _ _ _ _ (setS s m (num % 3)) (setS s' m (num % 3)) (fun j j0 j1 => by
      unfold setS
      by_cases e : j = (m : Int)
      · rw [if_pos e, if_pos e]
      · rw [if_neg e, if_neg e]
        exact h j (by omega) j1)]
theorem eB_true {M : Nat → Int → Int} {s : Int → Int} {a : Int} (h : ∀ b : Int, 0 ≤ b → b < 6 → badP M s a b = false) : ∀ n : Nat, n ≤ 6 → eB M s a n = true
  | 0, _ => rfl
  | n + 1, hn => by
    unfold eB
    rw [h _ (by omega) (by omega), eB_true h n (by omega)]
    rfl
theorem eA_true {M : Nat → Int → Int} {s : Int → Int} (h : ∀ a b : Int, 0 ≤ a → a < 6 → 0 ≤ b → b < 6 → badP M s a b = false) : ∀ n : Nat, n ≤ 6 → eA M s n = true
  | 0, _ => rfl
  | n + 1, hn => by
    unfold eA
    rw [eB_true (fun b b0 b1 => h _ b (by omega) (by omega) b0 b1) 6 (by omega), eA_true h n (by omega)]
    rfl
theorem eB_false {M : Nat → Int → Int} {s : Int → Int} {a b : Int} (hb : badP M s a b = true) : ∀ n : Nat, 6 - (n : Int) ≤ b → b < 6 → eB M s a n = false
  | 0, h1, h2 => by omega
  | n + 1, h1, h2 => by
    unfold eB
    by_cases e : b = 6 - ((n + 1 : Nat) : Int)
    · rw [← e, hb]; rfl
    · rw [eB_false hb n (by omega) h2, Bool.and_false]
theorem eA_false {M : Nat → Int → Int} {s : Int → Int} {a b : Int} (h0 : 0 ≤ b ∧ b < 6) (hb : badP M s a b = true) : ∀ n : Nat, 6 - (n : Int) ≤ a → a < 6 → eA M s n = false
  | 0, h1, h2 => by omega
  | n + 1, h1, h2 => by
    unfold eA
    by_cases e : a = 6 - ((n + 1 : Nat) : Int)
    · rw [← e, eB_false hb 6 (by omega) (by omega), Bool.false_and]
    · rw [eA_false h0 hb n (by omega) h2, Bool.and_false]
def fulL (M : Nat → Int → Int) : Nat → Int → Int → (Int → Int) → List Int
  | 0, left, dg, s => if left = 0 then (if eA M s 6 = true then [dg] else []) else []
  | n + 1, left, dg, s =>
    if hasB (M 1 4) (6 - ((n + 1 : Nat) : Int)) = true then
      fulL M n (left - 0) (dg * 10 + 0) (setS s (6 - ((n + 1 : Nat) : Int)) 0) ++ (fulL M n (left - 1) (dg * 10 + 1) (setS s (6 - ((n + 1 : Nat) : Int)) 1) ++ fulL M n (left - 2) (dg * 10 + 2) (setS s (6 - ((n + 1 : Nat) : Int)) 2))
    else fulL M n left (dg * 10 + 3) (setS s (6 - ((n + 1 : Nat) : Int)) 0)
theorem fulL_neg (M : Nat → Int → Int) : ∀ (n : Nat) (left dg : Int) (s : Int → Int), left < 0 → fulL M n left dg s = []
  | 0, left, dg, s, h => by unfold fulL; rw [if_neg (by omega)]
  | n + 1, left, dg, s, h => by
    unfold fulL
    rw [fulL_neg M n _ _ _ (show left - 0 < 0 by omega), fulL_neg M n _ _ _ (show left - 1 < 0 by omega), fulL_neg M n _ _ _ (show left - 2 < 0 by omega), fulL_neg M n _ _ _ h]
    split <;> rfl
theorem fulL_bad (M : Nat → Int → Int) {a b : Int} : ∀ (n : Nat) (left dg : Int) (s : Int → Int), 0 ≤ a → 0 ≤ b → a < 6 - (n : Int) → b < 6 - (n : Int) → badP M s a b = true → fulL M n left dg s = []
  | 0, left, dg, s, a0, b0, a1, b1, h => by
    unfold fulL
    rw [if_neg (show ¬ eA M s 6 = true by rw [eA_false ⟨b0, by omega⟩ h 6 (by omega) (by omega)]; decide)]
    split <;> rfl
  | n + 1, left, dg, s, a0, b0, a1, b1, h => by
    have hs : ∀ v : Int, badP M (setS s (6 - ((n + 1 : Nat) : Int)) v) a b = true := fun v => by
      rw [← h]
      refine badP_congr ?_ ?_
      · unfold setS; rw [if_neg (by omega)]
      · unfold setS; rw [if_neg (by omega)]
    unfold fulL
    rw [fulL_bad M n _ _ _ a0 b0 (by omega) (by omega) (hs 0), fulL_bad M n _ _ _ a0 b0 (by omega) (by omega) (hs 1), fulL_bad M n _ _ _ a0 b0 (by omega) (by omega) (hs 2), fulL_bad M n _ _ _ a0 b0 (by omega) (by omega) (hs 0)]
    split <;> rfl
theorem envR_true {M : Nat → Int → Int} {s : Int → Int} {k : Int} : ∀ n : Nat, envR M s k n = true → ∃ j : Int, k - (n : Int) ≤ j ∧ j < k ∧ (badP M s k j = true ∨ badP M s j k = true)
  | 0, h => by
    unfold envR at h
    exact absurd h (by decide)
  | n + 1, h => by
    unfold envR at h
    rw [Bool.or_eq_true, Bool.or_eq_true] at h
    rcases h with h | h
    · exact ⟨_, by omega, by omega, h⟩
    · obtain ⟨j, h1, h2, h3⟩ := envR_true n h
      exact ⟨j, by omega, h2, h3⟩
theorem envR_false {M : Nat → Int → Int} {s : Int → Int} {k : Int} : ∀ n : Nat, envR M s k n = false → ∀ j : Int, k - (n : Int) ≤ j → j < k → badP M s k j = false ∧ badP M s j k = false
  | 0, _, j, h1, h2 => by omega
  | n + 1, h, j, h1, h2 => by
    unfold envR at h
    rw [Bool.or_eq_false_iff, Bool.or_eq_false_iff] at h
    by_cases e : j = k - ((n + 1 : Nat) : Int)
    · rw [e]; exact h.1
    · exact envR_false n h.2 j (by omega) h2
theorem badP_self {M : Nat → Int → Int} {s : Int → Int} {k : Int} : badP M s k k = false := by
  unfold badP
  rw [decide_eq_false (show ¬ evF M k (s k) < evF M k (s k) by omega)]
  simp
theorem clsL_ful (M : Nat → Int → Int) : ∀ (n : Nat) (left dg : Int) (s : Int → Int), n ≤ 6 → (∀ a b : Int, 0 ≤ a → a < 6 - (n : Int) → 0 ≤ b → b < 6 - (n : Int) → badP M s a b = false) → clsL M n left dg s = fulL M n left dg s
  | 0, left, dg, s, _, h => by
    unfold clsL fulL
    rw [if_pos (eA_true (fun a b a0 a1 b0 b1 => h a b a0 (by omega) b0 (by omega)) 6 (by omega))]
  | n + 1, left, dg, s, hn, h => by
    have hset : ∀ v : Int, envR M (setS s (6 - ((n + 1 : Nat) : Int)) v) (6 - ((n + 1 : Nat) : Int)) (5 - n) = false → ∀ a b : Int, 0 ≤ a → a < 6 - (n : Int) → 0 ≤ b → b < 6 - (n : Int) → badP M (setS s (6 - ((n + 1 : Nat) : Int)) v) a b = false := by
      intro v hv a b a0 a1 b0 b1
      have he := envR_false _ hv
      by_cases ea : a = 6 - ((n + 1 : Nat) : Int)
      · by_cases eb : b = 6 - ((n + 1 : Nat) : Int)
        · rw [ea, eb]; exact badP_self
        · rw [ea]; exact (he b (by omega) (by omega)).1
      · by_cases eb : b = 6 - ((n + 1 : Nat) : Int)
        · rw [eb]; exact (he a (by omega) (by omega)).2
        · rw [← h a b a0 (by omega) b0 (by omega)]
          refine badP_congr ?_ ?_
          · unfold setS; rw [if_neg ea]
          · unfold setS; rw [if_neg eb]
    have hone : ∀ (v : Int), (if v ≤ left ∧ envR M (setS s (6 - ((n + 1 : Nat) : Int)) v) (6 - ((n + 1 : Nat) : Int)) (5 - n) = false then clsL M n (left - v) (dg * 10 + v) (setS s (6 - ((n + 1 : Nat) : Int)) v) else []) = fulL M n (left - v) (dg * 10 + v) (setS s (6 - ((n + 1 : Nat) : Int)) v) := by
      intro v
      by_cases hl : v ≤ left
      · cases hv : envR M (setS s (6 - ((n + 1 : Nat) : Int)) v) (6 - ((n + 1 : Nat) : Int)) (5 - n) with
        | false =>
          rw [if_pos ⟨hl, rfl⟩]
          exact clsL_ful M n _ _ _ (by omega) (hset v hv)
        | true =>
          rw [if_neg (fun q => absurd q.2 (by decide))]
          obtain ⟨j, h1, h2, h3⟩ := envR_true _ hv
          rcases h3 with h3 | h3
          · exact (fulL_bad M n _ _ _ (by omega) (by omega) (by omega) (by omega) h3).symm
          · exact (fulL_bad M n _ _ _ (by omega) (by omega) (by omega) (by omega) h3).symm
      · rw [if_neg (fun q => hl q.1)]
        exact (fulL_neg M n _ _ _ (by omega)).symm
    unfold clsL fulL
    rw [hone 0, hone 1, hone 2]
    by_cases hb : hasB (M 1 4) (6 - ((n + 1 : Nat) : Int)) = true
    · rw [if_pos hb, if_pos hb]
    · rw [if_neg hb, if_neg hb]
      refine clsL_ful M n _ _ _ (by omega) (hset 0 ?_)
      have hb2 : hasB (M 1 4) (6 - ((n + 1 : Nat) : Int)) = false := by simpa using hb
      cases hv : envR M (setS s (6 - ((n + 1 : Nat) : Int)) 0) (6 - ((n + 1 : Nat) : Int)) (5 - n) with
      | false => rfl
      | true =>
        obtain ⟨j, h1, h2, h3⟩ := envR_true _ hv
        unfold badP at h3
        rw [hb2] at h3
        simp at h3
/-- the same by numbers -/
def tv (M : Nat → Int → Int) : Nat → Int → Int → (Int → Int) → Int → Int
  | 0, left, dg, s, _ => if left = 0 then (if eA M s 6 = true then dg else -6) else -6
  | n + 1, left, dg, s, r =>
    if r < 3 ^ n then tv M n (left - 0) (dg * 10 + (if hasB (M 1 4) (6 - ((n + 1 : Nat) : Int)) = true then 0 else 3)) (setS s (6 - ((n + 1 : Nat) : Int)) 0) r
    else if r < 3 ^ n + 3 ^ n then (if hasB (M 1 4) (6 - ((n + 1 : Nat) : Int)) = true then tv M n (left - 1) (dg * 10 + 1) (setS s (6 - ((n + 1 : Nat) : Int)) 1) (r - 3 ^ n) else -6)
    else (if hasB (M 1 4) (6 - ((n + 1 : Nat) : Int)) = true then tv M n (left - 2) (dg * 10 + 2) (setS s (6 - ((n + 1 : Nat) : Int)) 2) (r - (3 ^ n + 3 ^ n)) else -6)
theorem numL_app (V : Int → Int) : ∀ (a b : Nat) (st : Int), numL V (a + b) st = numL V a st ++ numL V b (st + a)
  | 0, b, st => by simp [numL]
  | a + 1, b, st => by
    rw [show a + 1 + b = (a + b) + 1 by omega]
    show (if 0 ≤ V st then [V st] else []) ++ numL V (a + b) (st + 1) = ((if 0 ≤ V st then [V st] else []) ++ numL V a (st + 1)) ++ numL V b (st + ((a + 1 : Nat) : Int))
    rw [numL_app V a b (st + 1), List.append_assoc, show st + 1 + (a : Int) = st + ((a + 1 : Nat) : Int) by omega]
theorem numL_congr {V V' : Int → Int} : ∀ (m : Nat) (a a' : Int), (∀ i : Int, 0 ≤ i → i < m → V (a + i) = V' (a' + i)) → numL V m a = numL V' m a'
  | 0, _, _, _ => rfl
  | m + 1, a, a', h => by
    have h0 := h 0 (by omega) (by omega)
    rw [Int.add_zero, Int.add_zero] at h0
    unfold numL
    rw [h0, numL_congr m (a + 1) (a' + 1) (fun i i0 i1 => by
      have := h (1 + i) (by omega) (by omega)
      rw [← Int.add_assoc, ← Int.add_assoc] at this
      exact this)]
theorem numL_none {V : Int → Int} : ∀ (m : Nat) (a : Int), (∀ i : Int, 0 ≤ i → i < m → V (a + i) < 0) → numL V m a = []
  | 0, _, _ => rfl
  | m + 1, a, h => by
    have h0 := h 0 (by omega) (by omega)
    rw [Int.add_zero] at h0
    unfold numL
    rw [if_neg (by omega), numL_none m (a + 1) (fun i i0 i1 => by
      have := h (1 + i) (by omega) (by omega)
      rw [← Int.add_assoc] at this
      exact this)]
    rfl
theorem ful_num (M : Nat → Int → Int) : ∀ (n : Nat) (left dg : Int) (s : Int → Int), 0 ≤ dg → fulL M n left dg s = numL (tv M n left dg s) (3 ^ n) 0
  | 0, left, dg, s, h => by
    unfold fulL
    rw [show 3 ^ 0 = 0 + 1 from rfl]
    unfold numL numL tv
    by_cases c1 : left = 0
    · rw [if_pos c1]
      by_cases c2 : eA M s 6 = true
      · simp [c1, c2, h]
      · simp [c1, c2]
    · simp [c1]
  | n + 1, left, dg, s, h => by
    have hp : (3 : Nat) ^ (n + 1) = 3 ^ n + (3 ^ n + 3 ^ n) := by rw [Nat.pow_succ]; omega
    have hc : (((3 : Nat) ^ n : Nat) : Int) = 3 ^ n := by simp
    have hpos : (0 : Int) < 3 ^ n := by rw [← hc]; have := Nat.pow_pos (n := n) (show 0 < 3 by decide); omega
    rw [hp, numL_app, numL_app, hc, Int.zero_add]
    have e0 : numL (tv M (n + 1) left dg s) (3 ^ n) 0 = numL (tv M n (left - 0) (dg * 10 + (if hasB (M 1 4) (6 - ((n + 1 : Nat) : Int)) = true then 0 else 3)) (setS s (6 - ((n + 1 : Nat) : Int)) 0)) (3 ^ n) 0 := by
      refine numL_congr _ _ _ (fun i i0 i1 => ?_)
      rw [hc] at i1
      rw [Int.zero_add]
      conv => lhs; unfold tv
      rw [if_pos i1]
    by_cases hb : hasB (M 1 4) (6 - ((n + 1 : Nat) : Int)) = true
    · have e1 : numL (tv M (n + 1) left dg s) (3 ^ n) (3 ^ n) = numL (tv M n (left - 1) (dg * 10 + 1) (setS s (6 - ((n + 1 : Nat) : Int)) 1)) (3 ^ n) 0 := by
        refine numL_congr _ _ _ (fun i i0 i1 => ?_)
        rw [hc] at i1
        rw [Int.zero_add]
        conv => lhs; unfold tv
        rw [if_neg (by omega), if_pos (by omega), if_pos hb, show (3 : Int) ^ n + i - 3 ^ n = i by omega]
      have e2 : numL (tv M (n + 1) left dg s) (3 ^ n) (3 ^ n + 3 ^ n) = numL (tv M n (left - 2) (dg * 10 + 2) (setS s (6 - ((n + 1 : Nat) : Int)) 2)) (3 ^ n) 0 := by
        refine numL_congr _ _ _ (fun i i0 i1 => ?_)
        rw [hc] at i1
        rw [Int.zero_add]
        conv => lhs; unfold tv
        rw [if_neg (by omega), if_neg (by omega), if_pos hb, show (3 : Int) ^ n + 3 ^ n + i - (3 ^ n + 3 ^ n) = i by omega]
      rw [e0, e1, e2, if_pos hb]
      unfold fulL
      rw [if_pos hb, ful_num M n _ _ _ (show 0 ≤ dg * 10 + 0 by omega), ful_num M n _ _ _ (show 0 ≤ dg * 10 + 1 by omega), ful_num M n _ _ _ (show 0 ≤ dg * 10 + 2 by omega)]
    · have e1 : numL (tv M (n + 1) left dg s) (3 ^ n) (3 ^ n) = [] := by
        refine numL_none _ _ (fun i i0 i1 => ?_)
        rw [hc] at i1
        unfold tv
        rw [if_neg (by omega), if_pos (by omega), if_neg hb]
        decide
      have e2 : numL (tv M (n + 1) left dg s) (3 ^ n) (3 ^ n + 3 ^ n) = [] := by
        refine numL_none _ _ (fun i i0 i1 => ?_)
        rw [hc] at i1
        unfold tv
        rw [if_neg (by omega), if_neg (by omega), if_neg hb]
        decide
      rw [e0, e1, e2, if_neg hb]
      unfold fulL
      rw [if_neg hb, ful_num M n _ _ _ (show 0 ≤ dg * 10 + 3 by omega), Int.sub_zero]
      simp
