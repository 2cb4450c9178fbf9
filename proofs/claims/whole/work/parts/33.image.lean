section IMG
variable {l : Launch} {z d : Nat} {X : jX} {M : Nat → Int → Int} {Q : Option jV → jM → Prop}
theorem c_tk_12_1 (k : ∀ M' : Nat → Int → Int, M' 12 4 = M 1 4 → M' 12 5 = M 1 5 → M' 12 6 = M 1 6 → M' 12 7 = M 1 7 → M' 13 = (fun i => if 0 ≤ i ∧ i < 6 then M 2 i else M 13 i) → M' 14 = (fun i => if 0 ≤ i ∧ i < 6 then M 3 i else M 14 i) → M' 15 = (fun i => if 0 ≤ i ∧ i < 6 then M 4 i else M 15 i) → M' 16 = (fun i => if 0 ≤ i ∧ i < 6 then M 5 i else M 16 i) → (∀ c : Nat, (c < 12 ∨ 16 < c) → M' c = M c) → (∀ i : Int, i < 4 ∨ 7 < i → M' 12 i = M 12 i) → Q none (jG, M')) : J l z X (d + 1) mX1_takeOver (0, 0) 0 [jR 12, jR 1] [] (jG, M) Q := by
  refine b_X1_takeOver_0 hi_12 hi_1 (k _ ?_ ?_ ?_ ?_ ?_ ?_ ?_ ?_ ?_ ?_)
  · simp [jupd_c, jcpy_c]
  · simp [jupd_c, jcpy_c]
  · simp [jupd_c, jcpy_c]
  · simp [jupd_c, jcpy_c]
  · simp [jupd_c, jcpy_c]
  · simp [jupd_c, jcpy_c]
  · simp [jupd_c, jcpy_c]
  · simp [jupd_c, jcpy_c]
  · intro c hc
    have n0 : c ≠ 12 := by omega
    have n1 : c ≠ 13 := by omega
    have n2 : c ≠ 14 := by omega
    have n3 : c ≠ 15 := by omega
    have n4 : c ≠ 16 := by omega
    simp [jupd_c, jcpy_c, n0, n1, n2, n3, n4]
  · intro i hi
    have n0 : i ≠ 4 := by omega
    have n1 : i ≠ 5 := by omega
    have n2 : i ≠ 6 := by omega
    have n3 : i ≠ 7 := by omega
    simp [jupd_c, jcpy_c, n0, n1, n2, n3]
theorem c_tk_72_1 (k : ∀ M' : Nat → Int → Int, M' 72 4 = M 1 4 → M' 72 5 = M 1 5 → M' 72 6 = M 1 6 → M' 72 7 = M 1 7 → M' 73 = (fun i => if 0 ≤ i ∧ i < 6 then M 2 i else M 73 i) → M' 74 = (fun i => if 0 ≤ i ∧ i < 6 then M 3 i else M 74 i) → M' 75 = (fun i => if 0 ≤ i ∧ i < 6 then M 4 i else M 75 i) → M' 76 = (fun i => if 0 ≤ i ∧ i < 6 then M 5 i else M 76 i) → (∀ c : Nat, (c < 72 ∨ 76 < c) → M' c = M c) → (∀ i : Int, i < 4 ∨ 7 < i → M' 72 i = M 72 i) → Q none (jG, M')) : J l z X (d + 1) mX1_takeOver (0, 0) 0 [jR 72, jR 1] [] (jG, M) Q := by
  refine b_X1_takeOver_0 hi_72 hi_1 (k _ ?_ ?_ ?_ ?_ ?_ ?_ ?_ ?_ ?_ ?_)
  · simp [jupd_c, jcpy_c]
  · simp [jupd_c, jcpy_c]
  · simp [jupd_c, jcpy_c]
  · simp [jupd_c, jcpy_c]
  · simp [jupd_c, jcpy_c]
  · simp [jupd_c, jcpy_c]
  · simp [jupd_c, jcpy_c]
  · simp [jupd_c, jcpy_c]
  · intro c hc
    have n0 : c ≠ 72 := by omega
    have n1 : c ≠ 73 := by omega
    have n2 : c ≠ 74 := by omega
    have n3 : c ≠ 75 := by omega
    have n4 : c ≠ 76 := by omega
    simp [jupd_c, jcpy_c, n0, n1, n2, n3, n4]
  · intro i hi
    have n0 : i ≠ 4 := by omega
    have n1 : i ≠ 5 := by omega
    have n2 : i ≠ 6 := by omega
    have n3 : i ≠ 7 := by omega
    simp [jupd_c, jcpy_c, n0, n1, n2, n3]
theorem c_tk_79_1 (k : ∀ M' : Nat → Int → Int, M' 79 4 = M 1 4 → M' 79 5 = M 1 5 → M' 79 6 = M 1 6 → M' 79 7 = M 1 7 → M' 80 = (fun i => if 0 ≤ i ∧ i < 6 then M 2 i else M 80 i) → M' 81 = (fun i => if 0 ≤ i ∧ i < 6 then M 3 i else M 81 i) → M' 82 = (fun i => if 0 ≤ i ∧ i < 6 then M 4 i else M 82 i) → M' 83 = (fun i => if 0 ≤ i ∧ i < 6 then M 5 i else M 83 i) → (∀ c : Nat, (c < 79 ∨ 83 < c) → M' c = M c) → (∀ i : Int, i < 4 ∨ 7 < i → M' 79 i = M 79 i) → Q none (jG, M')) : J l z X (d + 1) mX1_takeOver (0, 0) 0 [jR 79, jR 1] [] (jG, M) Q := by
  refine b_X1_takeOver_0 hi_79 hi_1 (k _ ?_ ?_ ?_ ?_ ?_ ?_ ?_ ?_ ?_ ?_)
  · simp [jupd_c, jcpy_c]
  · simp [jupd_c, jcpy_c]
  · simp [jupd_c, jcpy_c]
  · simp [jupd_c, jcpy_c]
  · simp [jupd_c, jcpy_c]
  · simp [jupd_c, jcpy_c]
  · simp [jupd_c, jcpy_c]
  · simp [jupd_c, jcpy_c]
  · intro c hc
    have n0 : c ≠ 79 := by omega
    have n1 : c ≠ 80 := by omega
    have n2 : c ≠ 81 := by omega
    have n3 : c ≠ 82 := by omega
    have n4 : c ≠ 83 := by omega
    simp [jupd_c, jcpy_c, n0, n1, n2, n3, n4]
  · intro i hi
    have n0 : i ≠ 4 := by omega
    have n1 : i ≠ 5 := by omega
    have n2 : i ≠ 6 := by omega
    have n3 : i ≠ 7 := by omega
    simp [jupd_c, jcpy_c, n0, n1, n2, n3]
theorem c_tk_88_1 (k : ∀ M' : Nat → Int → Int, M' 88 4 = M 1 4 → M' 88 5 = M 1 5 → M' 88 6 = M 1 6 → M' 88 7 = M 1 7 → M' 89 = (fun i => if 0 ≤ i ∧ i < 6 then M 2 i else M 89 i) → M' 90 = (fun i => if 0 ≤ i ∧ i < 6 then M 3 i else M 90 i) → M' 91 = (fun i => if 0 ≤ i ∧ i < 6 then M 4 i else M 91 i) → M' 92 = (fun i => if 0 ≤ i ∧ i < 6 then M 5 i else M 92 i) → (∀ c : Nat, (c < 88 ∨ 92 < c) → M' c = M c) → (∀ i : Int, i < 4 ∨ 7 < i → M' 88 i = M 88 i) → Q none (jG, M')) : J l z X (d + 1) mX1_takeOver (0, 0) 0 [jR 88, jR 1] [] (jG, M) Q := by
  refine b_X1_takeOver_0 hi_88 hi_1 (k _ ?_ ?_ ?_ ?_ ?_ ?_ ?_ ?_ ?_ ?_)
  · simp [jupd_c, jcpy_c]
  · simp [jupd_c, jcpy_c]
  · simp [jupd_c, jcpy_c]
  · simp [jupd_c, jcpy_c]
  · simp [jupd_c, jcpy_c]
  · simp [jupd_c, jcpy_c]
  · simp [jupd_c, jcpy_c]
  · simp [jupd_c, jcpy_c]
  · intro c hc
    have n0 : c ≠ 88 := by omega
    have n1 : c ≠ 89 := by omega
    have n2 : c ≠ 90 := by omega
    have n3 : c ≠ 91 := by omega
    have n4 : c ≠ 92 := by omega
    simp [jupd_c, jcpy_c, n0, n1, n2, n3, n4]
  · intro i hi
    have n0 : i ≠ 4 := by omega
    have n1 : i ≠ 5 := by omega
    have n2 : i ≠ 6 := by omega
    have n3 : i ≠ 7 := by omega
    simp [jupd_c, jcpy_c, n0, n1, n2, n3]
theorem c_tk_1_12 (k : ∀ M' : Nat → Int → Int, M' 1 4 = M 12 4 → M' 1 5 = M 12 5 → M' 1 6 = M 12 6 → M' 1 7 = M 12 7 → M' 2 = (fun i => if 0 ≤ i ∧ i < 6 then M 13 i else M 2 i) → M' 3 = (fun i => if 0 ≤ i ∧ i < 6 then M 14 i else M 3 i) → M' 4 = (fun i => if 0 ≤ i ∧ i < 6 then M 15 i else M 4 i) → M' 5 = (fun i => if 0 ≤ i ∧ i < 6 then M 16 i else M 5 i) → (∀ c : Nat, (c < 1 ∨ 5 < c) → M' c = M c) → (∀ i : Int, i < 4 ∨ 7 < i → M' 1 i = M 1 i) → Q none (jG, M')) : J l z X (d + 1) mX1_takeOver (0, 0) 0 [jR 1, jR 12] [] (jG, M) Q := by
  refine b_X1_takeOver_0 hi_1 hi_12 (k _ ?_ ?_ ?_ ?_ ?_ ?_ ?_ ?_ ?_ ?_)
  · simp [jupd_c, jcpy_c]
  · simp [jupd_c, jcpy_c]
  · simp [jupd_c, jcpy_c]
  · simp [jupd_c, jcpy_c]
  · simp [jupd_c, jcpy_c]
  · simp [jupd_c, jcpy_c]
  · simp [jupd_c, jcpy_c]
  · simp [jupd_c, jcpy_c]
  · intro c hc
    have n0 : c ≠ 1 := by omega
    have n1 : c ≠ 2 := by omega
    have n2 : c ≠ 3 := by omega
    have n3 : c ≠ 4 := by omega
    have n4 : c ≠ 5 := by omega
    simp [jupd_c, jcpy_c, n0, n1, n2, n3, n4]
  · intro i hi
    have n0 : i ≠ 4 := by omega
    have n1 : i ≠ 5 := by omega
    have n2 : i ≠ 6 := by omega
    have n3 : i ≠ 7 := by omega
    simp [jupd_c, jcpy_c, n0, n1, n2, n3]
theorem c_tk_1_79 (k : ∀ M' : Nat → Int → Int, M' 1 4 = M 79 4 → M' 1 5 = M 79 5 → M' 1 6 = M 79 6 → M' 1 7 = M 79 7 → M' 2 = (fun i => if 0 ≤ i ∧ i < 6 then M 80 i else M 2 i) → M' 3 = (fun i => if 0 ≤ i ∧ i < 6 then M 81 i else M 3 i) → M' 4 = (fun i => if 0 ≤ i ∧ i < 6 then M 82 i else M 4 i) → M' 5 = (fun i => if 0 ≤ i ∧ i < 6 then M 83 i else M 5 i) → (∀ c : Nat, (c < 1 ∨ 5 < c) → M' c = M c) → (∀ i : Int, i < 4 ∨ 7 < i → M' 1 i = M 1 i) → Q none (jG, M')) : J l z X (d + 1) mX1_takeOver (0, 0) 0 [jR 1, jR 79] [] (jG, M) Q := by
  refine b_X1_takeOver_0 hi_1 hi_79 (k _ ?_ ?_ ?_ ?_ ?_ ?_ ?_ ?_ ?_ ?_)
  · simp [jupd_c, jcpy_c]
  · simp [jupd_c, jcpy_c]
  · simp [jupd_c, jcpy_c]
  · simp [jupd_c, jcpy_c]
  · simp [jupd_c, jcpy_c]
  · simp [jupd_c, jcpy_c]
  · simp [jupd_c, jcpy_c]
  · simp [jupd_c, jcpy_c]
  · intro c hc
    have n0 : c ≠ 1 := by omega
    have n1 : c ≠ 2 := by omega
    have n2 : c ≠ 3 := by omega
    have n3 : c ≠ 4 := by omega
    have n4 : c ≠ 5 := by omega
    simp [jupd_c, jcpy_c, n0, n1, n2, n3, n4]
  · intro i hi
    have n0 : i ≠ 4 := by omega
    have n1 : i ≠ 5 := by omega
    have n2 : i ≠ 6 := by omega
    have n3 : i ≠ 7 := by omega
    simp [jupd_c, jcpy_c, n0, n1, n2, n3]
theorem c_tk_1_88 (k : ∀ M' : Nat → Int → Int, M' 1 4 = M 88 4 → M' 1 5 = M 88 5 → M' 1 6 = M 88 6 → M' 1 7 = M 88 7 → M' 2 = (fun i => if 0 ≤ i ∧ i < 6 then M 89 i else M 2 i) → M' 3 = (fun i => if 0 ≤ i ∧ i < 6 then M 90 i else M 3 i) → M' 4 = (fun i => if 0 ≤ i ∧ i < 6 then M 91 i else M 4 i) → M' 5 = (fun i => if 0 ≤ i ∧ i < 6 then M 92 i else M 5 i) → (∀ c : Nat, (c < 1 ∨ 5 < c) → M' c = M c) → (∀ i : Int, i < 4 ∨ 7 < i → M' 1 i = M 1 i) → Q none (jG, M')) : J l z X (d + 1) mX1_takeOver (0, 0) 0 [jR 1, jR 88] [] (jG, M) Q := by
  refine b_X1_takeOver_0 hi_1 hi_88 (k _ ?_ ?_ ?_ ?_ ?_ ?_ ?_ ?_ ?_ ?_)
  · simp [jupd_c, jcpy_c]
  · simp [jupd_c, jcpy_c]
  · simp [jupd_c, jcpy_c]
  · simp [jupd_c, jcpy_c]
  · simp [jupd_c, jcpy_c]
  · simp [jupd_c, jcpy_c]
  · simp [jupd_c, jcpy_c]
  · simp [jupd_c, jcpy_c]
  · intro c hc
    have n0 : c ≠ 1 := by omega
    have n1 : c ≠ 2 := by omega
    have n2 : c ≠ 3 := by omega
    have n3 : c ≠ 4 := by omega
    have n4 : c ≠ 5 := by omega
    simp [jupd_c, jcpy_c, n0, n1, n2, n3, n4]
  · intro i hi
    have n0 : i ≠ 4 := by omega
    have n1 : i ≠ 5 := by omega
    have n2 : i ≠ 6 := by omega
    have n3 : i ≠ 7 := by omega
    simp [jupd_c, jcpy_c, n0, n1, n2, n3]
theorem c_ts_84_68 (k : ∀ M' : Nat → Int → Int, M' 84 2 = M 68 2 → M' 85 = (fun i => if 0 ≤ i ∧ i < 8 then M 69 i else M 85 i) → M' 86 = (fun i => if 0 ≤ i ∧ i < 8 then M 70 i else M 86 i) → (∀ c : Nat, (c < 84 ∨ 86 < c) → M' c = M c) → (∀ i : Int, i ≠ 2 → M' 84 i = M 84 i) → Q none (jG, M')) : J l z X (d + 1) mX6_takeOver (0, 0) 0 [jR 84, jR 68] [] (jG, M) Q := by
  refine b_X6_takeOver_0 si_84 si_68 (k _ ?_ ?_ ?_ ?_ ?_)
  · simp [jupd_c, jcpy_c]
  · simp [jupd_c, jcpy_c]
  · simp [jupd_c, jcpy_c]
  · intro c hc
    have n0 : c ≠ 84 := by omega
    have n1 : c ≠ 85 := by omega
    have n2 : c ≠ 86 := by omega
    simp [jupd_c, jcpy_c, n0, n1, n2]
  · intro i hi
    simp [jupd_c, jcpy_c, hi]
theorem c_ts_93_68 (k : ∀ M' : Nat → Int → Int, M' 93 2 = M 68 2 → M' 94 = (fun i => if 0 ≤ i ∧ i < 8 then M 69 i else M 94 i) → M' 95 = (fun i => if 0 ≤ i ∧ i < 8 then M 70 i else M 95 i) → (∀ c : Nat, (c < 93 ∨ 95 < c) → M' c = M c) → (∀ i : Int, i ≠ 2 → M' 93 i = M 93 i) → Q none (jG, M')) : J l z X (d + 1) mX6_takeOver (0, 0) 0 [jR 93, jR 68] [] (jG, M) Q := by
  refine b_X6_takeOver_0 si_93 si_68 (k _ ?_ ?_ ?_ ?_ ?_)
  · simp [jupd_c, jcpy_c]
  · simp [jupd_c, jcpy_c]
  · simp [jupd_c, jcpy_c]
  · intro c hc
    have n0 : c ≠ 93 := by omega
    have n1 : c ≠ 94 := by omega
    have n2 : c ≠ 95 := by omega
    simp [jupd_c, jcpy_c, n0, n1, n2]
  · intro i hi
    simp [jupd_c, jcpy_c, hi]
theorem c_ts_68_84 (k : ∀ M' : Nat → Int → Int, M' 68 2 = M 84 2 → M' 69 = (fun i => if 0 ≤ i ∧ i < 8 then M 85 i else M 69 i) → M' 70 = (fun i => if 0 ≤ i ∧ i < 8 then M 86 i else M 70 i) → (∀ c : Nat, (c < 68 ∨ 70 < c) → M' c = M c) → (∀ i : Int, i ≠ 2 → M' 68 i = M 68 i) → Q none (jG, M')) : J l z X (d + 1) mX6_takeOver (0, 0) 0 [jR 68, jR 84] [] (jG, M) Q := by
  refine b_X6_takeOver_0 si_68 si_84 (k _ ?_ ?_ ?_ ?_ ?_)
  · simp [jupd_c, jcpy_c]
  · simp [jupd_c, jcpy_c]
  · simp [jupd_c, jcpy_c]
  · intro c hc
    have n0 : c ≠ 68 := by omega
    have n1 : c ≠ 69 := by omega
    have n2 : c ≠ 70 := by omega
    simp [jupd_c, jcpy_c, n0, n1, n2]
  · intro i hi
    simp [jupd_c, jcpy_c, hi]
theorem c_ts_68_93 (k : ∀ M' : Nat → Int → Int, M' 68 2 = M 93 2 → M' 69 = (fun i => if 0 ≤ i ∧ i < 8 then M 94 i else M 69 i) → M' 70 = (fun i => if 0 ≤ i ∧ i < 8 then M 95 i else M 70 i) → (∀ c : Nat, (c < 68 ∨ 70 < c) → M' c = M c) → (∀ i : Int, i ≠ 2 → M' 68 i = M 68 i) → Q none (jG, M')) : J l z X (d + 1) mX6_takeOver (0, 0) 0 [jR 68, jR 93] [] (jG, M) Q := by
  refine b_X6_takeOver_0 si_68 si_93 (k _ ?_ ?_ ?_ ?_ ?_)
  · simp [jupd_c, jcpy_c]
  · simp [jupd_c, jcpy_c]
  · simp [jupd_c, jcpy_c]
  · intro c hc
    have n0 : c ≠ 68 := by omega
    have n1 : c ≠ 69 := by omega
    have n2 : c ≠ 70 := by omega
    simp [jupd_c, jcpy_c, n0, n1, n2]
  · intro i hi
    simp [jupd_c, jcpy_c, hi]
/-- the reference's memory behind t of the 45 steps of passAll, from place o of its row on; w: whether it writes -/
def pmV (M : Nat → Int → Int) (o w i : Int) : Int :=
  if w = 0 then M 119 (o + i) else if i < 4 then M 96 i else if i = 4 then M 96 10 else if i < 29 then M (97 + ((i - 5) % 4).toNat) ((i - 5) / 4) else M (101 + ((i - 29) % 2).toNat) ((i - 29) / 2)
def PM (M : Nat → Int → Int) (o w t : Int) : Nat → Int → Int := fun c i =>
  if c = 119 then (if o ≤ i ∧ i < o + t then pmV M o w (i - o) else M 119 i)
  else if c = 96 then (if i = 36 then o + t else if 0 ≤ i ∧ i < 4 then (if i < t then pmV M o w i else M 96 i) else if i = 10 then (if 4 < t then pmV M o w 4 else M 96 10) else M 96 i)
  else if 97 ≤ c ∧ c ≤ 100 ∧ 0 ≤ i ∧ i < 6 then (if 5 + 4 * i + ((c : Int) - 97) < t then pmV M o w (5 + 4 * i + ((c : Int) - 97)) else M c i)
  else if 101 ≤ c ∧ c ≤ 102 ∧ 0 ≤ i ∧ i < 8 then (if 29 + 2 * i + ((c : Int) - 101) < t then pmV M o w (29 + 2 * i + ((c : Int) - 101)) else M c i)
  else M c i
theorem PM_119 {o w t i : Int} : PM M o w t 119 i = if o ≤ i ∧ i < o + t then pmV M o w (i - o) else M 119 i := by simp [PM]
theorem PM_36 {o w t : Int} : PM M o w t 96 36 = o + t := by simp [PM]
theorem PM_37 {o w t : Int} : PM M o w t 96 37 = M 96 37 := by simp [PM]
/-- the place that step t reads or writes in the state -/
theorem PM_step {o w t : Int} {c : Nat} {i : Int} (hc : (c = 96 ∧ 0 ≤ i ∧ i < 4 ∧ t = i) ∨ (c = 96 ∧ i = 10 ∧ t = 4) ∨ (97 ≤ c ∧ c ≤ 100 ∧ 0 ≤ i ∧ i < 6 ∧ t = 5 + 4 * i + ((c : Int) - 97)) ∨ (101 ≤ c ∧ c ≤ 102 ∧ 0 ≤ i ∧ i < 8 ∧ t = 29 + 2 * i + ((c : Int) - 101))) (ht : 0 ≤ t) :
    jupd (jupd (jupd (PM M o w t) 119 (o + t) (pmV M o w t)) 96 36 (o + t + 1)) c i (pmV M o w t) = PM M o w (t + 1) := by
  funext c' i'
  unfold jupd
  by_cases h1 : c' = c ∧ i' = i
  · rw [if_pos h1]
    obtain ⟨rfl, rfl⟩ := h1
    unfold PM
    rcases hc with ⟨rfl, h2, h3, h4⟩ | ⟨rfl, h2, h3⟩ | ⟨h2, h3, h4, h5, h6⟩ | ⟨h2, h3, h4, h5, h6⟩
    · rw [if_neg (by omega), if_pos rfl, if_neg (by omega), if_pos ⟨h2, h3⟩, if_pos (by omega), h4]
    · rw [if_neg (by omega), if_pos rfl, if_neg (by omega), if_neg (by omega), if_pos h2, if_pos (by omega), h3]
    · rw [if_neg (by omega), if_neg (by omega), if_pos ⟨h2, h3, h4, h5⟩, if_pos (by omega), h6]
    · rw [if_neg (by omega), if_neg (by omega), if_neg (by omega), if_pos ⟨h2, h3, h4, h5⟩, if_pos (by omega), h6]
  · rw [if_neg h1]
    by_cases h2 : c' = 96 ∧ i' = 36
    · rw [if_pos h2]
      obtain ⟨rfl, rfl⟩ := h2
      rw [PM_36]
      omega
    · rw [if_neg h2]
      by_cases h3 : c' = 119 ∧ i' = o + t
      · rw [if_pos h3]
        obtain ⟨rfl, rfl⟩ := h3
        rw [PM_119, if_pos (by omega)]
        congr 1
        omega
      · rw [if_neg h3]
        unfold PM
        by_cases e1 : c' = 119
        · rw [if_pos e1, if_pos e1]
          by_cases e2 : o ≤ i' ∧ i' < o + t
          · rw [if_pos e2, if_pos (by omega)]
          · rw [if_neg e2, if_neg (by omega)]
        · rw [if_neg e1, if_neg e1]
          by_cases e2 : c' = 96
          · have e36 : ¬ i' = 36 := by omega
            rw [if_pos e2, if_pos e2, if_neg e36, if_neg e36]
            by_cases e3 : 0 ≤ i' ∧ i' < 4
            · rw [if_pos e3, if_pos e3]
              by_cases e4 : i' < t
              · rw [if_pos e4, if_pos (by omega)]
              · rw [if_neg e4, if_neg (by omega)]
            · rw [if_neg e3, if_neg e3]
              by_cases e4 : i' = 10
              · rw [if_pos e4, if_pos e4]
                by_cases e5 : 4 < t
                · rw [if_pos e5, if_pos (by omega)]
                · rw [if_neg e5, if_neg (by omega)]
              · rw [if_neg e4, if_neg e4]
          · rw [if_neg e2, if_neg e2]
            by_cases e3 : 97 ≤ c' ∧ c' ≤ 100 ∧ 0 ≤ i' ∧ i' < 6
            · rw [if_pos e3, if_pos e3]
              by_cases e4 : 5 + 4 * i' + ((c' : Int) - 97) < t
              · rw [if_pos e4, if_pos (by omega)]
              · rw [if_neg e4, if_neg (by omega)]
            · rw [if_neg e3, if_neg e3]
              by_cases e4 : 101 ≤ c' ∧ c' ≤ 102 ∧ 0 ≤ i' ∧ i' < 8
              · rw [if_pos e4, if_pos e4]
                by_cases e5 : 29 + 2 * i' + ((c' : Int) - 101) < t
                · rw [if_pos e5, if_pos (by omega)]
                · rw [if_neg e5, if_neg (by omega)]
              · rw [if_neg e4, if_neg e4]
theorem pmV_w {o w i : Int} (hw : w ≠ 0) : pmV M o w i = if i < 4 then M 96 i else if i = 4 then M 96 10 else if i < 29 then M (97 + ((i - 5) % 4).toNat) ((i - 5) / 4) else M (101 + ((i - 29) % 2).toNat) ((i - 29) / 2) := by unfold pmV; rw [if_neg hw]
/-- what step t reads there -/
theorem PM_read {o w t : Int} {c : Nat} {i : Int} (hc : (c = 96 ∧ 0 ≤ i ∧ i < 4 ∧ t = i) ∨ (c = 96 ∧ i = 10 ∧ t = 4) ∨ (97 ≤ c ∧ c ≤ 100 ∧ 0 ≤ i ∧ i < 6 ∧ t = 5 + 4 * i + ((c : Int) - 97)) ∨ (101 ≤ c ∧ c ≤ 102 ∧ 0 ≤ i ∧ i < 8 ∧ t = 29 + 2 * i + ((c : Int) - 101))) (hw : w ≠ 0) : PM M o w t c i = pmV M o w t := by
  rw [pmV_w hw]
  unfold PM
  rcases hc with ⟨rfl, h2, h3, h4⟩ | ⟨rfl, h2, h3⟩ | ⟨h2, h3, h4, h5, h6⟩ | ⟨h2, h3, h4, h5, h6⟩
  · rw [if_neg (by omega), if_pos rfl, if_neg (by omega), if_pos ⟨h2, h3⟩, if_neg (by omega), if_pos (by omega), h4]
  · rw [if_neg (by omega), if_pos rfl, if_neg (by omega), if_neg (by omega), if_pos h2, if_neg (by omega), if_neg (by omega), if_pos h3]
  · rw [if_neg (by omega), if_neg (by omega), if_pos ⟨h2, h3, h4, h5⟩, if_neg (by omega), if_neg (by omega), if_neg (by omega), if_pos (by omega)]
    rw [show 97 + ((t - 5) % 4).toNat = c by omega, show (t - 5) / 4 = i by omega]
  · rw [if_neg (by omega), if_neg (by omega), if_neg (by omega), if_pos ⟨h2, h3, h4, h5⟩, if_neg (by omega), if_neg (by omega), if_neg (by omega), if_neg (by omega)]
    rw [show 101 + ((t - 29) % 2).toNat = c by omega, show (t - 29) / 2 = i by omega]
/-- one call of pass, at step t -/
theorem c_pass {o w t x : Int} (ho : 0 ≤ o ∧ o ≤ 60) (ht : 0 ≤ t ∧ t < 60) (hw : M 96 37 = w) (hx : w ≠ 0 → x = pmV M o w t) (k : Q (some (jI (pmV M o w t))) (jG, jupd (jupd (PM M o w t) 119 (o + t) (pmV M o w t)) 96 36 (o + t + 1))) : J l z X d mX10_pass (0, 0) 0 [jR 96, jI x, jN] [] (jG, PM M o w t) Q := by
  have h20 : ∀ v : Int, v = pmV M o w t → J l z X d mX10_pass (0, 0) 20 [jR 96, jI x, jN] [jI v] (jG, PM M o w t) Q := by
    intro v hv
    subst hv
    refine b_X10_pass_20 (by rw [PM_36]; omega) (by rw [PM_36]; omega) ?_ ?_
    · have e : jupd (PM M o w t) 119 (PM M o w t 96 36) (pmV M o w t) 96 36 = o + t := by rw [jupd_h _ _ _ _ (by omega), PM_36]
      rw [e]
      exact jInd (by omega)
    · have e : jupd (PM M o w t) 119 (PM M o w t 96 36) (pmV M o w t) 96 36 = o + t := by rw [jupd_h _ _ _ _ (by omega), PM_36]
      rw [e, PM_36]
      exact k
  refine b_X10_pass_0 (fun _ => by rw [PM_36]; omega) (fun _ => by rw [PM_36]; omega) (fun c => ?_) (fun c => ?_)
  · rw [PM_37, hw] at c
    refine h20 _ ?_
    rw [PM_36, PM_119, if_neg (by omega)]
    unfold pmV
    rw [if_pos c]
  · rw [PM_37, hw] at c
    exact h20 _ (hx c)
theorem PM_0 {o w : Int} (ho : M 96 36 = o) : PM M o w 0 = M := by
  funext c i
  unfold PM
  by_cases e1 : c = 119
  · rw [if_pos e1, if_neg (by omega), e1]
  · rw [if_neg e1]
    by_cases e2 : c = 96
    · rw [if_pos e2]
      subst e2
      by_cases e3 : i = 36
      · rw [if_pos e3, e3, ho]; omega
      · rw [if_neg e3]
        by_cases e4 : 0 ≤ i ∧ i < 4
        · rw [if_pos e4, if_neg (by omega)]
        · rw [if_neg e4]
          by_cases e5 : i = 10
          · rw [if_pos e5, if_neg (by omega), e5]
          · rw [if_neg e5]
    · rw [if_neg e2]
      by_cases e3 : 97 ≤ c ∧ c ≤ 100 ∧ 0 ≤ i ∧ i < 6
      · rw [if_pos e3, if_neg (by omega)]
      · rw [if_neg e3]
        by_cases e4 : 101 ≤ c ∧ c ≤ 102 ∧ 0 ≤ i ∧ i < 8
        · rw [if_pos e4, if_neg (by omega)]
        · rw [if_neg e4]
theorem c_X10_passAll {o w : Int} (ho : 0 ≤ o ∧ o ≤ 60) (ho2 : M 96 36 = o) (hw : M 96 37 = w) (k : Q none (jG, PM M o w 45)) : J l z X (d + 1) mX10_passAll (0, 0) 0 [jR 96, jN] [] (jG, M) Q := by
  have l2 : ∀ (n : Nat) (i : Int), i = 8 - (n : Int) → 0 ≤ i → J l z X (d + 1) mX10_passAll (0, 0) 140 [jR 96, jI i] [] (jG, PM M o w (29 + 2 * i)) Q := by
    intro n
    induction n with
    | zero =>
      intro i hi h0
      refine b_X10_passAll_140 (fun _ => by omega) (fun _ => by omega) (fun _ => ?_) (fun q => absurd q (by omega))
      have e : (29 : Int) + 2 * i = 45 := by omega
      rw [e]
      exact k
    | succ n ih =>
      intro i hi h0
      have hs1 := PM_step (M := M) (o := o) (w := w) (t := 29 + 2 * i) (c := 101) (i := i) (Or.inr (Or.inr (Or.inr ⟨by omega, by omega, h0, by omega, by omega⟩))) (by omega)
      have hs2 := PM_step (M := M) (o := o) (w := w) (t := 29 + 2 * i + 1) (c := 102) (i := i) (Or.inr (Or.inr (Or.inr ⟨by omega, by omega, h0, by omega, by omega⟩))) (by omega)
      refine b_X10_passAll_140 (fun _ => h0) (fun _ => by omega) (fun q => absurd q (by omega)) (fun _ => ?_)
      refine c_pass ho (by omega) hw (fun q => PM_read (Or.inr (Or.inr (Or.inr ⟨by omega, by omega, h0, by omega, by omega⟩))) q) ?_
      refine b_X10_passAll_161 h0 (by omega) h0 (by omega) ?_
      rw [hs1]
      refine c_pass ho (by omega) hw (fun q => PM_read (Or.inr (Or.inr (Or.inr ⟨by omega, by omega, h0, by omega, by omega⟩))) q) ?_
      refine b_X10_passAll_177 h0 (by omega) (jInd (by omega)) ?_
      rw [hs2]
      have e : (29 : Int) + 2 * i + 1 + 1 = 29 + 2 * (i + 1) := by omega
      rw [e]
      exact ih (i + 1) (by omega) (by omega)
  have l1 : ∀ (n : Nat) (i : Int), i = 6 - (n : Int) → 0 ≤ i → J l z X (d + 1) mX10_passAll (0, 0) 62 [jR 96, jI i] [] (jG, PM M o w (5 + 4 * i)) Q := by
    intro n
    induction n with
    | zero =>
      intro i hi h0
      refine b_X10_passAll_62 (fun _ => by omega) (fun _ => by omega) (fun _ => ?_) (fun q => absurd q (by omega))
      have e : (5 : Int) + 4 * i = 29 + 2 * 0 := by omega
      rw [e]
      exact l2 8 0 (by omega) (by omega)
    | succ n ih =>
      intro i hi h0
      have hp : ∀ (c : Nat) (t : Int), 97 ≤ c → c ≤ 100 → t = 5 + 4 * i + ((c : Int) - 97) → ((c = 96 ∧ 0 ≤ i ∧ i < 4 ∧ t = i) ∨ (c = 96 ∧ i = 10 ∧ t = 4) ∨ (97 ≤ c ∧ c ≤ 100 ∧ 0 ≤ i ∧ i < 6 ∧ t = 5 + 4 * i + ((c : Int) - 97)) ∨ (101 ≤ c ∧ c ≤ 102 ∧ 0 ≤ i ∧ i < 8 ∧ t = 29 + 2 * i + ((c : Int) - 101))) := fun c t h1 h2 h3 => Or.inr (Or.inr (Or.inl ⟨h1, h2, h0, by omega, h3⟩))
      have hs1 := PM_step (M := M) (o := o) (w := w) (t := 5 + 4 * i) (c := 97) (i := i) (hp _ _ (by omega) (by omega) (by omega)) (by omega)
      have hs2 := PM_step (M := M) (o := o) (w := w) (t := 5 + 4 * i + 1) (c := 98) (i := i) (hp _ _ (by omega) (by omega) (by omega)) (by omega)
      have hs3 := PM_step (M := M) (o := o) (w := w) (t := 5 + 4 * i + 1 + 1) (c := 99) (i := i) (hp _ _ (by omega) (by omega) (by omega)) (by omega)
      have hs4 := PM_step (M := M) (o := o) (w := w) (t := 5 + 4 * i + 1 + 1 + 1) (c := 100) (i := i) (hp _ _ (by omega) (by omega) (by omega)) (by omega)
      refine b_X10_passAll_62 (fun _ => h0) (fun _ => by omega) (fun q => absurd q (by omega)) (fun _ => ?_)
      refine c_pass ho (by omega) hw (fun q => PM_read (hp _ _ (by omega) (by omega) (by omega)) q) ?_
      refine b_X10_passAll_83 h0 (by omega) h0 (by omega) ?_
      rw [hs1]
      refine c_pass ho (by omega) hw (fun q => PM_read (hp _ _ (by omega) (by omega) (by omega)) q) ?_
      refine b_X10_passAll_99 h0 (by omega) h0 (by omega) ?_
      rw [hs2]
      refine c_pass ho (by omega) hw (fun q => PM_read (hp _ _ (by omega) (by omega) (by omega)) q) ?_
      refine b_X10_passAll_115 h0 (by omega) h0 (by omega) ?_
      rw [hs3]
      refine c_pass ho (by omega) hw (fun q => PM_read (hp _ _ (by omega) (by omega) (by omega)) q) ?_
      refine b_X10_passAll_131 h0 (by omega) (jInd (by omega)) ?_
      rw [hs4]
      have e : (5 : Int) + 4 * i + 1 + 1 + 1 + 1 = 5 + 4 * (i + 1) := by omega
      rw [e]
      exact ih (i + 1) (by omega) (by omega)
  have s0 := PM_step (M := M) (o := o) (w := w) (t := 0) (c := 96) (i := 0) (Or.inl ⟨rfl, by omega, by omega, rfl⟩) (by omega)
  have s1 := PM_step (M := M) (o := o) (w := w) (t := 0 + 1) (c := 96) (i := 1) (Or.inl ⟨rfl, by omega, by omega, rfl⟩) (by omega)
  have s2 := PM_step (M := M) (o := o) (w := w) (t := 0 + 1 + 1) (c := 96) (i := 2) (Or.inl ⟨rfl, by omega, by omega, rfl⟩) (by omega)
  have s3 := PM_step (M := M) (o := o) (w := w) (t := 0 + 1 + 1 + 1) (c := 96) (i := 3) (Or.inl ⟨rfl, by omega, by omega, rfl⟩) (by omega)
  have s4 := PM_step (M := M) (o := o) (w := w) (t := 0 + 1 + 1 + 1 + 1) (c := 96) (i := 10) (Or.inr (Or.inl ⟨rfl, rfl, rfl⟩)) (by omega)
  rw [← PM_0 (w := w) ho2]
  refine b_X10_passAll_0 ?_
  refine c_pass ho (by omega) hw (fun q => PM_read (Or.inl ⟨rfl, by omega, by omega, rfl⟩) q) ?_
  refine b_X10_passAll_9 ?_
  rw [s0]
  refine c_pass ho (by omega) hw (fun q => PM_read (Or.inl ⟨rfl, by omega, by omega, rfl⟩) q) ?_
  refine b_X10_passAll_21 ?_
  rw [s1]
  refine c_pass ho (by omega) hw (fun q => PM_read (Or.inl ⟨rfl, by omega, by omega, rfl⟩) q) ?_
  refine b_X10_passAll_33 ?_
  rw [s2]
  refine c_pass ho (by omega) hw (fun q => PM_read (Or.inl ⟨rfl, by omega, by omega, rfl⟩) q) ?_
  refine b_X10_passAll_45 ?_
  rw [s3]
  refine c_pass ho (by omega) hw (fun q => PM_read (Or.inr (Or.inl ⟨rfl, rfl, rfl⟩)) q) ?_
  refine b_X10_passAll_57 ?_
  rw [s4]
  exact l1 6 0 (by omega) (by omega)
end IMG
