/-! ## keeps and plan: the least halves and the first way, by pure reckoning -/
def bst (f : Nat → Int) : Nat → Int
  | 0 => 1000
  | k + 1 => if f k < bst f k then f k else bst f k
def pck (f : Nat → Int) : Nat → Int
  | 0 => -6
  | k + 1 => if f k < bst f k then (k : Int) else pck f k
theorem bst_s (f : Nat → Int) (k : Nat) : bst f (k + 1) = if f k < bst f k then f k else bst f k := rfl
theorem pck_s (f : Nat → Int) (k : Nat) : pck f (k + 1) = if f k < bst f k then (k : Int) else pck f k := rfl
theorem bst_le (f : Nat → Int) : ∀ k : Nat, bst f k ≤ 1000 ∧ ∀ i, i < k → bst f k ≤ f i := by
  intro k
  induction k with
  | zero => exact ⟨Int.le_refl _, fun i h => absurd h (by omega)⟩
  | succ k ih =>
    rw [bst_s]
    by_cases c : f k < bst f k
    · rw [if_pos c]
      refine ⟨by omega, fun i hi => ?_⟩
      by_cases e : i = k
      · rw [e]; exact Int.le_refl _
      · have := ih.2 i (by omega)
        omega
    · rw [if_neg c]
      refine ⟨ih.1, fun i hi => ?_⟩
      by_cases e : i = k
      · rw [e]; omega
      · exact ih.2 i (by omega)
theorem bst_nn (f : Nat → Int) : ∀ k : Nat, (∀ i, i < k → 0 ≤ f i) → 0 ≤ bst f k := by
  intro k
  induction k with
  | zero => intro _; show (0 : Int) ≤ 1000; omega
  | succ k ih =>
    intro h
    rw [bst_s]
    split
    · exact h k (by omega)
    · exact ih (fun i hi => h i (by omega))
theorem bst_two {p c : Nat → Int} {n : Nat} (h : ∀ j, j < n → p j = c j ∨ (1000 ≤ p j ∧ (1000 ≤ c j ∨ ∃ i, i < j ∧ c i < c j))) : ∀ k, k ≤ n → bst p k = bst c k ∧ pck p k = pck c k := by
  intro k
  induction k with
  | zero => intro _; exact ⟨rfl, rfl⟩
  | succ k ih =>
    intro hk
    obtain ⟨i1, i2⟩ := ih (by omega)
    rw [bst_s, bst_s, pck_s, pck_s, i1, i2]
    rcases h k (by omega) with e | ⟨e1, e2⟩
    · rw [e]; exact ⟨rfl, rfl⟩
    · have h1 := (bst_le c k).1
      have hp : ¬ p k < bst c k := by omega
      have hc : ¬ c k < bst c k := by
        rcases e2 with e2 | ⟨i, hi, e2⟩
        · omega
        · have := (bst_le c k).2 i hi
          omega
      simp only [hp, hc, if_false, and_self]
theorem bst_ext {p c : Nat → Int} {n : Nat} (h : ∀ j, j < n → p j = c j) : bst p n = bst c n ∧ pck p n = pck c n := bst_two (fun j hj => Or.inl (h j hj)) n (Nat.le_refl n)
theorem bst_skip {f : Nat → Int} {k : Nat} : ∀ m : Nat, (∀ j, k ≤ j → j < k + m → 1000 ≤ f j) → bst f (k + m) = bst f k ∧ pck f (k + m) = pck f k := by
  intro m
  induction m with
  | zero => intro _; exact ⟨rfl, rfl⟩
  | succ m ih =>
    intro h
    have h1 := (bst_le f (k + m)).1
    have h2 := h (k + m) (by omega) (by omega)
    rw [← Nat.add_assoc, bst_s, pck_s, if_neg (by omega), if_neg (by omega)]
    exact ih (fun j j0 j1 => h j j0 (by omega))
theorem pck_first {f : Nat → Int} : ∀ k : Nat, bst f k < 1000 → ∃ i, i < k ∧ pck f k = (i : Int) ∧ f i = bst f k ∧ ∀ j, j < i → f j ≠ bst f k := by
  intro k
  induction k with
  | zero => intro h; exact absurd h (by show ¬ (1000 : Int) < 1000; omega)
  | succ k ih =>
    rw [bst_s, pck_s]
    by_cases c : f k < bst f k
    · rw [if_pos c, if_pos c]
      intro _
      refine ⟨k, by omega, rfl, rfl, fun j hj => ?_⟩
      have := (bst_le f k).2 j hj
      omega
    · rw [if_neg c, if_neg c]
      intro h
      obtain ⟨i, h1, h2, h3, h4⟩ := ih h
      exact ⟨i, by omega, h2, h3, h4⟩
/-- a seat: is a ONE on it, its pace, its youth -/
abbrev qT : Type := Bool × Int × Int
def stp (q : qT) (e x : Int) : Int := agH q.1 q.2.1 q.2.2 x e
def okE (q : qT) (v e x : Int) : Bool := if q.1 = true then decide (stp q e x ≤ v) else decide (e = 0)
def lst (q : qT) (v m x : Int) : Bool := !q.1 || decide (min 99 (x + m * q.2.1) ≤ v)
def okP (q : qT) (v m e x : Int) : Bool := okE q v e x && (decide (e = 0) || !lst q v m x)
def rgE (q : qT) (x : Int) : Prop := q.1 = true → (0 ≤ q.2.1 ∧ q.2.1 ≤ 9) ∧ 0 ≤ q.2.2 ∧ q.2.2 ≤ x ∧ x ≤ 99
theorem stp_no {q : qT} (h : q.1 = false) (e x : Int) : stp q e x = x := by unfold stp agH; rw [h]; rfl
theorem stp_yes {q : qT} (h : q.1 = true) (e x : Int) : stp q e x = if e = 1 then x else if e = 0 then min 99 (x + q.2.1) else max q.2.2 (x - q.2.1) := by unfold stp agH; rw [if_pos h]
theorem stp_rg {q : qT} {e x : Int} (h : rgE q x) : rgE q (stp q e x) := by
  intro hq
  have := h hq
  rw [stp_yes hq]
  refine ⟨this.1, this.2.1, ?_⟩
  split
  · omega
  · split <;> omega
theorem lst_mul {q : qT} {v m x : Int} : lst q v (m + 1) x = (!q.1 || decide (min 99 (x + m * q.2.1 + q.2.1) ≤ v)) := by
  unfold lst
  rw [Int.add_mul, Int.one_mul, Int.add_assoc]
theorem lst_step {q : qT} {v m x e : Int} (hm : 0 ≤ m) (hx : rgE q x) (k : lst q v (m + 1) x = true) : lst q v m (stp q e x) = true ∧ okE q v e x = (if q.1 = true then true else decide (e = 0)) := by
  rw [lst_mul] at k
  cases hq : q.1 with
  | false =>
    unfold lst okE
    rw [hq]
    exact ⟨rfl, rfl⟩
  | true =>
    rw [hq] at k
    have k2 : min 99 (x + m * q.2.1 + q.2.1) ≤ v := by simpa using k
    have h := hx hq
    have hmul : 0 ≤ m * q.2.1 := Int.mul_nonneg hm h.1.1
    unfold lst okE
    rw [hq, stp_yes hq]
    generalize m * q.2.1 = w at *
    have h1 : (if e = 1 then x else if e = 0 then min 99 (x + q.2.1) else max q.2.2 (x - q.2.1)) ≤ min 99 (x + q.2.1) := by
      split
      · omega
      · split <;> omega
    refine ⟨?_, ?_⟩
    · rw [decide_eq_true (by omega)]; rfl
    · rw [if_pos rfl, if_pos rfl, decide_eq_true (by omega)]
def cst (n : Int) (o0 o1 o2 : Int → Bool) (g : Int → Int → Int → Int) (k : Nat) : Int :=
  if ((k : Int) / 9 + (k : Int) / 3 % 3 + (k : Int) % 3 ≤ n) ∧ o0 ((k : Int) / 9) = true ∧ o1 ((k : Int) / 3 % 3) = true ∧ o2 ((k : Int) % 3) = true then ((k : Int) / 9 + (k : Int) / 3 % 3 + (k : Int) % 3) + g ((k : Int) / 9) ((k : Int) / 3 % 3) ((k : Int) % 3) else 1000
def lf (q0 q1 q2 : qT) (n v : Int) : Nat → Int → Int → Int → Int
  | 0, _, _, _ => 0
  | d + 1, x, y, z => bst (cst n (fun e => okE q0 v e x) (fun e => okE q1 v e y) (fun e => okE q2 v e z) (fun e0 e1 e2 => lf q0 q1 q2 n v d (stp q0 e0 x) (stp q1 e1 y) (stp q2 e2 z))) 27
def lfP (q0 q1 q2 : qT) (n v : Int) : Nat → Int → Int → Int → Int
  | 0, _, _, _ => 0
  | d + 1, x, y, z => bst (cst n (fun e => okP q0 v ((d + 1 : Nat) : Int) e x) (fun e => okP q1 v ((d + 1 : Nat) : Int) e y) (fun e => okP q2 v ((d + 1 : Nat) : Int) e z) (fun e0 e1 e2 => lfP q0 q1 q2 n v d (stp q0 e0 x) (stp q1 e1 y) (stp q2 e2 z))) 27
/-- what each way costs, d + 1 days being left -/
def cU (q0 q1 q2 : qT) (n v : Int) (d : Nat) (x y z : Int) : Nat → Int := cst n (fun e => okE q0 v e x) (fun e => okE q1 v e y) (fun e => okE q2 v e z) (fun e0 e1 e2 => lf q0 q1 q2 n v d (stp q0 e0 x) (stp q1 e1 y) (stp q2 e2 z))
def cP (q0 q1 q2 : qT) (n v : Int) (d : Nat) (x y z : Int) : Nat → Int := cst n (fun e => okP q0 v ((d + 1 : Nat) : Int) e x) (fun e => okP q1 v ((d + 1 : Nat) : Int) e y) (fun e => okP q2 v ((d + 1 : Nat) : Int) e z) (fun e0 e1 e2 => lfP q0 q1 q2 n v d (stp q0 e0 x) (stp q1 e1 y) (stp q2 e2 z))
theorem lf_s (q0 q1 q2 : qT) (n v : Int) (d : Nat) (x y z : Int) : lf q0 q1 q2 n v (d + 1) x y z = bst (cU q0 q1 q2 n v d x y z) 27 := rfl
theorem lfP_s (q0 q1 q2 : qT) (n v : Int) (d : Nat) (x y z : Int) : lfP q0 q1 q2 n v (d + 1) x y z = bst (cP q0 q1 q2 n v d x y z) 27 := rfl
def Rl (q : qT) (v m x x' : Int) : Prop := x = x' ∨ (lst q v m x = true ∧ lst q v m x' = true)
theorem Rl_step {q : qT} {v e x x' : Int} {d : Nat} (h : rgE q x) (h' : rgE q x') (k : Rl q v ((d + 1 : Nat) : Int) x x') : okE q v e x = okE q v e x' ∧ Rl q v (d : Int) (stp q e x) (stp q e x') := by
  rcases k with k | ⟨k1, k2⟩
  · subst k; exact ⟨rfl, Or.inl rfl⟩
  · have e1 : ((d + 1 : Nat) : Int) = (d : Int) + 1 := by omega
    rw [e1] at k1 k2
    have a := lst_step (e := e) (by omega) h k1
    have b := lst_step (e := e) (by omega) h' k2
    exact ⟨a.2.trans b.2.symm, Or.inr ⟨a.1, b.1⟩⟩
theorem lf_last {q0 q1 q2 : qT} {n v : Int} : ∀ (d : Nat) (x y z x' y' z' : Int), rgE q0 x → rgE q1 y → rgE q2 z → rgE q0 x' → rgE q1 y' → rgE q2 z' → Rl q0 v d x x' → Rl q1 v d y y' → Rl q2 v d z z' → lf q0 q1 q2 n v d x y z = lf q0 q1 q2 n v d x' y' z' := by
  intro d
  induction d with
  | zero => intros; rfl
  | succ d ih =>
    intro x y z x' y' z' a b c a' b' c' r0 r1 r2
    rw [lf_s, lf_s]
    refine (bst_ext (fun k hk => ?_)).1
    unfold cU cst
    dsimp only
    have h0 := Rl_step (e := (k : Int) / 9) a a' r0
    have h1 := Rl_step (e := (k : Int) / 3 % 3) b b' r1
    have h2 := Rl_step (e := (k : Int) % 3) c c' r2
    simp only [h0.1, h1.1, h2.1]
    rw [ih _ _ _ _ _ _ (stp_rg a) (stp_rg b) (stp_rg c) (stp_rg a') (stp_rg b') (stp_rg c') h0.2 h1.2 h2.2]
theorem lf_rng {q0 q1 q2 : qT} {n v : Int} : ∀ (d : Nat) (x y z : Int), 0 ≤ lf q0 q1 q2 n v d x y z ∧ lf q0 q1 q2 n v d x y z ≤ 1000 := by
  intro d
  induction d with
  | zero => intros; exact ⟨Int.le_refl _, by show (0 : Int) ≤ 1000; omega⟩
  | succ d ih =>
    intro x y z
    rw [lf_s]
    refine ⟨bst_nn _ _ (fun i hi => ?_), (bst_le _ _).1⟩
    unfold cU cst
    dsimp only
    have := ih (stp q0 ((i : Int) / 9) x) (stp q1 ((i : Int) / 3 % 3) y) (stp q2 ((i : Int) % 3) z)
    split <;> omega
/-- of a seat that lasts: no meal, and it fits, and what is left does not change -/
theorem zero_meal {q : qT} {v e x : Int} {d : Nat} (h : rgE q x) (ho : okE q v e x = true) (he : 0 ≤ e) : ∃ f : Int, 0 ≤ f ∧ f ≤ e ∧ okE q v f x = true ∧ Rl q v (d : Int) (stp q f x) (stp q e x) ∧ (okP q v ((d + 1 : Nat) : Int) e x = false → f < e) ∧ (f = e ∨ f = 0) := by
  cases hl : lst q v ((d + 1 : Nat) : Int) x with
  | false =>
    refine ⟨e, he, Int.le_refl _, ho, Or.inl rfl, fun hp => ?_, Or.inl rfl⟩
    unfold okP at hp
    rw [ho, hl] at hp
    simp at hp
  | true =>
    have e1 : ((d + 1 : Nat) : Int) = (d : Int) + 1 := by omega
    have hl2 := hl
    rw [e1] at hl2
    have a := lst_step (e := e) (by omega) h hl2
    have b := lst_step (e := 0) (by omega) h hl2
    refine ⟨0, Int.le_refl _, he, ?_, Or.inr ⟨b.1, a.1⟩, fun hp => ?_, Or.inr rfl⟩
    · rw [b.2]
      split
      · rfl
      · rfl
    · unfold okP at hp
      rw [ho, hl] at hp
      simp at hp
      omega
theorem lfP_eq {q0 q1 q2 : qT} {n v : Int} : ∀ (d : Nat) (x y z : Int), rgE q0 x → rgE q1 y → rgE q2 z → lfP q0 q1 q2 n v d x y z = lf q0 q1 q2 n v d x y z ∧ pck (cP q0 q1 q2 n v d x y z) 27 = pck (cU q0 q1 q2 n v d x y z) 27 ∧ bst (cP q0 q1 q2 n v d x y z) 27 = bst (cU q0 q1 q2 n v d x y z) 27 := by
  have key : ∀ (d : Nat), (∀ (x y z : Int), rgE q0 x → rgE q1 y → rgE q2 z → lfP q0 q1 q2 n v d x y z = lf q0 q1 q2 n v d x y z) → ∀ (x y z : Int), rgE q0 x → rgE q1 y → rgE q2 z → bst (cP q0 q1 q2 n v d x y z) 27 = bst (cU q0 q1 q2 n v d x y z) 27 ∧ pck (cP q0 q1 q2 n v d x y z) 27 = pck (cU q0 q1 q2 n v d x y z) 27 := by
    intro d ih x y z a b c
    refine bst_two (n := 27) (fun j hj => ?_) 27 (Nat.le_refl _)
    have jd : (0 ≤ (j : Int) / 9 ∧ (j : Int) / 9 < 3) ∧ (0 ≤ (j : Int) / 3 % 3 ∧ (j : Int) / 3 % 3 < 3) ∧ (0 ≤ (j : Int) % 3 ∧ (j : Int) % 3 < 3) ∧ (j : Int) = 9 * ((j : Int) / 9) + 3 * ((j : Int) / 3 % 3) + (j : Int) % 3 := by omega
    unfold cP cU cst
    dsimp only
    generalize (j : Int) / 9 = e0 at *
    generalize (j : Int) / 3 % 3 = e1 at *
    generalize (j : Int) % 3 = e2 at *
    obtain ⟨j0, j1, j2, jj⟩ := jd
    rw [ih _ _ _ (stp_rg a) (stp_rg b) (stp_rg c)]
    by_cases hU : (e0 + e1 + e2 ≤ n) ∧ okE q0 v e0 x = true ∧ okE q1 v e1 y = true ∧ okE q2 v e2 z = true
    · by_cases hP : okP q0 v ((d + 1 : Nat) : Int) e0 x = true ∧ okP q1 v ((d + 1 : Nat) : Int) e1 y = true ∧ okP q2 v ((d + 1 : Nat) : Int) e2 z = true
      · left
        rw [if_pos hU, if_pos ⟨hU.1, hP⟩]
      · right
        rw [if_neg (fun q => hP q.2)]
        refine ⟨Int.le_refl _, Or.inr ?_⟩
        obtain ⟨hn, u0, u1, u2⟩ := hU
        obtain ⟨f0, a1, a2, a3, a4, a5, a6⟩ := zero_meal (d := d) a u0 j0.1
        obtain ⟨f1, b1, b2, b3, b4, b5, b6⟩ := zero_meal (d := d) b u1 j1.1
        obtain ⟨f2, c1, c2, c3, c4, c5, c6⟩ := zero_meal (d := d) c u2 j2.1
        have hlt : f0 < e0 ∨ f1 < e1 ∨ f2 < e2 := by
          by_cases p0 : okP q0 v ((d + 1 : Nat) : Int) e0 x = true
          · by_cases p1 : okP q1 v ((d + 1 : Nat) : Int) e1 y = true
            · by_cases p2 : okP q2 v ((d + 1 : Nat) : Int) e2 z = true
              · exact absurd ⟨p0, p1, p2⟩ hP
              · exact Or.inr (Or.inr (c5 (by simpa using p2)))
            · exact Or.inr (Or.inl (b5 (by simpa using p1)))
          · exact Or.inl (a5 (by simpa using p0))
        refine ⟨(9 * f0 + 3 * f1 + f2).toNat, by omega, ?_⟩
        have g0 : (((9 * f0 + 3 * f1 + f2).toNat : Nat) : Int) / 9 = f0 := by omega
        have g1 : (((9 * f0 + 3 * f1 + f2).toNat : Nat) : Int) / 3 % 3 = f1 := by omega
        have g2 : (((9 * f0 + 3 * f1 + f2).toNat : Nat) : Int) % 3 = f2 := by omega
        rw [g0, g1, g2, if_pos ⟨by omega, a3, b3, c3⟩, if_pos ⟨hn, u0, u1, u2⟩]
        rw [lf_last d _ _ _ _ _ _ (stp_rg a) (stp_rg b) (stp_rg c) (stp_rg a) (stp_rg b) (stp_rg c) a4 b4 c4]
        omega
    · left
      rw [if_neg hU, if_neg (fun q => hU ⟨q.1, ?_⟩)]
      unfold okP at q
      simp only [Bool.and_eq_true] at q
      exact ⟨q.2.1.1, q.2.2.1.1, q.2.2.2.1⟩
  have main : ∀ (d : Nat) (x y z : Int), rgE q0 x → rgE q1 y → rgE q2 z → lfP q0 q1 q2 n v d x y z = lf q0 q1 q2 n v d x y z := by
    intro d
    induction d with
    | zero => intros; rfl
    | succ d ih =>
      intro x y z a b c
      rw [lfP_s, lf_s]
      exact (key d ih x y z a b c).1
  intro d x y z a b c
  exact ⟨main d x y z a b c, (key d (main d) x y z a b c).2, (key d (main d) x y z a b c).1⟩
/-! ## how many ages there can be -/
def oth (q : qT) (p c : Int) : Int := if stp q 0 c = p ∨ stp q 0 c = c then stp q 2 c else stp q 0 c
def chn (q : qT) : Nat → Int → Int → Int
  | 0, _, c => c
  | n + 1, p, c => chn q n c (oth q p c)
def goodC (q : qT) (p c : Int) : Prop := rgE q c ∧ ((stp q 0 c = p ∨ stp q 0 c = c) ∨ (stp q 2 c = p ∨ stp q 2 c = c))
theorem good_mv {q : qT} {x e : Int} (h : rgE q x) (he : e ≠ 1) : (stp q 0 (stp q e x) = x ∨ stp q 0 (stp q e x) = stp q e x) ∨ (stp q 2 (stp q e x) = x ∨ stp q 2 (stp q e x) = stp q e x) := by
  cases hq : q.1 with
  | false =>
    rw [stp_no hq, stp_no hq]
    exact Or.inl (Or.inl rfl)
  | true =>
    have := h hq
    simp only [stp_yes hq]
    simp only [show ¬ ((0 : Int) = 1) by omega, show ¬ ((2 : Int) = 1) by omega, show ¬ ((2 : Int) = 0) by omega, if_false, if_true]
    · by_cases e0 : e = 0
      · simp only [e0, show ¬ ((0 : Int) = 1) by omega, if_false, if_true]
        omega
      · simp only [he, e0, if_false]
        have hw : (max q.2.2 (x - q.2.1) = q.2.2 ∧ x - q.2.1 ≤ q.2.2) ∨ (max q.2.2 (x - q.2.1) = x - q.2.1 ∧ q.2.2 ≤ x - q.2.1) := by omega
        generalize max q.2.2 (x - q.2.1) = w at hw ⊢
        omega
theorem good_oth {q : qT} {p c : Int} (h : goodC q p c) : goodC q c (oth q p c) := by
  unfold oth
  split
  · exact ⟨stp_rg h.1, good_mv h.1 (by decide)⟩
  · exact ⟨stp_rg h.1, good_mv h.1 (by decide)⟩
theorem chn_cl {q : qT} {e : Int} (he : e = 0 ∨ e = 2) : ∀ (n : Nat) (p c : Int), goodC q p c → stp q e (chn q n p c) = p ∨ ∃ i, i ≤ n + 1 ∧ stp q e (chn q n p c) = chn q i p c := by
  intro n
  induction n with
  | zero =>
    intro p c h
    show stp q e c = p ∨ ∃ i, i ≤ 0 + 1 ∧ stp q e c = chn q i p c
    have hc : stp q e c = p ∨ stp q e c = c ∨ stp q e c = oth q p c := by
      unfold oth
      obtain ⟨-, h⟩ := h
      by_cases g : stp q 0 c = p ∨ stp q 0 c = c
      · rw [if_pos g]
        rcases he with he | he <;> subst he
        · rcases g with g | g
          · exact Or.inl g
          · exact Or.inr (Or.inl g)
        · exact Or.inr (Or.inr rfl)
      · rw [if_neg g]
        rcases he with he | he <;> subst he
        · exact Or.inr (Or.inr rfl)
        · rcases h with h | h | h
          · exact absurd h g
          · exact Or.inl h
          · exact Or.inr (Or.inl h)
    rcases hc with hc | hc | hc
    · exact Or.inl hc
    · exact Or.inr ⟨0, by omega, hc⟩
    · exact Or.inr ⟨1, by omega, hc⟩
  | succ n ih =>
    intro p c h
    show stp q e (chn q n c (oth q p c)) = p ∨ ∃ i, i ≤ n + 1 + 1 ∧ stp q e (chn q n c (oth q p c)) = chn q i p c
    rcases ih c (oth q p c) (good_oth h) with g | ⟨i, g0, g⟩
    · exact Or.inr ⟨0, by omega, g⟩
    · exact Or.inr ⟨i + 1, by omega, g⟩
def RcL (q : qT) (x0 : Int) : Nat → List Int
  | 0 => [x0]
  | d + 1 => RcL q x0 d ++ [chn q d x0 (stp q 0 x0), chn q d x0 (stp q 2 x0)]
theorem RcL_len (q : qT) (x0 : Int) : ∀ d : Nat, (RcL q x0 d).length = 2 * d + 1 := by
  intro d
  induction d with
  | zero => rfl
  | succ d ih =>
    show (RcL q x0 d ++ [chn q d x0 (stp q 0 x0), chn q d x0 (stp q 2 x0)]).length = _
    rw [List.length_append, ih]
    simp
    omega
theorem RcL_mem {q : qT} {x0 a : Int} : ∀ d : Nat, a ∈ RcL q x0 d ↔ (a = x0 ∨ ∃ i, i < d ∧ (a = chn q i x0 (stp q 0 x0) ∨ a = chn q i x0 (stp q 2 x0))) := by
  intro d
  induction d with
  | zero =>
    show a ∈ [x0] ↔ _
    simp
  | succ d ih =>
    show a ∈ RcL q x0 d ++ [chn q d x0 (stp q 0 x0), chn q d x0 (stp q 2 x0)] ↔ _
    rw [List.mem_append, ih]
    constructor
    · rintro ((h | ⟨i, h1, h2⟩) | h)
      · exact Or.inl h
      · exact Or.inr ⟨i, by omega, h2⟩
      · refine Or.inr ⟨d, by omega, ?_⟩
        simpa using h
    · rintro (h | ⟨i, h1, h2⟩)
      · exact Or.inl (Or.inl h)
      · by_cases e : i = d
        · subst e
          exact Or.inr (by simpa using h2)
        · exact Or.inl (Or.inr ⟨i, by omega, h2⟩)
theorem RcL_up {q : qT} {x0 a : Int} {d : Nat} (h : a ∈ RcL q x0 d) : a ∈ RcL q x0 (d + 1) := by
  show a ∈ RcL q x0 d ++ _
  exact List.mem_append.mpr (Or.inl h)
theorem RcL_step {q : qT} {x0 a e : Int} {d : Nat} (hr : rgE q x0) (he : 0 ≤ e ∧ e ≤ 2) (h : a ∈ RcL q x0 d) : stp q e a ∈ RcL q x0 (d + 1) := by
  by_cases e1 : e = 1
  · have : stp q e a = a := by
      unfold stp agH
      simp only [e1, if_true]
      split <;> rfl
    rw [this]
    exact RcL_up h
  · have he2 : e = 0 ∨ e = 2 := by omega
    have g0 : goodC q x0 (stp q 0 x0) := ⟨stp_rg hr, good_mv hr (by decide)⟩
    have g2 : goodC q x0 (stp q 2 x0) := ⟨stp_rg hr, good_mv hr (by decide)⟩
    rw [RcL_mem]
    rcases (RcL_mem d).mp h with h | ⟨i, hi, h | h⟩
    · rw [h]
      refine Or.inr ⟨0, by omega, ?_⟩
      rcases he2 with he2 | he2 <;> subst he2
      · exact Or.inl rfl
      · exact Or.inr rfl
    · rw [h]
      rcases chn_cl he2 i _ _ g0 with g | ⟨j, j0, g⟩
      · exact Or.inl g
      · exact Or.inr ⟨j, by omega, Or.inl g⟩
    · rw [h]
      rcases chn_cl he2 i _ _ g2 with g | ⟨j, j0, g⟩
      · exact Or.inl g
      · exact Or.inr ⟨j, by omega, Or.inr g⟩
theorem pige : ∀ (n : Nat) (L : List Int) (f : Nat → Int), (∀ i, i < n → f i ∈ L) → (∀ i j, i < n → j < n → f i = f j → i = j) → n ≤ L.length := by
  intro n
  induction n with
  | zero => intros; exact Nat.zero_le _
  | succ n ih =>
    intro L f h1 h2
    have hm := h1 n (by omega)
    have := ih (L.erase (f n)) f (fun i hi => (List.mem_erase_of_ne (fun e => by have := h2 i n (by omega) (by omega) e; omega)).mpr (h1 i (by omega))) (fun i j hi hj => h2 i j (by omega) (by omega))
    rw [List.length_erase_of_mem hm] at this
    have : 0 < L.length := List.length_pos_of_mem hm
    omega
/-- ages that differ, each of them reached within d days: there are at most 2 d + 1 -/
theorem age_cnt {q : qT} {x0 : Int} {d : Nat} {n : Int} {f : Int → Int} (h1 : ∀ i : Int, 0 ≤ i → i < n → f i ∈ RcL q x0 d) (h2 : ∀ i j : Int, 0 ≤ i → i < j → j < n → f i ≠ f j) : n ≤ 2 * (d : Int) + 1 := by
  have := pige n.toNat (RcL q x0 d) (fun i => f i) (fun i hi => h1 i (by omega) (by omega)) (fun i j hi hj e => by
    rcases Nat.lt_trichotomy i j with g | g | g
    · exact absurd e (h2 i j (by omega) (by omega) (by omega))
    · exact g
    · exact absurd e.symm (h2 j i (by omega) (by omega) (by omega)))
  rw [RcL_len] at this
  omega
