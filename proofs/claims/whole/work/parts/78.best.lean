/-! ## the class's best meals of a day -/
theorem lfP_rng {q0 q1 q2 : qT} {n v : Int} : ∀ (d : Nat) (x y z : Int), 0 ≤ lfP q0 q1 q2 n v d x y z ∧ lfP q0 q1 q2 n v d x y z ≤ 1000 := by
  intro d
  induction d with
  | zero => intros; exact ⟨Int.le_refl _, by show (0 : Int) ≤ 1000; omega⟩
  | succ d ih =>
    intro x y z
    rw [lfP_s]
    refine ⟨bst_nn _ _ (fun i hi => ?_), (bst_le _ _).1⟩
    unfold cP cst
    dsimp only
    have := ih (stp q0 ((i : Int) / 9) x) (stp q1 ((i : Int) / 3 % 3) y) (stp q2 ((i : Int) % 3) z)
    split <;> omega
theorem cst_at {n : Int} {o0 o1 o2 : Int → Bool} {g : Int → Int → Int → Int} {x y z : Nat} (hy : y < 3) (hz : z < 3) : cst n o0 o1 o2 g (9 * x + 3 * y + z) = if ((x : Int) + y + z ≤ n) ∧ o0 x = true ∧ o1 y = true ∧ o2 z = true then (x : Int) + y + z + g x y z else 1000 := by
  unfold cst
  rw [show ((9 * x + 3 * y + z : Nat) : Int) / 9 = x by omega, show ((9 * x + 3 * y + z : Nat) : Int) / 3 % 3 = y by omega, show ((9 * x + 3 * y + z : Nat) : Int) % 3 = z by omega]
theorem mix_lt {a A b B : Int} (ha : 0 ≤ a ∧ a < A) (hb : 0 ≤ b ∧ b < B) : 0 ≤ a * B + b ∧ a * B + b < A * B := by
  have h1 := Int.mul_nonneg ha.1 (show 0 ≤ B by omega)
  have h2 : (a + 1) * B ≤ A * B := Int.mul_le_mul_of_nonneg_right (by omega) (by omega)
  rw [Int.add_mul, Int.one_mul] at h2
  omega
theorem mix_inj {a a' b b' B : Int} (hb : 0 ≤ b ∧ b < B) (hb' : 0 ≤ b' ∧ b' < B) (e : a * B + b = a' * B + b') : a = a' ∧ b = b' := by
  rcases Int.lt_trichotomy a a' with h | h | h
  · have h2 : (a + 1) * B ≤ a' * B := Int.mul_le_mul_of_nonneg_right (by omega) (by omega)
    rw [Int.add_mul, Int.one_mul] at h2
    omega
  · subst h
    exact ⟨rfl, by omega⟩
  · have h2 : (a' + 1) * B ≤ a * B := Int.mul_le_mul_of_nonneg_right (by omega) (by omega)
    rw [Int.add_mul, Int.one_mul] at h2
    omega
def ixC (M : Nat → Int → Int) (d a b c : Int) : Int := M 64 d + (a * M 43 (d * 3 + 1) + b) * M 43 (d * 3 + 2) + c
def fwV (M : Nat → Int → Int) (m d a b c : Int) : Int := if m ≤ d then 0 else M 63 (ixC M d a b c)
def fwO (M : Nat → Int → Int) (m d a b c : Int) : Prop := d < m → (0 ≤ a ∧ a < 13) ∧ (0 ≤ b ∧ b < 13) ∧ (0 ≤ c ∧ c < 13) ∧ (0 ≤ M 43 (d * 3 + 1) ∧ M 43 (d * 3 + 1) ≤ 13) ∧ (0 ≤ M 43 (d * 3 + 2) ∧ M 43 (d * 3 + 2) ≤ 13) ∧ (0 ≤ M 64 d ∧ M 64 d ≤ 2556) ∧ 0 ≤ ixC M d a b c ∧ ixC M d a b c < 2556
section BEST
variable {l : Launch} {z dd : Nat} {X : jX} {M : Nat → Int → Int} {Q : Option jV → jM → Prop}
theorem c_X3_fewestFrom {m d a b c : Int} (h7 : M 19 7 = m) (hm : m ≤ 6) (hd : 0 ≤ d) (ho : fwO M m d a b c) (hk : Q (some (jI (fwV M m d a b c))) (jG, M)) : J l z X (dd + 1) mX3_fewestFrom (0, 0) 0 [jR 19, jI d, jI a, jI b, jI c, jN] [] (jG, M) Q := by
  unfold fwV at hk
  by_cases e : m ≤ d
  · rw [if_pos e] at hk
    exact b_X3_fewestFrom_0 (fun _ _ _ => hd) (fun _ _ _ => by omega) (fun q => absurd q (by omega)) (fun _ _ => hk) (fun _ q => absurd q (by rw [h7]; omega)) (fun _ q => absurd q (by rw [h7]; omega))
  · rw [if_neg e] at hk
    obtain ⟨a1, b1, c1, k1, k2, k3, k4, k5⟩ := ho (by omega)
    have p1 := mul_rng (a := a) (b := M 43 (d * 3 + 1)) (A := 13) (B := 13) (by omega) (by omega)
    have p2 := mul_rng (a := a * M 43 (d * 3 + 1) + b) (b := M 43 (d * 3 + 2)) (A := 200) (B := 13) (by omega) (by omega)
    refine b_X3_fewestFrom_0 (fun _ _ _ => hd) (fun _ _ _ => by omega) (fun q => absurd q (by omega)) (fun _ q => absurd q (by rw [h7]; omega)) (fun _ _ _ => c_X3_countOf (by omega) (by omega) ?_) (fun _ _ q => absurd q (by omega))
    refine b_X3_fewestFrom_33 (jInd (by omega)) (jInd (by omega)) (c_X3_countOf (by omega) (by omega) ?_)
    exact b_X3_fewestFrom_42 (jInd (by omega)) (jInd (by omega)) (jInd (by omega)) (fun q _ => q) (fun _ q => q) (fun q => absurd k4 (by unfold ixC; omega)) (fun _ q => absurd k5 (by unfold ixC; omega)) (fun _ _ => hk)
def mE (M M1 : Nat → Int → Int) : Prop := (∀ c : Nat, c ≠ 19 → M1 c = M c) ∧ ∀ j : Int, j ≠ 10 → M1 19 j = M 19 j
theorem mE_fwO {M M1 : Nat → Int → Int} (h : mE M M1) {m d a b c : Int} : fwO M1 m d a b c = fwO M m d a b c ∧ fwV M1 m d a b c = fwV M m d a b c := by
  unfold fwO fwV ixC
  rw [h.1 43 (by omega), h.1 63 (by omega), h.1 64 (by omega)]
  exact ⟨rfl, rfl⟩
section MEALS
variable {m n d a b c : Int} {o0 o1 o2 : Int → Bool} {g : Int → Int → Int → Int}
/-- what the tables say of the next places of a seat -/
def nxO (M : Nat → Int → Int) (d s i : Int) (o : Int → Bool) : Prop := ∀ e : Int, 0 ≤ e → e < 3 → (o e = true → 0 ≤ M (45 + (d * 3 + s).toNat) (i * 3 + e) ∧ M (45 + (d * 3 + s).toNat) (i * 3 + e) < 13) ∧ (o e = false → M (45 + (d * 3 + s).toNat) (i * 3 + e) < 0)
theorem c_X3_bm_80 (h7 : M 19 7 = m) (hm : m ≤ 6) (hd : 0 ≤ d ∧ d < 6) (hc : 0 ≤ c ∧ c < 13) (hn : M 19 8 = n) (hC : nxO M d 2 c o2) {nA nB : Int} {x y : Nat} (hx : x < 3) (hy : y < 3) (hxy : (x : Int) + y ≤ n) (ox : o0 x = true) (hB : (o1 y = true → 0 ≤ nB) ∧ (o1 y = false → nB < 0))
    (hF : o1 y = true → ∀ e : Int, 0 ≤ e → e < 3 → o2 e = true → fwO M m (d + 1) nA nB (M (45 + (d * 3 + 2).toNat) (c * 3 + e)) ∧ fwV M m (d + 1) nA nB (M (45 + (d * 3 + 2).toNat) (c * 3 + e)) = g x y e ∧ 0 ≤ g x y e ∧ g x y e ≤ 1000)
    (hk : ∀ (M2 : Nat → Int → Int) (z' : Int), mE M M2 → M2 19 10 = pck (cst n o0 o1 o2 g) (9 * x + 3 * y + 3) → J l z X (dd + 2) mX3_bestMeals (0, 0) 186 [jR 19, jI d, jI a, jI b, jI c, jI (bst (cst n o0 o1 o2 g) (9 * x + 3 * y + 3)), jI (x : Int), jI nA, jI (y : Int), jI nB, jI z', jN, jN] [] (jG, M2) Q) : ∀ (k w : Nat) (M1 : Nat → Int → Int), w + k = 3 → mE M M1 → M1 19 10 = pck (cst n o0 o1 o2 g) (9 * x + 3 * y + w) → J l z X (dd + 2) mX3_bestMeals (0, 0) 80 [jR 19, jI d, jI a, jI b, jI c, jI (bst (cst n o0 o1 o2 g) (9 * x + 3 * y + w)), jI (x : Int), jI nA, jI (y : Int), jI nB, jI (w : Int), jN, jN] [] (jG, M1) Q := by
  intro k
  induction k with
  | zero =>
    intro w M1 hw hM hp
    obtain rfl : w = 3 := by omega
    by_cases g1 : nB < 0
    · exact b_X3_bestMeals_80 (fun q => absurd q (by omega)) (fun q => absurd q (by omega)) (fun _ => hk M1 _ hM hp) (fun q => absurd q (by omega)) (fun q => absurd q (by omega)) (fun q => absurd q (by omega))
    · exact b_X3_bestMeals_80 (fun _ q => absurd q (by omega)) (fun _ q => absurd q (by omega)) (fun q => absurd q g1) (fun _ _ => hk M1 _ hM hp) (fun _ q => absurd q (by omega)) (fun _ q => absurd q (by omega))
  | succ k ih =>
    intro w M1 hw hM hp
    have e8 : M1 19 8 = n := by rw [hM.2 8 (by omega)]; exact hn
    have hskip : (∀ j, w ≤ j → j < 3 → cst n o0 o1 o2 g (9 * x + 3 * y + j) = 1000) → bst (cst n o0 o1 o2 g) (9 * x + 3 * y + 3) = bst (cst n o0 o1 o2 g) (9 * x + 3 * y + w) ∧ pck (cst n o0 o1 o2 g) (9 * x + 3 * y + 3) = pck (cst n o0 o1 o2 g) (9 * x + 3 * y + w) := by
      intro h
      have := bst_skip (f := cst n o0 o1 o2 g) (k := 9 * x + 3 * y + w) (k + 1) (fun j j0 j1 => by
        have := h (j - (9 * x + 3 * y)) (by omega) (by omega)
        rw [show 9 * x + 3 * y + (j - (9 * x + 3 * y)) = j by omega] at this
        omega)
      rw [show 9 * x + 3 * y + w + (k + 1) = 9 * x + 3 * y + 3 by omega] at this
      exact this
    by_cases g1 : nB < 0
    · have o1f : ¬ o1 y = true := fun q => absurd (hB.1 q) (by omega)
      obtain ⟨s1, s2⟩ := hskip (fun j j0 j1 => by rw [cst_at hy j1, if_neg (fun q => o1f q.2.2.1)])
      rw [← s1]
      exact b_X3_bestMeals_80 (fun q => absurd q (by omega)) (fun q => absurd q (by omega)) (fun _ => hk M1 _ hM (by rw [hp, s2])) (fun q => absurd q (by omega)) (fun q => absurd q (by omega)) (fun q => absurd q (by omega))
    have oy : o1 y = true := by
      cases h : o1 y with
      | true => rfl
      | false => exact absurd (hB.2 h) g1
    by_cases g2 : n < (x : Int) + y + w
    · obtain ⟨s1, s2⟩ := hskip (fun j j0 j1 => by rw [cst_at hy j1, if_neg (fun q => absurd q.1 (by omega))])
      rw [← s1]
      exact b_X3_bestMeals_80 (fun _ _ => jInd (by omega)) (fun _ _ => jInd (by omega)) (fun q => absurd q g1) (fun _ q => absurd q (by omega)) (fun _ _ _ => hk M1 _ hM (by rw [hp, s2])) (fun _ _ q => absurd q (by rw [e8]; omega))
    have hw3 : w < 3 := by omega
    have hcw := hC (w : Int) (by omega) (by omega)
    have e45 : M1 (45 + (d * 3 + 2).toNat) = M (45 + (d * 3 + 2).toNat) := hM.1 _ (by omega)
    have hf := cst_at (n := n) (o0 := o0) (o1 := o1) (o2 := o2) (g := g) (x := x) (y := y) (z := w) hy hw3
    have h151 : ∀ (x11 t : Int), t = cst n o0 o1 o2 g (9 * x + 3 * y + w) → J l z X (dd + 2) mX3_bestMeals (0, 0) 151 [jR 19, jI d, jI a, jI b, jI c, jI (bst (cst n o0 o1 o2 g) (9 * x + 3 * y + w)), jI (x : Int), jI nA, jI (y : Int), jI nB, jI (w : Int), jI x11, jN] [jI t] (jG, M1) Q := by
      intro x11 t ht
      have r1 := bst_s (cst n o0 o1 o2 g) (9 * x + 3 * y + w)
      have r2 := pck_s (cst n o0 o1 o2 g) (9 * x + 3 * y + w)
      rw [← ht] at r1 r2
      refine b_X3_bestMeals_151 (fun _ => jInd (by omega)) (fun _ => jInd (by omega)) (fun _ => jInd (by omega)) (fun _ => jInd (by omega)) (fun c1 => b_X3_bestMeals_180 (jInd (by omega)) ?_) (fun c1 => b_X3_bestMeals_180 (jInd (by omega)) ?_)
      · rw [if_neg (by omega)] at r1 r2
        rw [← r1, show (w : Int) + 1 = ((w + 1 : Nat) : Int) by omega]
        exact ih (w + 1) M1 (by omega) hM (by rw [hp, ← r2]; rfl)
      · rw [if_pos c1] at r1 r2
        have := ih (w + 1) (jupd M1 19 10 ((((x : Int) * 3) + y) * 3 + w)) (by omega) ⟨fun c' hc' => by rw [jupd_c, if_neg hc']; exact hM.1 c' hc', fun j hj => by rw [jupd_i _ _ _ _ hj]; exact hM.2 j hj⟩ (by
          rw [jupd_s]
          refine Eq.trans ?_ r2.symm
          omega)
        rw [← Nat.add_assoc, r1] at this
        rw [show (w : Int) + 1 = ((w + 1 : Nat) : Int) by omega]
        exact this
    refine b_X3_bestMeals_80 (fun _ _ => jInd (by omega)) (fun _ _ => jInd (by omega)) (fun q => absurd q g1) (fun _ q => absurd q (by omega)) (fun _ _ q => absurd q (by rw [e8]; omega)) (fun _ _ _ => c_X3_next hd (by omega) hc (by omega) ?_)
    rw [e45]
    refine b_X3_bestMeals_116 (fun _ => jInd (by omega)) (fun _ => jInd (by omega)) (fun _ => jInd (by omega)) (fun c1 => ?_) (fun c1 => ?_)
    · have oz : o2 w = true := by
        cases h : o2 w with
        | true => rfl
        | false => exact absurd (hcw.2 h) (by omega)
      obtain ⟨F1, F2, F3⟩ := hF oy w (by omega) (by omega) oz
      refine c_X3_fewestFrom (m := m) (by rw [hM.2 7 (by omega)]; exact h7) hm (by omega) (by rw [(mE_fwO hM).1]; exact F1) ?_
      rw [(mE_fwO hM).2, F2]
      refine b_X3_bestMeals_150 (jInd (by omega)) (h151 _ _ ?_)
      rw [hf, if_pos ⟨by omega, ox, oy, oz⟩]
    · have oz : ¬ o2 w = true := fun h => absurd (hcw.1 h) (by omega)
      refine h151 _ _ ?_
      rw [hf, if_neg (fun q => oz q.2.2.2)]
theorem c_X3_bm_43 (h7 : M 19 7 = m) (hm : m ≤ 6) (hd : 0 ≤ d ∧ d < 6) (hb : 0 ≤ b ∧ b < 13) (hc : 0 ≤ c ∧ c < 13) (hn : M 19 8 = n) (hB : nxO M d 1 b o1) (hC : nxO M d 2 c o2) {nA : Int} {x : Nat} (hx : x < 3) (hxn : (x : Int) ≤ n) (hA : (o0 x = true → 0 ≤ nA) ∧ (o0 x = false → nA < 0))
    (hF : o0 x = true → ∀ f e : Int, 0 ≤ f → f < 3 → 0 ≤ e → e < 3 → o1 f = true → o2 e = true → fwO M m (d + 1) nA (M (45 + (d * 3 + 1).toNat) (b * 3 + f)) (M (45 + (d * 3 + 2).toNat) (c * 3 + e)) ∧ fwV M m (d + 1) nA (M (45 + (d * 3 + 1).toNat) (b * 3 + f)) (M (45 + (d * 3 + 2).toNat) (c * 3 + e)) = g x f e ∧ 0 ≤ g x f e ∧ g x f e ≤ 1000)
    (hk : ∀ (M2 : Nat → Int → Int) (y' : Int), mE M M2 → M2 19 10 = pck (cst n o0 o1 o2 g) (9 * x + 9) → J l z X (dd + 2) mX3_bestMeals (0, 0) 192 [jR 19, jI d, jI a, jI b, jI c, jI (bst (cst n o0 o1 o2 g) (9 * x + 9)), jI (x : Int), jI nA, jI y', jN, jN, jN, jN] [] (jG, M2) Q) : ∀ (k w : Nat) (M1 : Nat → Int → Int), w + k = 3 → mE M M1 → M1 19 10 = pck (cst n o0 o1 o2 g) (9 * x + 3 * w) → J l z X (dd + 2) mX3_bestMeals (0, 0) 43 [jR 19, jI d, jI a, jI b, jI c, jI (bst (cst n o0 o1 o2 g) (9 * x + 3 * w)), jI (x : Int), jI nA, jI (w : Int), jN, jN, jN, jN] [] (jG, M1) Q := by
  intro k
  induction k with
  | zero =>
    intro w M1 hw hM hp
    obtain rfl : w = 3 := by omega
    by_cases g1 : nA < 0
    · exact b_X3_bestMeals_43 (fun q => absurd q (by omega)) (fun _ => hk M1 _ hM hp) (fun q => absurd q (by omega)) (fun q => absurd q (by omega)) (fun q => absurd q (by omega))
    · exact b_X3_bestMeals_43 (fun _ q => absurd q (by omega)) (fun q => absurd q g1) (fun _ _ => hk M1 _ hM hp) (fun _ q => absurd q (by omega)) (fun _ q => absurd q (by omega))
  | succ k ih =>
    intro w M1 hw hM hp
    have e8 : M1 19 8 = n := by rw [hM.2 8 (by omega)]; exact hn
    have hskip : (∀ j j', w ≤ j → j < 3 → j' < 3 → cst n o0 o1 o2 g (9 * x + 3 * j + j') = 1000) → bst (cst n o0 o1 o2 g) (9 * x + 9) = bst (cst n o0 o1 o2 g) (9 * x + 3 * w) ∧ pck (cst n o0 o1 o2 g) (9 * x + 9) = pck (cst n o0 o1 o2 g) (9 * x + 3 * w) := by
      intro h
      have := bst_skip (f := cst n o0 o1 o2 g) (k := 9 * x + 3 * w) (3 * (k + 1)) (fun j j0 j1 => by
        have := h ((j - 9 * x) / 3) ((j - 9 * x) % 3) (by omega) (by omega) (by omega)
        rw [show 9 * x + 3 * ((j - 9 * x) / 3) + (j - 9 * x) % 3 = j by omega] at this
        omega)
      rw [show 9 * x + 3 * w + 3 * (k + 1) = 9 * x + 9 by omega] at this
      exact this
    by_cases g1 : nA < 0
    · have o0f : ¬ o0 x = true := fun q => absurd (hA.1 q) (by omega)
      obtain ⟨s1, s2⟩ := hskip (fun j j' j0 j1 j2 => by rw [cst_at j1 j2, if_neg (fun q => o0f q.2.1)])
      rw [← s1]
      exact b_X3_bestMeals_43 (fun q => absurd q (by omega)) (fun _ => hk M1 _ hM (by rw [hp, s2])) (fun q => absurd q (by omega)) (fun q => absurd q (by omega)) (fun q => absurd q (by omega))
    have ox : o0 x = true := by
      cases h : o0 x with
      | true => rfl
      | false => exact absurd (hA.2 h) g1
    by_cases g2 : n < (x : Int) + w
    · obtain ⟨s1, s2⟩ := hskip (fun j j' j0 j1 j2 => by rw [cst_at j1 j2, if_neg (fun q => absurd q.1 (by omega))])
      rw [← s1]
      exact b_X3_bestMeals_43 (fun _ _ => jInd (by omega)) (fun q => absurd q g1) (fun _ q => absurd q (by omega)) (fun _ _ _ => hk M1 _ hM (by rw [hp, s2])) (fun _ _ q => absurd q (by rw [e8]; omega))
    have hw3 : w < 3 := by omega
    have hbw := hB (w : Int) (by omega) (by omega)
    have e45 : M1 (45 + (d * 3 + 1).toNat) = M (45 + (d * 3 + 1).toNat) := hM.1 _ (by omega)
    refine b_X3_bestMeals_43 (fun _ _ => jInd (by omega)) (fun q => absurd q g1) (fun _ q => absurd q (by omega)) (fun _ _ q => absurd q (by rw [e8]; omega)) (fun _ _ _ => c_X3_next hd (by omega) hb (by omega) ?_)
    rw [e45]
    refine b_X3_bestMeals_75 ?_
    refine c_X3_bm_80 (y := w) h7 hm hd hc hn hC hx hw3 (by omega) ox ⟨fun h => (hbw.1 h).1, hbw.2⟩ (fun oy e e0 e1 oe => hF ox w e (by omega) (by omega) e0 e1 oy oe) (fun M2 z' hM2 hp2 => b_X3_bestMeals_186 (jInd (by omega)) ?_) 3 0 M1 (by omega) hM hp
    rw [show (w : Int) + 1 = ((w + 1 : Nat) : Int) by omega, show 9 * x + 3 * w + 3 = 9 * x + 3 * (w + 1) by omega]
    rw [show 9 * x + 3 * w + 3 = 9 * x + 3 * (w + 1) by omega] at hp2
    exact ih (w + 1) M2 (by omega) hM2 hp2
theorem c_X3_bestMeals (h7 : M 19 7 = m) (hm : m ≤ 6) (hd : 0 ≤ d ∧ d < 6) (ha : 0 ≤ a ∧ a < 13) (hb : 0 ≤ b ∧ b < 13) (hc : 0 ≤ c ∧ c < 13) (hn : M 19 8 = n) (hA : nxO M d 0 a o0) (hB : nxO M d 1 b o1) (hC : nxO M d 2 c o2)
    (hF : ∀ h f e : Int, 0 ≤ h → h < 3 → 0 ≤ f → f < 3 → 0 ≤ e → e < 3 → o0 h = true → o1 f = true → o2 e = true → fwO M m (d + 1) (M (45 + (d * 3 + 0).toNat) (a * 3 + h)) (M (45 + (d * 3 + 1).toNat) (b * 3 + f)) (M (45 + (d * 3 + 2).toNat) (c * 3 + e)) ∧ fwV M m (d + 1) (M (45 + (d * 3 + 0).toNat) (a * 3 + h)) (M (45 + (d * 3 + 1).toNat) (b * 3 + f)) (M (45 + (d * 3 + 2).toNat) (c * 3 + e)) = g h f e ∧ 0 ≤ g h f e ∧ g h f e ≤ 1000)
    (hk : ∀ (M2 : Nat → Int → Int), mE M M2 → M2 19 10 = pck (cst n o0 o1 o2 g) 27 → Q (some (jI (bst (cst n o0 o1 o2 g) 27))) (jG, M2)) : J l z X (dd + 2) mX3_bestMeals (0, 0) 0 [jR 19, jI d, jI a, jI b, jI c, jN, jN, jN, jN, jN, jN, jN, jN] [] (jG, M) Q := by
  have hloop : ∀ (k w : Nat) (M1 : Nat → Int → Int), w + k = 3 → mE M M1 → M1 19 10 = pck (cst n o0 o1 o2 g) (9 * w) → J l z X (dd + 2) mX3_bestMeals (0, 0) 14 [jR 19, jI d, jI a, jI b, jI c, jI (bst (cst n o0 o1 o2 g) (9 * w)), jI (w : Int), jN, jN, jN, jN, jN, jN] [] (jG, M1) Q := by
    intro k
    induction k with
    | zero =>
      intro w M1 hw hM hp
      obtain rfl : w = 3 := by omega
      exact b_X3_bestMeals_14 (fun _ => hk M1 hM hp) (fun q => absurd q (by omega)) (fun q => absurd q (by omega))
    | succ k ih =>
      intro w M1 hw hM hp
      have e8 : M1 19 8 = n := by rw [hM.2 8 (by omega)]; exact hn
      by_cases g2 : n < (w : Int)
      · have := bst_skip (f := cst n o0 o1 o2 g) (k := 9 * w) (9 * (k + 1)) (fun j j0 j1 => by
          have := cst_at (n := n) (o0 := o0) (o1 := o1) (o2 := o2) (g := g) (x := j / 9) (y := j / 3 % 3) (z := j % 3) (by omega) (by omega)
          rw [show 9 * (j / 9) + 3 * (j / 3 % 3) + j % 3 = j by omega] at this
          rw [this, if_neg (fun q => absurd q.1 (by omega))]
          exact Int.le_refl _)
        rw [show 9 * w + 9 * (k + 1) = 27 by omega] at this
        rw [← this.1]
        exact b_X3_bestMeals_14 (fun q => absurd q (by omega)) (fun _ _ => hk M1 hM (by rw [hp, this.2])) (fun _ q => absurd q (by rw [e8]; omega))
      · have haw := hA (w : Int) (by omega) (by omega)
        have e45 : M1 (45 + (d * 3 + 0).toNat) = M (45 + (d * 3 + 0).toNat) := hM.1 _ (by omega)
        refine b_X3_bestMeals_14 (fun q => absurd q (by omega)) (fun _ q => absurd q (by rw [e8]; omega)) (fun _ _ => c_X3_next hd (by omega) ha (by omega) ?_)
        rw [e45]
        refine b_X3_bestMeals_38 ?_
        refine c_X3_bm_43 (x := w) h7 hm hd hb hc hn hB hC (by omega) (by omega) ⟨fun h => (haw.1 h).1, haw.2⟩ (fun ox f e f0 f1 e0 e1 oy oe => hF w f e (by omega) (by omega) f0 f1 e0 e1 ox oy oe) (fun M2 y' hM2 hp2 => b_X3_bestMeals_192 (jInd (by omega)) ?_) 3 0 M1 (by omega) hM hp
        rw [show (w : Int) + 1 = ((w + 1 : Nat) : Int) by omega, show 9 * w + 9 = 9 * (w + 1) by omega]
        rw [show 9 * w + 9 = 9 * (w + 1) by omega] at hp2
        exact ih (w + 1) M2 (by omega) hM2 hp2
  refine b_X3_bestMeals_0 (hloop 3 0 _ (by omega) ⟨fun c' hc' => by rw [jupd_c, if_neg hc'], fun j hj => by rw [jupd_i _ _ _ _ hj]⟩ (jupd_s _ _ _ _))
end MEALS
end BEST
