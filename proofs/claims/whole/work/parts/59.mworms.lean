/-! ## worms: the reference's shares of the looks -/
def dotF (P g : Int → Int) : Int := sumF (fun k => P k * g k) 100 0
theorem sumF_last (f : Int → Int) : ∀ (m : Nat) (a : Int), sumF f (m + 1) a = sumF f m a + f (a + m)
  | 0, a => by simp [sumF]
  | m + 1, a => by
    show f a + sumF f (m + 1) (a + 1) = (f a + sumF f m (a + 1)) + f (a + ((m + 1 : Nat) : Int))
    rw [sumF_last f m (a + 1), show a + 1 + (m : Int) = a + ((m + 1 : Nat) : Int) by omega]
    omega
theorem sumF_nonneg {f : Int → Int} : ∀ (m : Nat) (a : Int), (∀ i : Int, a ≤ i → i < a + m → 0 ≤ f i) → 0 ≤ sumF f m a
  | 0, _, _ => Int.le_refl 0
  | m + 1, a, h => by
    have h0 := h a (by omega) (by omega)
    have h1 := sumF_nonneg m (a + 1) (fun i i0 i1 => h i (by omega) (by omega))
    show 0 ≤ f a + sumF f m (a + 1)
    omega
theorem sumF_entry {f : Int → Int} : ∀ (m : Nat) (a j : Int), (∀ i : Int, a ≤ i → i < a + m → 0 ≤ f i) → a ≤ j → j < a + m → f j ≤ sumF f m a
  | 0, a, j, _, h1, h2 => by omega
  | m + 1, a, j, h, h1, h2 => by
    have h0 := h a (by omega) (by omega)
    have hn := sumF_nonneg m (a + 1) (fun i i0 i1 => h i (by omega) (by omega))
    show f j ≤ f a + sumF f m (a + 1)
    by_cases e : j = a
    · rw [e]; omega
    · have := sumF_entry m (a + 1) j (fun i i0 i1 => h i (by omega) (by omega)) (by omega) (by omega)
      omega
theorem sumF_le {f : Int → Int} : ∀ (m n : Nat) (a : Int), (∀ i : Int, a ≤ i → i < a + n → 0 ≤ f i) → m ≤ n → sumF f m a ≤ sumF f n a
  | 0, n, a, h, _ => sumF_nonneg n a h
  | m + 1, 0, a, h, hm => by omega
  | m + 1, n + 1, a, h, hm => by
    have := sumF_le m n (a + 1) (fun i i0 i1 => h i (by omega) (by omega)) (by omega)
    show f a + sumF f m (a + 1) ≤ f a + sumF f n (a + 1)
    omega
theorem sumF_upd {P g : Int → Int} {j c : Int} : ∀ (m : Nat) (a : Int), (a ≤ j ∧ j < a + m → sumF (fun k => (if k = j then P j + c else P k) * g k) m a = sumF (fun k => P k * g k) m a + c * g j) ∧ (¬ (a ≤ j ∧ j < a + m) → sumF (fun k => (if k = j then P j + c else P k) * g k) m a = sumF (fun k => P k * g k) m a)
  | 0, a => ⟨fun h => by omega, fun _ => rfl⟩
  | m + 1, a => by
    have h := sumF_upd (P := P) (g := g) (j := j) (c := c) m (a + 1)
    constructor
    · intro h1
      show (if a = j then P j + c else P a) * g a + sumF (fun k => (if k = j then P j + c else P k) * g k) m (a + 1) = P a * g a + sumF (fun k => P k * g k) m (a + 1) + c * g j
      by_cases e : a = j
      · rw [if_pos e, h.2 (by omega), e, Int.add_mul]
        omega
      · rw [if_neg e, h.1 (by omega)]
        omega
    · intro h1
      show (if a = j then P j + c else P a) * g a + sumF (fun k => (if k = j then P j + c else P k) * g k) m (a + 1) = P a * g a + sumF (fun k => P k * g k) m (a + 1)
      rw [if_neg (by omega), h.2 (by omega)]
theorem dot_upd {P g : Int → Int} {j c : Int} (hj : 0 ≤ j ∧ j < 100) : dotF (fun k => if k = j then P j + c else P k) g = dotF P g + c * g j := (sumF_upd 100 0).1 (by omega)
theorem dot_congr {P P' g g' : Int → Int} (h : ∀ k : Int, 0 ≤ k → k < 100 → P k = P' k ∧ g k = g' k) : dotF P g = dotF P' g' := sumF_congr 100 0 0 (fun i i0 i1 => by
  rw [Int.zero_add]
  have := h i i0 (by omega)
  show P i * g i = P' i * g' i
  rw [this.1, this.2])
def dayF (P : Int → Int) (t p y : Int) (g : Int → Int) (v : Int) : Int := P v * (t * g (agF p y v 0) + (10 - t) * g (agF p y v 2))
section MWORMS
variable {l : Launch} {z d : Nat} {X : jX} {M : Nat → Int → Int} {Q : Option jV → jM → Prop}
theorem c_X10_wormyDay_89 {one t : Int} {M0 : Nat → Int → Int} : ∀ (m : Nat) (x : Int) (M1 : Nat → Int → Int), x = 100 - (m : Int) → 0 ≤ x → (∀ c, c ≠ 117 → M1 c = M0 c) → (∀ k : Int, 0 ≤ k → k < x → M1 117 k = M0 118 k) → (∀ M2, (∀ c, c ≠ 117 → M2 c = M0 c) → (∀ k : Int, 0 ≤ k → k < 100 → M2 117 k = M0 118 k) → Q none (jG, M2)) → J l z X (d + 1) mX10_wormyDay (0, 0) 89 [jR 96, jI one, jI t, jI x] [] (jG, M1) Q := by
  intro m
  induction m with
  | zero =>
    intro x M1 hx x0 f g hq
    exact b_X10_wormyDay_89 (fun q => absurd q (by omega)) (fun q => absurd q (by omega)) (fun q => absurd q (by omega)) (fun _ => hq M1 f (fun k k0 k1 => g k k0 (by omega))) (fun q => absurd q (by omega))
  | succ m ih =>
    intro x M1 hx x0 f g hq
    refine b_X10_wormyDay_89 (fun _ => x0) (fun _ => by omega) (fun _ => jInd (by omega)) (fun q => absurd q (by omega)) (fun _ => ih _ _ (by omega) (by omega) (fun c hc => ?_) (fun k k0 k1 => ?_) hq)
    · rw [jupd_c, if_neg hc]
      exact f c hc
    · by_cases e : k = x
      · subst e
        rw [jupd_s, f 118 (by omega)]
      · simp [jupd, e]
        exact g k k0 (by omega)
theorem c_X10_wormyDay_2 {one t : Int} {M0 : Nat → Int → Int} : ∀ (m : Nat) (x : Int) (M1 : Nat → Int → Int), x = 100 - (m : Int) → 0 ≤ x → (∀ c, c ≠ 118 → M1 c = M0 c) → (∀ k : Int, 0 ≤ k → k < x → M1 118 k = 0) → (∀ M2, (∀ c, c ≠ 118 → M2 c = M0 c) → (∀ k : Int, 0 ≤ k → k < 100 → M2 118 k = 0) → J l z X (d + 1) mX10_wormyDay (0, 0) 23 [jR 96, jI one, jI t, jI 0] [] (jG, M2) Q) → J l z X (d + 1) mX10_wormyDay (0, 0) 2 [jR 96, jI one, jI t, jI x] [] (jG, M1) Q := by
  intro m
  induction m with
  | zero =>
    intro x M1 hx x0 f g hq
    exact b_X10_wormyDay_2 (fun q => absurd q (by omega)) (fun q => absurd q (by omega)) (fun q => absurd q (by omega)) (fun _ => hq M1 f (fun k k0 k1 => g k k0 (by omega))) (fun q => absurd q (by omega))
  | succ m ih =>
    intro x M1 hx x0 f g hq
    refine b_X10_wormyDay_2 (fun _ => x0) (fun _ => by omega) (fun _ => jInd (by omega)) (fun q => absurd q (by omega)) (fun _ => ih _ _ (by omega) (by omega) (fun c hc => ?_) (fun k k0 k1 => ?_) hq)
    · rw [jupd_c, if_neg hc]
      exact f c hc
    · by_cases e : k = x
      · subst e
        rw [jupd_s]
      · simp [jupd, e]
        exact g k k0 (by omega)
end MWORMS
