/-! ## worms: the class's sum -/
def valF (v x : Int) : Int := if v < 0 then x else if x ≤ v then 1 else 0
def eE (t p y v : Int) : Nat → Int → Int
  | 0, x => valF v x
  | n + 1, x => t * eE t p y v n (agF p y x 0) + (10 - t) * eE t p y v n (agF p y x 2)
def powF (b : Int) : Nat → Int
  | 0 => 1
  | n + 1 => powF b n * b
def lkS (p y : Int) : Nat → Int → Int → Int
  | 0, x, _ => x
  | n + 1, x, w => lkS p y n (if w % 2 = 1 then agF p y x 0 else agF p y x 2) (w / 2)
def wtF (t : Int) (n : Nat) (w : Int) : Int := powF t (popc w).toNat * powF (10 - t) (n - (popc w).toNat)
def fW (t p y v : Int) (n : Nat) (x w : Int) : Int := wtF t n w * valF v (lkS p y n x w)
def sumF (f : Int → Int) : Nat → Int → Int
  | 0, _ => 0
  | m + 1, a => f a + sumF f m (a + 1)
theorem sumF_congr {f g : Int → Int} : ∀ (m : Nat) (a b : Int), (∀ i : Int, 0 ≤ i → i < m → f (a + i) = g (b + i)) → sumF f m a = sumF g m b
  | 0, _, _, _ => rfl
  | m + 1, a, b, h => by
    have h0 := h 0 (by omega) (by omega)
    rw [Int.add_zero, Int.add_zero] at h0
    unfold sumF
    rw [h0, sumF_congr m (a + 1) (b + 1) (fun i i0 i1 => by
      have := h (1 + i) (by omega) (by omega)
      rw [← Int.add_assoc, ← Int.add_assoc] at this
      exact this)]
theorem sumF_pair (f : Int → Int) : ∀ (m : Nat) (a : Int), sumF f (2 * m) (2 * a) = sumF (fun w => f (2 * w) + f (2 * w + 1)) m a
  | 0, _ => rfl
  | m + 1, a => by
    rw [show 2 * (m + 1) = 2 * m + 1 + 1 by omega]
    show f (2 * a) + (f (2 * a + 1) + sumF f (2 * m) (2 * a + 1 + 1)) = (f (2 * a) + f (2 * a + 1)) + sumF (fun w => f (2 * w) + f (2 * w + 1)) m (a + 1)
    rw [show 2 * a + 1 + 1 = 2 * (a + 1) by omega, sumF_pair f m (a + 1)]
    omega
theorem sumF_lin (f g : Int → Int) (c e : Int) : ∀ (m : Nat) (a : Int), sumF (fun w => c * f w + e * g w) m a = c * sumF f m a + e * sumF g m a
  | 0, _ => by simp [sumF]
  | m + 1, a => by
    unfold sumF
    rw [sumF_lin f g c e m (a + 1), Int.mul_add, Int.mul_add]
    omega
theorem popc_pow {n : Nat} {w : Int} (hn : n ≤ 6) (h : 0 ≤ w ∧ w < 2 ^ n) : 0 ≤ popc w ∧ popc w ≤ n := by
  refine ⟨popc_rng.1, ?_⟩
  have : n = 0 ∨ n = 1 ∨ n = 2 ∨ n = 3 ∨ n = 4 ∨ n = 5 ∨ n = 6 := by omega
  unfold popc
  rcases this with e | e | e | e | e | e | e <;> subst e <;> omega
theorem popc_two {w : Int} (h : 0 ≤ w ∧ w < 64) : popc (2 * w) = popc w ∧ popc (2 * w + 1) = popc w + 1 := by
  unfold popc
  omega
theorem two_pow {n : Nat} (hn : n ≤ 6) : (1 : Int) ≤ 2 ^ n ∧ (2 : Int) ^ n ≤ 64 ∧ ((2 ^ n : Nat) : Int) = 2 ^ n := by
  have : n = 0 ∨ n = 1 ∨ n = 2 ∨ n = 3 ∨ n = 4 ∨ n = 5 ∨ n = 6 := by omega
  rcases this with e | e | e | e | e | e | e <;> subst e <;> decide
theorem lkS_succ (p y x w : Int) (n : Nat) : lkS p y (n + 1) x w = lkS p y n (if w % 2 = 1 then agF p y x 0 else agF p y x 2) (w / 2) := rfl
theorem powF_succ (b : Int) (n : Nat) : powF b (n + 1) = powF b n * b := rfl
theorem fW_step {t p y v x w : Int} {n : Nat} (hn : n + 1 ≤ 6) (h : 0 ≤ w ∧ w < 2 ^ n) : fW t p y v (n + 1) x (2 * w) = (10 - t) * fW t p y v n (agF p y x 2) w ∧ fW t p y v (n + 1) x (2 * w + 1) = t * fW t p y v n (agF p y x 0) w := by
  have h2 := two_pow (n := n) (by omega)
  obtain ⟨g1, g2⟩ := popc_two (w := w) (by omega)
  have g3 := popc_pow (by omega) h
  unfold fW wtF
  rw [g1, g2, lkS_succ, lkS_succ]
  constructor
  · rw [if_neg (by omega), show 2 * w / 2 = w by omega, show n + 1 - (popc w).toNat = (n - (popc w).toNat) + 1 by omega, powF_succ]
    generalize powF t (popc w).toNat = A
    generalize powF (10 - t) (n - (popc w).toNat) = B
    generalize valF v (lkS p y n (agF p y x 2) w) = C
    rw [← Int.mul_assoc A B (10 - t), Int.mul_comm (A * B) (10 - t), Int.mul_assoc (10 - t) (A * B) C]
  · rw [if_pos (by omega), show (2 * w + 1) / 2 = w by omega, show (popc w + 1).toNat = (popc w).toNat + 1 by omega, show n + 1 - ((popc w).toNat + 1) = n - (popc w).toNat by omega, powF_succ]
    generalize powF t (popc w).toNat = A
    generalize powF (10 - t) (n - (popc w).toNat) = B
    generalize valF v (lkS p y n (agF p y x 0) w) = C
    rw [Int.mul_comm A t, Int.mul_assoc t A B, Int.mul_assoc t (A * B) C]
theorem sum_eE (t p y v : Int) : ∀ (n : Nat) (x : Int), n ≤ 6 → sumF (fW t p y v n x) (2 ^ n) 0 = eE t p y v n x
  | 0, x, _ => by
    show fW t p y v 0 x 0 + 0 = valF v x
    simp [fW, wtF, lkS, powF, popc]
  | n + 1, x, hn => by
    have h2 := two_pow (n := n) (by omega)
    rw [show 2 ^ (n + 1) = 2 * 2 ^ n by rw [Nat.pow_succ]; omega]
    have := sumF_pair (fW t p y v (n + 1) x) (2 ^ n) 0
    rw [Int.mul_zero] at this
    rw [this]
    have e : sumF (fun w => fW t p y v (n + 1) x (2 * w) + fW t p y v (n + 1) x (2 * w + 1)) (2 ^ n) 0 = sumF (fun w => (10 - t) * fW t p y v n (agF p y x 2) w + t * fW t p y v n (agF p y x 0) w) (2 ^ n) 0 := by
      refine sumF_congr _ _ _ (fun i i0 i1 => ?_)
      have hst := fW_step (t := t) (p := p) (y := y) (v := v) (x := x) (w := 0 + i) hn (by omega)
      show fW t p y v (n + 1) x (2 * (0 + i)) + fW t p y v (n + 1) x (2 * (0 + i) + 1) = _
      rw [hst.1, hst.2]
    rw [e, sumF_lin, sum_eE t p y v n _ (by omega), sum_eE t p y v n _ (by omega)]
    show _ = t * eE t p y v n (agF p y x 0) + (10 - t) * eE t p y v n (agF p y x 2)
    rw [Int.add_comm]
