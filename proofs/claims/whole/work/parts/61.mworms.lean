theorem sumF_zero {f : Int → Int} (h : ∀ k, f k = 0) : ∀ (m : Nat) (a : Int), sumF f m a = 0
  | 0, _ => rfl
  | m + 1, a => by
    show f a + sumF f m (a + 1) = 0
    rw [h, sumF_zero h m (a + 1)]
    rfl
theorem dot_ten (P : Int → Int) : dotF P (fun _ => 10) = 10 * dotF P (fun _ => 1) := by
  have h := sumF_lin (fun k => P k * 1) (fun k => P k * 1) 10 0 100 0
  rw [Int.zero_mul, Int.add_zero] at h
  have h2 : dotF P (fun _ => 10) = sumF (fun w => 10 * (fun k => P k * 1) w + 0 * (fun k => P k * 1) w) 100 0 := sumF_congr 100 0 0 (fun i _ _ => by
    show P (0 + i) * 10 = 10 * (P (0 + i) * 1) + 0 * (P (0 + i) * 1)
    omega)
  rw [h2, h]
  rfl
theorem eE_rng {t p y v : Int} (hp : 0 ≤ p ∧ p ≤ 9) (hy : 0 ≤ y ∧ y ≤ 99) (ht : 0 ≤ t ∧ t ≤ 10) : ∀ (n : Nat) (x : Int), 0 ≤ x ∧ x ≤ 99 → 0 ≤ eE t p y v n x ∧ eE t p y v n x ≤ 99 * powF 10 n
  | 0, x, h => by
    show 0 ≤ valF v x ∧ valF v x ≤ 99 * 1
    unfold valF
    split
    · omega
    · split <;> omega
  | n + 1, x, h => by
    have h1 := eE_rng (v := v) hp hy ht n (agF p y x 0) (agF_rng' p y x 0 hp hy h)
    have h2 := eE_rng (v := v) hp hy ht n (agF p y x 2) (agF_rng' p y x 2 hp hy h)
    show 0 ≤ t * eE t p y v n (agF p y x 0) + (10 - t) * eE t p y v n (agF p y x 2) ∧ t * eE t p y v n (agF p y x 0) + (10 - t) * eE t p y v n (agF p y x 2) ≤ 99 * (powF 10 n * 10)
    generalize eE t p y v n (agF p y x 0) = A at h1 ⊢
    generalize eE t p y v n (agF p y x 2) = B at h2 ⊢
    generalize powF 10 n = W at h1 h2 ⊢
    have a1 : 0 ≤ t * A := Int.mul_nonneg ht.1 h1.1
    have a2 : t * A ≤ t * (99 * W) := Int.mul_le_mul_of_nonneg_left h1.2 ht.1
    have b1 : 0 ≤ (10 - t) * B := Int.mul_nonneg (by omega) h2.1
    have b2 : (10 - t) * B ≤ (10 - t) * (99 * W) := Int.mul_le_mul_of_nonneg_left h2.2 (by omega)
    have e : t * (99 * W) + (10 - t) * (99 * W) = 10 * (99 * W) := by
      rw [← Int.add_mul]
      congr 1
      omega
    omega
section MWORMS3
variable {l : Launch} {z d : Nat} {X : jX} {M : Nat → Int → Int} {Q : Option jV → jM → Prop}
theorem c_X10_wormyDay {one t p y : Int} {M0 : Nat → Int → Int} (h98 : M0 98 one = p) (h99 : M0 99 one = y) (ho : 0 ≤ one ∧ one < 6) (hp : 0 ≤ p ∧ p ≤ 9) (hy : 0 ≤ y ∧ y ≤ 99) (ht : 0 ≤ t ∧ t ≤ 10) (hP : ∀ k : Int, 0 ≤ k → k < 100 → 0 ≤ M0 117 k) (hT : dotF (M0 117) (fun _ => 1) ≤ 1000000) (hq : ∀ M2, (∀ c, c ≠ 117 → c ≠ 118 → M2 c = M0 c) → (∀ k : Int, 0 ≤ k → k < 100 → 0 ≤ M2 117 k) → (∀ g : Int → Int, dotF (M2 117) g = dotF (M0 117) (fun v => t * g (agF p y v 0) + (10 - t) * g (agF p y v 2))) → Q none (jG, M2)) : J l z X (d + 1) mX10_wormyDay (0, 0) 0 [jR 96, jI one, jI t, jN] [] (jG, M0) Q := by
  have hT2 : sumF (dayF (M0 117) t p y (fun _ => 1)) 100 0 ≤ 10000000 := by
    have e : sumF (dayF (M0 117) t p y (fun _ => 1)) 100 0 = dotF (M0 117) (fun _ => 10) := by
      have e1 : sumF (dayF (M0 117) t p y (fun _ => 1)) 100 0 = dotF (M0 117) (fun _ => t * 1 + (10 - t) * 1) := rfl
      have e2 : (fun _ : Int => t * 1 + (10 - t) * 1) = fun _ => 10 := by
        funext k
        omega
      rw [e1, e2]
    rw [e, dot_ten]
    omega
  refine b_X10_wormyDay_0 (c_X10_wormyDay_2 (M0 := M0) 100 0 M0 (by omega) (by omega) (fun _ _ => rfl) (fun k k0 k1 => by omega) (fun M1 f1 g1 => ?_))
  have e117 : M1 117 = M0 117 := f1 117 (by omega)
  refine c_X10_wormyDay_23 (M0 := M1) (by rw [f1 98 (by omega)]; exact h98) (by rw [f1 99 (by omega)]; exact h99) ho hp hy ht (by rw [e117]; exact hP) (by rw [e117]; exact hT2) 100 0 M1 (by omega) (fun _ _ => rfl) (fun k k0 k1 => by rw [g1 k k0 k1]; omega) (fun g => ?_) (fun M2 f2 n2 d2 => ?_)
  · have e : dotF (M1 118) g = dotF (fun _ => 0) g := dot_congr (fun k k0 k1 => ⟨g1 k k0 k1, rfl⟩)
    rw [e]
    exact sumF_zero (fun k => by show 0 * g k = 0; omega) 100 0
  · refine c_X10_wormyDay_89 (M0 := M2) 100 0 M2 (by omega) (by omega) (fun _ _ => rfl) (fun k k0 k1 => by omega) (fun M3 f3 g3 => hq M3 (fun c c1 c2 => ?_) (fun k k0 k1 => ?_) (fun g => ?_))
    · rw [f3 c c1, f2 c c2, f1 c c2]
    · rw [g3 k k0 k1]
      exact n2 k k0 k1
    · have e : dotF (M3 117) g = dotF (M2 118) g := dot_congr (fun k k0 k1 => ⟨g3 k k0 k1, rfl⟩)
      rw [e, d2 g, e117]
      rfl
end MWORMS3
