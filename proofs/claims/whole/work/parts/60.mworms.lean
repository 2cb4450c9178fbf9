theorem agF_rng' (p y x e : Int) (hp : 0 ≤ p ∧ p ≤ 9) (hy : 0 ≤ y ∧ y ≤ 99) (hx : 0 ≤ x ∧ x ≤ 99) : 0 ≤ agF p y x e ∧ agF p y x e ≤ 99 := by
  unfold agF
  split
  · omega
  · split <;> omega
section MWORMS2
variable {l : Launch} {z d : Nat} {X : jX} {M : Nat → Int → Int} {Q : Option jV → jM → Prop}
theorem c_X10_wormyDay_23 {one t p y : Int} {M0 : Nat → Int → Int} (h98 : M0 98 one = p) (h99 : M0 99 one = y) (ho : 0 ≤ one ∧ one < 6) (hp : 0 ≤ p ∧ p ≤ 9) (hy : 0 ≤ y ∧ y ≤ 99) (ht : 0 ≤ t ∧ t ≤ 10) (hP : ∀ k : Int, 0 ≤ k → k < 100 → 0 ≤ M0 117 k) (hT : sumF (dayF (M0 117) t p y (fun _ => 1)) 100 0 ≤ 10000000) : ∀ (m x : Nat) (M1 : Nat → Int → Int), x + m = 100 → (∀ c, c ≠ 118 → M1 c = M0 c) → (∀ k : Int, 0 ≤ k → k < 100 → 0 ≤ M1 118 k) → (∀ g : Int → Int, dotF (M1 118) g = sumF (dayF (M0 117) t p y g) x 0) → (∀ M2, (∀ c, c ≠ 118 → M2 c = M0 c) → (∀ k : Int, 0 ≤ k → k < 100 → 0 ≤ M2 118 k) → (∀ g : Int → Int, dotF (M2 118) g = sumF (dayF (M0 117) t p y g) 100 0) → J l z X (d + 1) mX10_wormyDay (0, 0) 89 [jR 96, jI one, jI t, jI 0] [] (jG, M2) Q) → J l z X (d + 1) mX10_wormyDay (0, 0) 23 [jR 96, jI one, jI t, jI (x : Int)] [] (jG, M1) Q := by
  have hday : ∀ i : Int, 0 ≤ i → i < 0 + (100 : Nat) → 0 ≤ dayF (M0 117) t p y (fun _ => 1) i := fun i i0 i1 => by
    have := hP i i0 (by omega)
    unfold dayF
    rw [show t * 1 + (10 - t) * 1 = 10 by omega]
    omega
  intro m
  induction m with
  | zero =>
    intro x M1 hx f hn hd hq
    have ex : x = 100 := by omega
    subst ex
    exact b_X10_wormyDay_23 (fun q => absurd q (by omega)) (fun q => absurd q (by omega)) (fun q => absurd q (by omega)) (fun q => absurd q (by omega)) (fun q => absurd q (by omega)) (fun q => absurd q (by omega)) (fun q => absurd q (by omega)) (fun q => absurd q (by omega)) (fun q => absurd q (by omega)) (fun q => absurd q (by omega)) (fun q => absurd q (by omega)) (fun q => absurd q (by omega)) (fun q => absurd q (by omega)) (fun q => absurd q (by omega)) (fun _ => hq M1 f hn hd) (fun q => absurd q (by omega))
  | succ m ih =>
    intro x M1 hx f hn hd hq
    have hu := agF_rng' p y (x : Int) 0 hp hy (by omega)
    have hw := agF_rng' p y (x : Int) 2 hp hy (by omega)
    have hst := b_X10_wormyDay_23 (l := l) (z := z) (d := d) (X := X) (M := M1) (Q := Q) (x1 := one) (x2 := t) (x3 := (x : Int))
    have e98 : M1 98 = M0 98 := f 98 (by omega)
    have e99 : M1 99 = M0 99 := f 99 (by omega)
    have e117 : M1 117 = M0 117 := f 117 (by omega)
    rw [e98, e99, e117, h98, h99] at hst
    have hPx := hP (x : Int) (by omega) (by omega)
    have hent := sumF_entry (f := dayF (M0 117) t p y (fun _ => 1)) 100 0 (x : Int) hday (by omega) (by omega)
    have hdx : dayF (M0 117) t p y (fun _ => 1) x = M0 117 x * 10 := by
      unfold dayF
      rw [show t * 1 + (10 - t) * 1 = 10 by omega]
    have hN1 : dotF (M1 118) (fun _ => 1) ≤ 10000000 := by
      rw [hd]
      exact Int.le_trans (sumF_le x 100 0 hday (by omega)) hT
    have hNk : ∀ k : Int, 0 ≤ k → k < 100 → M1 118 k ≤ 10000000 := fun k k0 k1 => by
      have := sumF_entry (f := fun k => M1 118 k * 1) 100 0 k (fun i i0 i1 => by have := hn i i0 (by omega); show 0 ≤ M1 118 i * 1; omega) (by omega) (by omega)
      have h2 : dotF (M1 118) (fun _ => 1) = sumF (fun k => M1 118 k * 1) 100 0 := rfl
      have h3 : M1 118 k * 1 ≤ sumF (fun k => M1 118 k * 1) 100 0 := this
      omega
    have hsum : ∀ g : Int → Int, sumF (dayF (M0 117) t p y g) (x + 1) 0 = sumF (dayF (M0 117) t p y g) x 0 + (t * M0 117 x * g (agF p y x 0) + (10 - t) * M0 117 x * g (agF p y x 2)) := fun g => by
      rw [sumF_last, Int.zero_add]
      congr 1
      unfold dayF
      rw [Int.mul_add, ← Int.mul_assoc, ← Int.mul_assoc, Int.mul_comm (M0 117 x) t, Int.mul_comm (M0 117 x) (10 - t)]
    generalize agF p y (x : Int) 0 = u at hu hst hsum
    generalize hM2 : jupd M1 118 u (M1 118 u + t * M0 117 x) = M2 at hst
    have a98 : M2 98 = M0 98 := by rw [← hM2, jupd_c, if_neg (by omega), e98]
    have a99 : M2 99 = M0 99 := by rw [← hM2, jupd_c, if_neg (by omega), e99]
    have a117 : M2 117 = M0 117 := by rw [← hM2, jupd_c, if_neg (by omega), e117]
    have a118 : M2 118 = fun k => if k = u then M1 118 u + t * M0 117 x else M1 118 k := by rw [← hM2, jupd_c, if_pos rfl]
    have aoth : ∀ c, c ≠ 118 → M2 c = M0 c := fun c hc => by rw [← hM2, jupd_c, if_neg hc]; exact f c hc
    clear hM2
    rw [a98, a99, a117, h98, h99] at hst
    generalize agF p y (x : Int) 2 = w at hw hst hsum
    have hent' : M0 117 x * 10 ≤ 10000000 := by
      rw [← hdx]
      exact Int.le_trans hent hT
    clear hdx hent
    generalize M0 117 (x : Int) = Px at hst hPx hent' hsum a118
    have q1 : 0 ≤ t * Px := Int.mul_nonneg ht.1 hPx
    have q2 : t * Px ≤ 10 * 1000000 := Int.mul_le_mul ht.2 (by omega) hPx (by omega)
    have q3 : 0 ≤ (10 - t) * Px := Int.mul_nonneg (by omega) hPx
    have q4 : (10 - t) * Px ≤ 10 * 1000000 := Int.mul_le_mul (by omega) (by omega) hPx (by omega)
    have hnu := hn u hu.1 (by omega)
    have hku := hNk u hu.1 (by omega)
    have hN2 : ∀ k : Int, 0 ≤ k → k < 100 → 0 ≤ M2 118 k ∧ M2 118 k ≤ 20000000 := fun k k0 k1 => by
      have h1 := hn k k0 k1
      have h2 := hNk k k0 k1
      rw [a118]
      show 0 ≤ (if k = u then M1 118 u + t * Px else M1 118 k) ∧ (if k = u then M1 118 u + t * Px else M1 118 k) ≤ 20000000
      split <;> omega
    have hw2 := hN2 w hw.1 (by omega)
    have a118' : jupd M2 118 w (M2 118 w + (10 - t) * Px) 118 = fun k => if k = w then M2 118 w + (10 - t) * Px else M2 118 k := by rw [jupd_c, if_pos rfl]
    refine hst (fun _ => ⟨ho, by omega, hp⟩) (fun _ => hu.1) (fun _ => by omega) (fun _ => by omega) (fun _ => by omega) (fun _ => ?_) (fun _ => ?_) (fun _ => ⟨ho, by omega, hp⟩) (fun _ => hw.1) (fun _ => by omega) (fun _ => ?_) (fun _ => ?_) (fun _ => ?_) (fun _ => jInd (by omega)) (fun q => absurd q (by omega)) (fun _ => ?_)
    · unfold jInL; omega
    · unfold jInL; omega
    · unfold jInL; omega
    · unfold jInL; omega
    · unfold jInL; omega
    · rw [show (x : Int) + 1 = ((x + 1 : Nat) : Int) by omega]
      refine ih (x + 1) _ (by omega) (fun c hc => ?_) (fun k k0 k1 => ?_) (fun g => ?_) hq
      · rw [jupd_c, if_neg hc]
        exact aoth c hc
      · have h1 := hN2 k k0 k1
        rw [a118']
        show 0 ≤ (if k = w then M2 118 w + (10 - t) * Px else M2 118 k)
        split <;> omega
      · rw [a118', dot_upd ⟨hw.1, by omega⟩, a118, dot_upd ⟨hu.1, by omega⟩, hd g, hsum g]
        omega
end MWORMS2
