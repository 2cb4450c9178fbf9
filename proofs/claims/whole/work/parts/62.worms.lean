def PairL (l : Launch) (z : Nat) (X : jX) (mc mm : jMt) (Lc Lm : List jV) : Prop := ∀ M : Nat → Int → Int, Inv M → J l z X 20 mc (0, 0) 0 Lc [] (jG, M) (fun r μ => ∃ (v : Int) (M' : Nat → Int → Int), r = some (jL v) ∧ μ = (jG, M') ∧ J l z X 20 mm (0, 0) 0 Lm [] (jG, M') (fun r' μ' => r' = some (jL v) ∧ ∃ M'' : Nat → Int → Int, μ' = (jG, M'') ∧ Inv M''))
section MWORMS4
variable {l : Launch} {z d : Nat} {X : jX} {M : Nat → Int → Int} {Q : Option jV → jM → Prop}
theorem c_X10_worms_143 {one a t v part : Int} {P : Int → Int} {W : Int} {n : Nat} (hP : ∀ k : Int, 0 ≤ k → k < 100 → 0 ≤ P k ∧ P k ≤ 1000000) (hv : -1 ≤ v) (hW : 0 < W) (hT : gT n W (dotF P (valF v))) (hq : ∀ M2, M2 = M → Q (some (jL (if part = 0 then dotF P (valF v) / gE n W (dotF P (valF v)) else W / gE n W (dotF P (valF v))))) (jG, M2)) (hM : M 117 = P) : ∀ (m x : Nat) (acc : Int), x + m = 100 → acc = sumF (fun k => P k * valF v k) x 0 → 0 ≤ acc → acc ≤ 100000000 * (x : Int) → J l z X (d + 2) mX10_worms (0, 0) 143 [jR 96, jI one, jI a, jI t, jI v, jI part, jL W, jN, jL acc, jN, jI (x : Int)] [] (jG, M) Q := by
  intro m
  induction m with
  | zero =>
    intro x acc hx hacc a0 a1
    have ex : x = 100 := by omega
    subst ex
    have e : acc = dotF P (valF v) := hacc
    refine b_X10_worms_143 (fun q => absurd q (by omega)) (fun q => absurd q (by omega)) (fun q => absurd q (by omega)) (fun q => absurd q (by omega)) (fun q => absurd q (by omega)) (fun _ => b_X10_lowest_0 ?_) (fun q => absurd q (by omega)) (fun q => absurd q (by omega)) (fun q => absurd q (by omega))
    rw [← e] at hT hq
    exact c_X10_lowest_6 a0 (by omega) n W acc hT hW a0 (b_X10_worms_207 (hq M rfl))
  | succ m ih =>
    intro x acc hx hacc a0 a1
    have hPx := hP (x : Int) (by omega) (by omega)
    have q1 : 0 ≤ (x : Int) * P x := Int.mul_nonneg (by omega) hPx.1
    have q2 : (x : Int) * P x ≤ 99 * 1000000 := Int.mul_le_mul (by omega) hPx.2 hPx.1 (by omega)
    have hs : sumF (fun k => P k * valF v k) (x + 1) 0 = acc + P x * valF v x := by
      rw [sumF_last, ← hacc, Int.zero_add]
    have hend : ∀ u : Int, u = P x * valF v x → 0 ≤ u → u ≤ 100000000 → J l z X (d + 2) mX10_worms (0, 0) 189 [jR 96, jI one, jI a, jI t, jI v, jI part, jL W, jN, jL acc, jN, jI (x : Int)] [jL u, jL acc] (jG, M) Q := by
      intro u hu u0 u1
      rw [← hu] at hs
      refine b_X10_worms_189 (by unfold jInL; omega) (jInd (by omega)) ?_
      rw [show (x : Int) + 1 = ((x + 1 : Nat) : Int) by omega]
      exact ih (x + 1) (acc + u) (by omega) hs.symm (by omega) (by omega)
    refine b_X10_worms_143 (fun _ _ _ => by omega) (fun _ _ _ => by omega) (fun _ _ => by omega) (fun _ _ => by omega) (fun _ _ => by rw [hM]; unfold jInL; omega) (fun q => absurd q (by omega)) (fun _ g1 g2 => hend 0 ?_ (by omega) (by omega)) (fun _ g1 g2 => hend _ ?_ ?_ ?_) (fun _ g1 => hend _ ?_ ?_ ?_)
    · unfold valF; rw [if_neg (by omega), if_neg (by omega)]; omega
    · unfold valF; rw [if_neg (by omega), if_pos g2, hM]; omega
    · rw [hM]; omega
    · rw [hM]; omega
    · unfold valF; rw [if_pos g1, hM, Int.mul_comm]
    · rw [hM]; omega
    · rw [hM]; omega
theorem c_X10_worms_111 {one t v part p y x0 : Int} {a : Nat} {M0 : Nat → Int → Int} (h98 : M0 98 one = p) (h99 : M0 99 one = y) (ho : 0 ≤ one ∧ one < 6) (hp : 0 ≤ p ∧ p ≤ 9) (hy : 0 ≤ y ∧ y ≤ 99) (ht : 0 ≤ t ∧ t ≤ 10) (ha : a ≤ 6) (hx0 : 0 ≤ x0 ∧ x0 ≤ 99) (hv : -1 ≤ v) {n : Nat} (hT : gT n (powF 10 a) (eE t p y v a x0)) (hq : ∀ M2, (∀ c, c ≠ 117 → c ≠ 118 → M2 c = M0 c) → Q (some (jL (if part = 0 then eE t p y v a x0 / gE n (powF 10 a) (eE t p y v a x0) else powF 10 a / gE n (powF 10 a) (eE t p y v a x0)))) (jG, M2)) : ∀ (m x : Nat) (M1 : Nat → Int → Int), x + m = a → (∀ c, c ≠ 117 → c ≠ 118 → M1 c = M0 c) → (∀ k : Int, 0 ≤ k → k < 100 → 0 ≤ M1 117 k) → dotF (M1 117) (fun _ => 1) = powF 10 x → dotF (M1 117) (eE t p y v m) = eE t p y v a x0 → J l z X (d + 2) mX10_worms (0, 0) 111 [jR 96, jI one, jI (a : Int), jI t, jI v, jI part, jL (powF 10 x), jN, jI (x : Int), jN, jN] [] (jG, M1) Q := by
  intro m
  induction m with
  | zero =>
    intro x M1 hx f hn h1 hd
    have ex : x = a := by omega
    subst ex
    have h10 := powF_ten (n := x) ha
    have hd' : dotF (M1 117) (valF v) = eE t p y v x x0 := hd
    refine b_X10_worms_111 (fun _ => ?_) (fun q => absurd q (by omega))
    refine c_X10_worms_143 (P := M1 117) (n := n) (fun k k0 k1 => ⟨hn k k0 k1, ?_⟩) hv (by omega) (by rw [hd']; exact hT) (fun M2 e => ?_) rfl 100 0 0 (by omega) rfl (by omega) (by omega)
    · have h3 : M1 117 k * 1 ≤ sumF (fun k => M1 117 k * 1) 100 0 := sumF_entry (f := fun k => M1 117 k * 1) 100 0 k (fun i i0 i1 => by have := hn i i0 (by omega); show 0 ≤ M1 117 i * 1; omega) (by omega) (by omega)
      have h4 : dotF (M1 117) (fun _ => 1) = sumF (fun k => M1 117 k * 1) 100 0 := rfl
      omega
    · rw [hd', e]
      exact hq M1 f
  | succ m ih =>
    intro x M1 hx f hn h1 hd
    have h10 := powF_ten (n := x) (by omega)
    refine b_X10_worms_111 (fun q => absurd q (by omega)) (fun _ => ?_)
    refine c_X10_wormyDay (p := p) (y := y) (by rw [f 98 (by omega) (by omega)]; exact h98) (by rw [f 99 (by omega) (by omega)]; exact h99) ho hp hy ht hn (by rw [h1]; omega) (fun M2 f2 n2 d2 => b_X10_worms_123 (by unfold jInL; omega) (jInd (by omega)) ?_)
    rw [← powF_succ, show (x : Int) + 1 = ((x + 1 : Nat) : Int) by omega]
    refine ih (x + 1) M2 (by omega) (fun c c1 c2 => (f2 c c1 c2).trans (f c c1 c2)) n2 ?_ ?_
    · have e2 : (fun v : Int => t * (fun _ => 1) (agF p y v 0) + (10 - t) * (fun _ => (1 : Int)) (agF p y v 2)) = fun _ => 10 := by
        funext k
        show t * 1 + (10 - t) * 1 = 10
        omega
      rw [d2, e2, dot_ten, h1, powF_succ]
      omega
    · rw [d2]
      exact hd
theorem c_X10_worms_69 {one a t v part x0 : Int} {M0 : Nat → Int → Int} (ho : 0 ≤ one ∧ one < 6) (h97 : M0 97 one = x0) (hq : ∀ M2, (∀ c, c ≠ 117 → M2 c = M0 c) → (∀ k : Int, 0 ≤ k → k < 100 → M2 117 k = if k = x0 then 0 + 1 else 0) → J l z X (d + 2) mX10_worms (0, 0) 111 [jR 96, jI one, jI a, jI t, jI v, jI part, jL 1, jN, jI 0, jN, jN] [] (jG, M2) Q) : ∀ (m : Nat) (x : Int) (M1 : Nat → Int → Int), x = 100 - (m : Int) → 0 ≤ x → (∀ c, c ≠ 117 → M1 c = M0 c) → (∀ k : Int, 0 ≤ k → k < x → M1 117 k = if k = x0 then 0 + 1 else 0) → J l z X (d + 2) mX10_worms (0, 0) 69 [jR 96, jI one, jI a, jI t, jI v, jI part, jI x, jN, jN, jN, jN] [] (jG, M1) Q := by
  intro m
  induction m with
  | zero =>
    intro x M1 hx x0' f g
    exact b_X10_worms_69 (fun q => absurd q (by omega)) (fun q => absurd q (by omega)) (fun _ => hq M1 f (fun k k0 k1 => g k k0 (by omega))) (fun q => absurd q (by omega)) (fun q => absurd q (by omega))
  | succ m ih =>
    intro x M1 hx x0' f g
    have hend : ∀ u : Int, u = (if x = x0 then 0 + 1 else 0) → J l z X (d + 2) mX10_worms (0, 0) 98 [jR 96, jI one, jI a, jI t, jI v, jI part, jI x, jN, jN, jN, jN] [jL u, jI x, jR 117] (jG, M1) Q := by
      intro u hu
      refine b_X10_worms_98 x0' (by omega) (jInd (by omega)) (ih _ _ (by omega) (by omega) (fun c hc => by rw [jupd_c, if_neg hc]; exact f c hc) (fun k k0 k1 => ?_))
      by_cases e : k = x
      · subst e
        rw [jupd_s, hu]
      · simp only [jupd, e]
        simpa using g k k0 (by omega)
    refine b_X10_worms_69 (fun _ => ho.1) (fun _ => ho.2) (fun q => absurd q (by omega)) (fun _ c => hend 0 ?_) (fun _ c => hend 1 ?_)
    · rw [f 97 (by omega), h97] at c
      rw [if_neg c]
    · rw [f 97 (by omega), h97] at c
      rw [if_pos c]; rfl
end MWORMS4
