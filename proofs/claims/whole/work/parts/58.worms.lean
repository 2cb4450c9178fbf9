theorem powF_rng {b : Int} (hb : 0 ≤ b ∧ b ≤ 10) : ∀ n : Nat, 0 ≤ powF b n ∧ powF b n ≤ powF 10 n
  | 0 => by simp [powF]
  | n + 1 => by
    have h := powF_rng hb n
    rw [powF_succ, powF_succ]
    refine ⟨Int.mul_nonneg h.1 hb.1, Int.mul_le_mul h.2 hb.2 hb.1 (by omega)⟩
theorem powF_ten {n : Nat} (hn : n ≤ 6) : 1 ≤ powF 10 n ∧ powF 10 n ≤ 1000000 := by
  have : n = 0 ∨ n = 1 ∨ n = 2 ∨ n = 3 ∨ n = 4 ∨ n = 5 ∨ n = 6 := by omega
  rcases this with e | e | e | e | e | e | e <;> subst e <;> decide
theorem bit_div {w : Int} {i : Nat} (hw : 0 ≤ w ∧ w < 64) (hi : i < 6) : (jand (jshr w (i : Int)) 1 = 1 ↔ (w / 2 ^ i) % 2 = 1) ∧ w / 2 ^ (i + 1) = w / 2 ^ i / 2 := by
  have hall : ∀ (n : Fin 64) (m : Fin 6), (jand (jshr ((n : Nat) : Int) ((m : Nat) : Int)) 1 = 1 ↔ (((n : Nat) : Int) / 2 ^ (m : Nat)) % 2 = 1) ∧ ((n : Nat) : Int) / 2 ^ ((m : Nat) + 1) = ((n : Nat) : Int) / 2 ^ (m : Nat) / 2 := by decide +kernel
  obtain ⟨n, rfl⟩ := jfin (n := 64) hw.1 hw.2
  exact hall n ⟨i, hi⟩
theorem shl_pow {a : Nat} (ha : a ≤ 6) : jshl 1 (a : Int) = 2 ^ a := by
  have : a = 0 ∨ a = 1 ∨ a = 2 ∨ a = 3 ∨ a = 4 ∨ a = 5 ∨ a = 6 := by omega
  rcases this with e | e | e | e | e | e | e <;> subst e <;> decide +kernel
theorem lkS_rng {p y : Int} (hp : 0 ≤ p ∧ p ≤ 9) (hy : 0 ≤ y ∧ y ≤ 99) : ∀ (n : Nat) (x w : Int), 0 ≤ x ∧ x ≤ 99 → 0 ≤ lkS p y n x w ∧ lkS p y n x w ≤ 99
  | 0, x, w, h => h
  | n + 1, x, w, h => by
    rw [lkS_succ]
    refine lkS_rng hp hy n _ _ ?_
    unfold agF
    split <;> simp <;> omega
section WORMS
variable {l : Launch} {z d : Nat} {X : jX} {M : Nat → Int → Int} {Q : Option jV → jM → Prop}
theorem c_X7_power_5 {b : Int} (hb : 0 ≤ b ∧ b ≤ 10) {T : Nat} (hT : T ≤ 6) : ∀ (m : Nat) (i : Nat), i + m = T → Q (some (jL (powF b T))) (jG, M) → J l z X d mX7_power (0, 0) 5 [jL b, jN, jI (T : Int), jL (powF b i), jN, jI (i : Int)] [] (jG, M) Q := by
  intro m
  induction m with
  | zero =>
    intro i hi k
    have e : i = T := by omega
    subst e
    exact b_X7_power_5 (fun q => absurd q (by omega)) (fun q => absurd q (by omega)) (fun _ => k) (fun q => absurd q (by omega))
  | succ m ih =>
    intro i hi k
    have h1 := powF_rng hb i
    have h2 := powF_ten (n := i) (by omega)
    have h3 : 0 ≤ powF b i * b := Int.mul_nonneg h1.1 hb.1
    have h4 : powF b i * b ≤ 1000000 * 10 := Int.mul_le_mul (by omega) hb.2 hb.1 (by omega)
    refine b_X7_power_5 (fun _ => ?_) (fun _ => jInd (by omega)) (fun q => absurd q (by omega)) (fun _ => ?_)
    · unfold jInL; omega
    · rw [← powF_succ, show (i : Int) + 1 = ((i + 1 : Nat) : Int) by omega]
      exact ih (i + 1) (by omega) k
theorem c_X7_power {b T : Int} (hb : 0 ≤ b ∧ b ≤ 10) (hT : 0 ≤ T ∧ T ≤ 6) (k : Q (some (jL (powF b T.toNat))) (jG, M)) : J l z X d mX7_power (0, 0) 0 [jL b, jN, jI T, jN, jN, jN] [] (jG, M) Q := by
  have e : T = (T.toNat : Int) := by omega
  rw [e] at *
  have := c_X7_power_5 (l := l) (z := z) (X := X) (d := d) (M := M) (Q := Q) hb (T := T.toNat) (by omega) T.toNat 0 (by omega) (by simpa using k)
  exact b_X7_power_0 this
theorem c_X7_looksBehind_23 (hI : Inv M) {one w : Int} {a : Nat} (ho : hasB (M 1 4) one = true) (ha : a ≤ 6) (hw : 0 ≤ w ∧ w < 64) : ∀ (m i : Nat) (x : Int), i + m = a → 0 ≤ x ∧ x ≤ 99 → Q (some (jI (lkS (M 3 one) (M 4 one) m x (w / 2 ^ i)))) (jG, M) → J l z X (d + 2) mX7_looksBehind (0, 0) 23 [jR 1, jI one, jI (a : Int), jI w, jI x, jI (i : Int)] [] (jG, M) Q := by
  obtain ⟨_, hr, hk⟩ := hI.1
  have hin := hasB_in ho
  have hkk := hk one hin.1 hin.2
  intro m
  induction m with
  | zero =>
    intro i x hi hx k
    exact b_X7_looksBehind_23 (fun _ => k) (fun q => absurd q (by omega)) (fun q => absurd q (by omega))
  | succ m ih =>
    intro i x hi hx k
    obtain ⟨hb1, hb2⟩ := bit_div (i := i) hw (by omega)
    rw [lkS_succ, ← hb2] at k
    have hend : ∀ e : Int, 0 ≤ e ∧ e ≤ 2 → agF (M 3 one) (M 4 one) x e = (if w / 2 ^ i % 2 = 1 then agF (M 3 one) (M 4 one) x 0 else agF (M 3 one) (M 4 one) x 2) → J l z X (d + 2) mX7_looksBehind (0, 0) 48 [jR 1, jI one, jI (a : Int), jI w, jI x, jI (i : Int)] [jI e, jI x, jI one, jR 1] (jG, M) Q := by
      intro e he hv
      refine b_X7_looksBehind_48 (fun _ => ⟨by omega, by omega⟩) (jInd (by omega)) ?_
      rw [ho, agH_F he, hv, show (i : Int) + 1 = ((i + 1 : Nat) : Int) by omega]
      refine ih (i + 1) _ (by omega) ?_ k
      unfold agF
      split <;> simp <;> omega
    refine b_X7_looksBehind_23 (fun q => absurd q (by omega)) (fun _ g => hend 2 (by omega) ?_) (fun _ g => hend 0 (by omega) ?_)
    · rw [if_neg (fun q => g (hb1.2 q))]
    · rw [if_pos (hb1.1 g)]
theorem c_X7_weigh_6 (hI : Inv M) {one t v : Int} {a : Nat} (ho : hasB (M 1 4) one = true) (ha : a ≤ 6) (ht : 0 ≤ t ∧ t ≤ 10) : ∀ (m : Nat) (w acc : Int), w = 2 ^ a - (m : Int) → 0 ≤ w → 0 ≤ acc ∧ acc ≤ 100000000000000 * w → Q (some (jL (acc + sumF (fW t (M 3 one) (M 4 one) v a (M 2 one)) m w))) (jG, M) → J l z X (d + 3) mX7_weigh (0, 0) 6 [jR 1, jI one, jI (a : Int), jI t, jI v, jL acc, jN, jI w, jN, jN, jN, jN] [] (jG, M) Q := by
  obtain ⟨_, hr, hk⟩ := hI.1
  have hin := hasB_in ho
  have hkk := hk one hin.1 hin.2
  have h2a := two_pow ha
  have hsh := shl_pow ha
  intro m
  induction m with
  | zero =>
    intro w acc hw w0 hacc k
    refine b_X7_weigh_6 (fun _ => ?_) (fun q => absurd q (by omega))
    simpa [sumF] using k
  | succ m ih =>
    intro w acc hw w0 hacc k
    have k' : Q (some (jL (acc + (fW t (M 3 one) (M 4 one) v a (M 2 one) w + sumF (fW t (M 3 one) (M 4 one) v a (M 2 one)) m (w + 1))))) (jG, M) := k
    rw [← Int.add_assoc] at k'
    have hw64 : 0 ≤ w ∧ w < 64 := by omega
    have hpc := popc_pow ha (w := w) (by omega)
    have hL := lkS_rng (p := M 3 one) (y := M 4 one) (by omega) (by omega) a (M 2 one) w (by omega)
    refine b_X7_weigh_6 (fun q => absurd q (by omega)) (fun _ => ?_)
    refine b_X7_looksBehind_0 (fun _ => hin.1) (fun _ => hin.2) (fun _ => b_X7_looksBehind_18 ?_) (fun q => absurd (ho.symm.trans q) (by decide))
    refine c_X7_looksBehind_23 hI ho ha hw64 a 0 (M 2 one) (by omega) (by omega) ?_
    rw [show w / 2 ^ 0 = w by simp]
    refine b_X7_weigh_22 (by omega) (c_X7_power ht (by omega) (b_X7_weigh_38 (jInd (by omega)) (jInd (by omega)) (c_X7_power (by omega) (by omega) ?_)))
    have p1 := powF_rng ht (popc w).toNat
    have p2 := powF_rng (b := 10 - t) (by omega) ((a : Int) - popc w).toNat
    have p3 := powF_ten (n := (popc w).toNat) (by omega)
    have p4 := powF_ten (n := ((a : Int) - popc w).toNat) (by omega)
    have ew : wtF t a w = powF t (popc w).toNat * powF (10 - t) ((a : Int) - popc w).toNat := by
      unfold wtF
      rw [show a - (popc w).toNat = ((a : Int) - popc w).toNat by omega]
    have q1 : 0 ≤ powF t (popc w).toNat * powF (10 - t) ((a : Int) - popc w).toNat := Int.mul_nonneg p1.1 p2.1
    have q2 : powF t (popc w).toNat * powF (10 - t) ((a : Int) - popc w).toNat ≤ 1000000 * 1000000 := Int.mul_le_mul (by omega) (by omega) p2.1 (by omega)
    have ef : fW t (M 3 one) (M 4 one) v a (M 2 one) w = wtF t a w * valF v (lkS (M 3 one) (M 4 one) a (M 2 one) w) := rfl
    rw [← ew] at q1 q2
    generalize hWt : wtF t a w = W at q1 q2 ef ew
    generalize hLk : lkS (M 3 one) (M 4 one) a (M 2 one) w = L at hL ef ⊢
    have q3 : 0 ≤ W * L := Int.mul_nonneg q1 hL.1
    have q4 : W * L ≤ (1000000 * 1000000) * 99 := Int.mul_le_mul q2 hL.2 hL.1 (by omega)
    have hend : ∀ acc' : Int, acc' = acc + fW t (M 3 one) (M 4 one) v a (M 2 one) w → acc ≤ acc' ∧ acc' ≤ acc + 100000000000000 → J l z X (d + 3) mX7_weigh (0, 0) 86 [jR 1, jI one, jI (a : Int), jI t, jI v, jL acc', jN, jI w, jI L, jI (popc w), jL W, jN] [] (jG, M) Q := by
      intro acc' e hb
      rw [← e] at k'
      exact b_X7_weigh_86 (jInd (by omega)) (ih (w + 1) acc' (by omega) (by omega) (by omega) k')
    refine b_X7_weigh_50 ?_ (fun _ _ => ?_) (fun _ => ?_) (fun _ => ?_) (fun g1 g2 => ?_) (fun g1 g2 => ?_) (fun g1 => ?_)
    all_goals rw [← ew]
    · unfold jInL; omega
    · unfold jInL; omega
    · unfold jInL; omega
    · unfold jInL; omega
    · refine hend _ ?_ (by omega)
      rw [ef]; unfold valF; rw [if_neg (by omega), if_neg (by omega)]; omega
    · refine hend _ ?_ (by omega)
      rw [ef]; unfold valF; rw [if_neg (by omega), if_pos g2, Int.mul_one]
    · refine hend _ ?_ (by omega)
      rw [ef]; unfold valF; rw [if_pos g1]
end WORMS
