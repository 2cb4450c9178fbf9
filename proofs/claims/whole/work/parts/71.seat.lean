section SEAT
variable {l : Launch} {z d : Nat} {X : jX} {M : Nat → Int → Int} {Q : Option jV → jM → Prop}
theorem getD_mid (A B : List Int) (x e : Int) : (A ++ (x :: B)).getD A.length e = x := by
  induction A with
  | nil => rfl
  | cons a t ih => exact ih
theorem getD_end (A : List Int) (e : Int) : ∀ j : Nat, A.length ≤ j → A.getD j e = e := by
  induction A with
  | nil => intro j _; rfl
  | cons a t ih =>
    intro j hj
    cases j with
    | zero => exact absurd hj (by simp)
    | succ j => exact ih j (by simpa using hj)
theorem c_X3_seat_56 {L : List Int} {s x3 : Int} {M0 : Nat → Int → Int} (hq : ∀ M2, (∀ c, c ≠ 20 → M2 c = M0 c) → (∀ j : Nat, j < 3 → M2 20 j = L.getD j (-6)) → Q none (jG, M2)) : ∀ (m x : Nat) (M1 : Nat → Int → Int), (x + m = 3 ∨ (m = 0 ∧ 3 ≤ x)) → (L.length ≤ x ∨ 3 ≤ x) → (∀ c, c ≠ 20 → M1 c = M0 c) → (∀ j : Nat, j < x → j < 3 → M1 20 j = L.getD j (-6)) → J l z X (d + 1) mX3_seat (0, 0) 56 [jR 19, jR 1, jI s, jI x3, jI (x : Int)] [] (jG, M1) Q := by
  intro m
  induction m with
  | zero =>
    intro x M1 hx hL f g
    exact b_X3_seat_56 (fun q => absurd q (by omega)) (fun q => absurd q (by omega)) (fun q => absurd q (by omega)) (fun _ => hq M1 f (fun j hj => g j (by omega) hj)) (fun q => absurd q (by omega))
  | succ m ih =>
    intro x M1 hx hL f g
    refine b_X3_seat_56 (fun _ => by omega) (fun _ => by omega) (fun _ => jInd (by omega)) (fun q => absurd q (by omega)) (fun _ => ?_)
    rw [show (x : Int) + 1 = ((x + 1 : Nat) : Int) by omega]
    refine ih (x + 1) _ (by omega) (by omega) (fun c hc => by rw [jupd_c, if_neg hc]; exact f c hc) (fun j j0 j1 => ?_)
    by_cases e : j = x
    · subst e
      rw [jupd_s, getD_end L (-6) j (by omega)]
    · have e2 : (j : Int) ≠ (x : Int) := by omega
      simp only [jupd]
      rw [if_neg (fun q => e2 q.2)]
      exact g j (by omega) j1
theorem c_X3_seat_5 {s : Int} {L : List Int} {M0 : Nat → Int → Int} (hq : ∀ M2, (∀ c, c ≠ 20 → M2 c = M0 c) → (∀ j : Nat, j < 3 → M2 20 j = L.getD j (-6)) → Q none (jG, M2)) : ∀ (n : Nat) (x : Int) (P : List Int) (M1 : Nat → Int → Int), x = 6 - (n : Int) → 0 ≤ x → L = P ++ seatL (M0 1 4) s n → P.length ≤ 3 → (∀ c, c ≠ 20 → M1 c = M0 c) → (∀ j : Nat, j < P.length → j < 3 → M1 20 j = L.getD j (-6)) → J l z X (d + 1) mX3_seat (0, 0) 5 [jR 19, jR 1, jI s, jI (P.length : Int), jI x] [] (jG, M1) Q := by
  intro n
  induction n with
  | zero =>
    intro x P M1 hx x0 hL hP f g
    have hl : L.length ≤ P.length := by rw [hL]; simp [seatL]
    exact b_X3_seat_5 (fun q => absurd q (by omega)) (fun q => absurd q (by omega)) (fun q => absurd q (by omega)) (fun _ => b_X3_seat_53 (c_X3_seat_56 hq (3 - P.length) P.length M1 (by omega) (by omega) f g)) (fun q => absurd q (by omega)) (fun q => absurd q (by omega)) (fun q => absurd q (by omega)) (fun q => absurd q (by omega))
  | succ n ih =>
    intro x P M1 hx x0 hL hP f g
    unfold seatL at hL
    rw [← hx] at hL
    have e4 : M1 1 4 = M0 1 4 := by rw [f 1 (by omega)]
    have hno : ¬ (jand (jshr s x) 1 = 1 ∧ hasB (M0 1 4) x = true) → J l z X (d + 1) mX3_seat (0, 0) 47 [jR 19, jR 1, jI s, jI (P.length : Int), jI x] [] (jG, M1) Q := fun e => by
      rw [if_neg e, List.nil_append] at hL
      exact b_X3_seat_47 (jInd (by omega)) (ih _ P M1 (by omega) (by omega) hL hP f g)
    refine b_X3_seat_5 (fun _ _ _ _ => by omega) (fun _ q _ _ => q) (fun _ _ _ _ => jInd (by omega)) (fun q => absurd q (by omega)) (fun _ q => b_X3_seat_53 (c_X3_seat_56 hq 0 P.length M1 (by omega) (by omega) f g)) (fun _ _ c => hno (fun q => c q.1)) (fun _ c0 c c2 => ?_) (fun _ _ c c2 => hno (fun q => ?_))
    · rw [e4] at c2
      rw [if_pos ⟨c, c2⟩] at hL
      have hlen : ((P ++ [x]).length : Int) = (P.length : Int) + 1 := by simp
      rw [← hlen]
      refine b_X3_seat_47 (jInd (by omega)) (ih _ (P ++ [x]) _ (by omega) (by omega) (by rw [hL, List.append_assoc]) (by simp; omega) (fun c9 hc => by rw [jupd_c, if_neg hc]; exact f c9 hc) (fun j j0 j1 => ?_))
      by_cases e : j = P.length
      · subst e
        rw [jupd_s, hL]
        exact (getD_mid P _ x (-6)).symm
      · have e2 : (j : Int) ≠ (P.length : Int) := by omega
        simp only [jupd]
        rw [if_neg (fun q => e2 q.2)]
        simp at j0
        exact g j (by omega) j1
    · rw [e4] at c2
      exact absurd (q.2.symm.trans c2) (by decide)
end SEAT
