section REST
variable {l : Launch} {z d : Nat} {X : jX} {M : Nat → Int → Int} {Q : Option jV → jM → Prop}
def lstB (M : Nat → Int → Int) (v one age m : Int) : Bool := !hasB (M 1 4) one || decide (min 99 (age + m * M 3 one) ≤ v)
theorem c_X3_lastsRest {one age m v : Int} (hv : M 19 9 = v) (ha : 0 ≤ age ∧ age ≤ 99) (hm : 0 ≤ m ∧ m ≤ 6) (hp : hasB (M 1 4) one = true → 0 ≤ M 3 one ∧ M 3 one ≤ 9) (k : Q (some (jI (bI (lstB M v one age m)))) (jG, M)) : J l z X (d + 1) mX3_lastsRest (0, 0) 0 [jR 19, jR 1, jI one, jI age, jI m] [] (jG, M) Q := by
  have hmul : hasB (M 1 4) one = true → 0 ≤ m * M 3 one ∧ m * M 3 one ≤ 6 * 9 := fun q => ⟨Int.mul_nonneg hm.1 (hp q).1, Int.mul_le_mul hm.2 (hp q).2 (hp q).1 (by omega)⟩
  refine b_X3_lastsRest_0 (fun q => (hasB_in q).1) (fun q => (hasB_in q).2) (fun q => jInd (by have := hmul q; omega)) (fun q => jInd (by have := hmul q; omega)) (fun q g => ?_) (fun q g => ?_) (fun q => ?_)
  · rw [hv] at g
    have e : lstB M v one age m = false := by
      unfold lstB
      rw [q, decide_eq_false (by omega)]
      rfl
    rw [e] at k
    exact k
  · rw [hv] at g
    have e : lstB M v one age m = true := by
      unfold lstB
      rw [decide_eq_true g, Bool.or_true]
    rw [e] at k
    exact k
  · have e : lstB M v one age m = true := by
      unfold lstB
      rw [q]
      rfl
    rw [e] at k
    exact k
end REST
