/-! ## keeps and plan: what is refused -/
def kpR (t s m n v : Int) : Int :=
  if ¬ (0 ≤ s ∧ s ≤ 63) then -1 else if jand s (jxor t (-1)) ≠ 0 then -1 else if ¬ (0 ≤ m ∧ m ≤ 6) then -2 else if ¬ (0 ≤ n ∧ n ≤ 6) then -2 else if ¬ (0 ≤ v ∧ v ≤ 99) then -2 else if 3 < popc s then -4 else 0
section KEEP
variable {l : Launch} {z d : Nat} {X : jX} {M : Nat → Int → Int} {Q : Option jV → jM → Prop}
theorem c_X9_refuseKeeping {s m n v : Int} (kk : Q (some (jI (kpR (M 1 4) s m n v))) (jG, M)) : J l z X (d + 1) mX9_refuseKeeping (0, 0) 0 [jR 0, jI s, jI m, jI n, jI v] [] (jG, M) Q := by
  unfold kpR at kk
  refine b_X9_refuseKeeping_0 (fun c _ _ _ _ => by omega) (fun c1 c2 c3 c4 c5 c6 => ?_) (fun c1 c2 c3 c4 c5 c6 => ?_) (fun c1 c2 c3 c4 c5 => ?_) (fun c1 c2 c3 c4 => ?_) (fun c1 c2 c3 => ?_) (fun c1 c2 => ?_) (fun c1 => ?_)
  · rw [if_neg (fun q => q c1), if_neg (fun q => q c2), if_neg (fun q => q c3), if_neg (fun q => q c4), if_neg (fun q => q c5), if_neg (by omega)] at kk; exact kk
  · rw [if_neg (fun q => q c1), if_neg (fun q => q c2), if_neg (fun q => q c3), if_neg (fun q => q c4), if_neg (fun q => q c5), if_pos c6] at kk; exact kk
  · rw [if_neg (fun q => q c1), if_neg (fun q => q c2), if_neg (fun q => q c3), if_neg (fun q => q c4), if_pos c5] at kk; exact kk
  · rw [if_neg (fun q => q c1), if_neg (fun q => q c2), if_neg (fun q => q c3), if_pos c4] at kk; exact kk
  · rw [if_neg (fun q => q c1), if_neg (fun q => q c2), if_pos c3] at kk; exact kk
  · rw [if_neg (fun q => q c1), if_pos c2] at kk; exact kk
  · rw [if_pos c1] at kk; exact kk
theorem c_X10_planRefusal {s m n v : Int} (kk : Q (some (jI (kpR (M 96 0) s m n v))) (jG, M)) : J l z X (d + 1) mX10_planRefusal (0, 0) 0 [jR 96, jI s, jI m, jI n, jI v] [] (jG, M) Q := by
  unfold kpR at kk
  refine b_X10_planRefusal_0 (fun c _ _ _ _ => by omega) (fun c1 c2 c3 c4 c5 c6 => ?_) (fun c1 c2 c3 c4 c5 c6 => ?_) (fun c1 c2 c3 c4 c5 => ?_) (fun c1 c2 c3 c4 => ?_) (fun c1 c2 c3 => ?_) (fun c1 c2 => ?_) (fun c1 => ?_)
  · rw [if_neg (fun q => q c1), if_neg (fun q => q c2), if_neg (fun q => q c3), if_neg (fun q => q c4), if_neg (fun q => q c5), if_neg (by omega)] at kk; exact kk
  · rw [if_neg (fun q => q c1), if_neg (fun q => q c2), if_neg (fun q => q c3), if_neg (fun q => q c4), if_neg (fun q => q c5), if_pos c6] at kk; exact kk
  · rw [if_neg (fun q => q c1), if_neg (fun q => q c2), if_neg (fun q => q c3), if_neg (fun q => q c4), if_pos c5] at kk; exact kk
  · rw [if_neg (fun q => q c1), if_neg (fun q => q c2), if_neg (fun q => q c3), if_pos c4] at kk; exact kk
  · rw [if_neg (fun q => q c1), if_neg (fun q => q c2), if_pos c3] at kk; exact kk
  · rw [if_neg (fun q => q c1), if_pos c2] at kk; exact kk
  · rw [if_pos c1] at kk; exact kk
/-- the seats: the set's ONES in their order, then none -/
def seatL (t s : Int) : Nat → List Int
  | 0 => []
  | n + 1 => (if jand (jshr s (6 - ((n + 1 : Nat) : Int))) 1 = 1 ∧ hasB t (6 - ((n + 1 : Nat) : Int)) = true then [6 - ((n + 1 : Nat) : Int)] else []) ++ seatL t s n
end KEEP
