/-! ## keeps and plan: the least, by pure reckoning -/
/-- the age behind a day of a seat with a ONE (h), with pace p and youth y -/
def stepK (h : Bool) (p y : Int) (e x : Int) : Int := agH h p y x e
/-- does it last m more mornings without a bite, under v -/
def lastK (h : Bool) (p v : Int) (m x : Int) : Prop := h = true → min 99 (x + m * p) ≤ v
theorem lastK_step {h : Bool} {p y v m x e : Int} (hp : 0 ≤ p ∧ p ≤ 9) (hy : 0 ≤ y ∧ y ≤ x) (hx : x ≤ 99) (hm : 0 ≤ m) (he : 0 ≤ e ∧ e ≤ 2) (k : lastK h p v (m + 1) x) : lastK h p v m (stepK h p y e x) ∧ (h = true → stepK h p y e x ≤ v) := by
  have e1 : (m + 1) * p = m * p + p := by rw [Int.add_mul, Int.one_mul]
  have e2 : 0 ≤ m * p := Int.mul_nonneg hm hp.1
  unfold lastK stepK at *
  constructor
  · intro hh
    have k := k hh
    rw [e1] at k
    subst hh
    rw [agH_F he]
    unfold agF
    split
    · omega
    · split <;> omega
  · intro hh
    have k := k hh
    rw [e1] at k
    subst hh
    rw [agH_F he]
    unfold agF
    split
    · omega
    · split <;> omega
