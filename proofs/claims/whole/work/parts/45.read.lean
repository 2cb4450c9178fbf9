/-! ## the pad, read -/
def isE (s c : Int) : Prop := (s = 0 ∧ ¬ (65 ≤ c ∧ c ≤ 70) ∧ c ≠ 33 ∧ c ≠ 46) ∨ (s = 1 ∧ c ≠ 98 ∧ c ≠ 104 ∧ c ≠ 120 ∧ c ≠ 62) ∨ (s = 2 ∧ ¬ (65 ≤ c ∧ c ≤ 70))
def isEb (s c : Int) : Bool := decide ((s = 0 ∧ ¬ (65 ≤ c ∧ c ≤ 70) ∧ c ≠ 33 ∧ c ≠ 46) ∨ (s = 1 ∧ c ≠ 98 ∧ c ≠ 104 ∧ c ≠ 120 ∧ c ≠ 62) ∨ (s = 2 ∧ ¬ (65 ≤ c ∧ c ≤ 70)))
theorem isEb_t {s c : Int} (h : isE s c) : isEb s c = true := decide_eq_true h
theorem isEb_f {s c : Int} (h : ¬ isE s c) : isEb s c = false := decide_eq_false h
def putB (B : Nat → Int → Int) (k x y s : Int) : Nat → Int → Int := fun c j =>
  if c = 0 then (if j = 0 then B 0 0 + 1 else if j = 2 then s else B 0 j)
  else if c = 1 then (if j = B 0 0 then k else B 1 j)
  else if c = 2 then (if j = B 0 0 then x else B 2 j)
  else if c = 3 then (if j = B 0 0 then y else B 3 j)
  else B c j
def stB (B : Nat → Int → Int) (x s : Int) : Nat → Int → Int := fun c j => if c = 0 then (if j = 1 then x else if j = 2 then s else B 0 j) else B c j
def rdB (B : Nat → Int → Int) (c : Int) : Nat → Int → Int :=
  if B 0 2 = 0 then (if 65 ≤ c ∧ c ≤ 70 then stB B (c - 65) 1 else putB B c 0 0 0)
  else if B 0 2 = 1 then (if c = 62 then stB B (B 0 1) 2 else putB B c (B 0 1) (B 0 1) 0)
  else putB B 62 (B 0 1) (c - 65) 0
def readV (p : Int → Int) (L : Int) : Nat → Int → (Nat → Int → Int) → Int
  | 0, _, B => if B 0 2 = 0 then -6 else L
  | m + 1, i, B => if isEb (B 0 2) (p i) = true then i else readV p L m (i + 1) (rdB B (p i))
def readB (p : Int → Int) : Nat → Int → (Nat → Int → Int) → Nat → Int → Int
  | 0, _, B => B
  | m + 1, i, B => if isEb (B 0 2) (p i) = true then B else readB p m (i + 1) (rdB B (p i))
def okB (B : Nat → Int → Int) (i : Int) : Prop := (0 ≤ B 0 0 ∧ B 0 0 ≤ i) ∧ (B 0 2 = 0 ∨ B 0 2 = 1 ∨ B 0 2 = 2) ∧ ∀ j : Int, 0 ≤ j → j < B 0 0 → isK (B 1 j)
theorem okB_put {B : Nat → Int → Int} {i k x y : Int} (h : okB B i) (hk : isK k) : okB (putB B k x y 0) (i + 1) := by
  obtain ⟨⟨h1, h2⟩, h3, h4⟩ := h
  refine ⟨?_, Or.inl (by simp [putB]), fun j j0 j1 => ?_⟩
  · simp [putB]; omega
  · simp [putB] at j1 ⊢
    by_cases e : j = B 0 0
    · rw [if_pos e]; exact hk
    · rw [if_neg e]; exact h4 j j0 (by omega)
theorem okB_rd {B : Nat → Int → Int} {i c : Int} (h : okB B i) (hc : ¬ isE (B 0 2) c) : okB (rdB B c) (i + 1) := by
  obtain ⟨⟨h1, h2⟩, h3, h4⟩ := id h
  unfold isE at hc
  unfold rdB
  split
  · split
    · refine ⟨by simp [stB]; omega, Or.inr (Or.inl (by simp [stB])), fun j j0 j1 => ?_⟩
      simp [stB] at j1 ⊢
      exact h4 j j0 j1
    · exact okB_put h (by unfold isK; omega)
  · split
    · split
      · refine ⟨by simp [stB]; omega, Or.inr (Or.inr (by simp [stB])), fun j j0 j1 => ?_⟩
        simp [stB] at j1 ⊢
        exact h4 j j0 j1
      · exact okB_put h (by unfold isK; omega)
    · exact okB_put h (by unfold isK; omega)
theorem readB_ok {p : Int → Int} : ∀ (m : Nat) (i : Int) (B : Nat → Int → Int), okB B i → okB (readB p m i B) (i + m)
  | 0, i, B, h => by simpa [readB] using h
  | m + 1, i, B, h => by
    unfold readB
    by_cases e : isE (B 0 2) (p i)
    · rw [if_pos (isEb_t e)]
      obtain ⟨⟨h1, h2⟩, h3, h4⟩ := h
      exact ⟨⟨h1, by omega⟩, h3, h4⟩
    · rw [if_neg (by rw [isEb_f e]; decide)]
      have := readB_ok (p := p) m (i + 1) _ (okB_rd h e)
      have e9 : i + 1 + (m : Int) = i + ((m + 1 : Nat) : Int) := by omega
      rw [e9] at this
      exact this
def rC (M B : Nat → Int → Int) : Prop := M 6 5 = B 0 0 ∧ ∀ i : Int, 0 ≤ i → i < B 0 0 → M 8 i = B 1 i ∧ M 9 i = B 2 i ∧ M 10 i = B 3 i
def fC (M M' : Nat → Int → Int) : Prop := (∀ c, c ≠ 6 → c ≠ 8 → c ≠ 9 → c ≠ 10 → M' c = M c) ∧ ∀ j : Int, j ≠ 5 → M' 6 j = M 6 j
section READ
variable {l : Launch} {z d : Nat} {X : jX} {M B : Nat → Int → Int} {Q : Option jV → jM → Prop}
theorem c_X4_addAct {M0 : Nat → Int → Int} (hb : 0 ≤ B 0 0 ∧ B 0 0 < 60) (hr : rC M B) (hf : fC M0 M) {k x y s : Int} (hq : ∀ M', rC M' (putB B k x y s) → fC M0 M' → Q none (jG, M')) : J l z X d mX4_addAct (0, 0) 0 [jR 6, jI k, jI x, jI y] [] (jG, M) Q := by
  have e := hr.1
  have e8 : jupd M 8 (M 6 5) k 6 5 = M 6 5 := by simp [jupd]
  have e9 : jupd (jupd M 8 (M 6 5) k) 9 (M 6 5) x 6 5 = M 6 5 := by simp [jupd]
  have e10 : jupd (jupd (jupd M 8 (M 6 5) k) 9 (M 6 5) x) 10 (M 6 5) y 6 5 = M 6 5 := by simp [jupd]
  refine b_X4_addAct_0 (fun q _ => q) (fun _ q => q) (fun q _ => ?_) (fun _ q => ?_) (fun q _ => ?_) (fun _ q => ?_) (fun _ _ => ?_) (fun q => absurd q (by omega)) (fun _ q => absurd q (by omega)) (fun _ _ => ?_)
  · rw [e8]; exact q
  · rw [e8]; exact q
  · rw [e8, e9]; exact q
  · rw [e8, e9]; exact q
  · rw [e8, e9, e10]; exact jInd (by omega)
  · rw [e8, e9, e10, e]
    refine hq _ ⟨?_, fun i i0 i1 => ?_⟩ ⟨fun c g1 g2 g3 g4 => ?_, fun j g => ?_⟩
    · simp [jupd, putB]
    · have e0 : putB B k x y s 0 0 = B 0 0 + 1 := by simp [putB]
      rw [e0] at i1
      by_cases f : i = B 0 0
      · simp [jupd, putB, f]
      · have := hr.2 i i0 (by omega)
        simp [jupd, putB, f, this]
    · rw [jupd_c, if_neg g1, jupd_c, if_neg g4, jupd_c, if_neg g3, jupd_c, if_neg g2]
      exact hf.1 c g1 g2 g3 g4
    · simp [jupd, g]
      exact hf.2 j g
theorem c_X4_read_11 {M0 : Nat → Int → Int} {n' : Int} {p' : Int → Int} (hp : pR (M0 6 4) (M0 7) n' p') : ∀ (m : Nat) (i s x : Int) (B M : Nat → Int → Int), i = M0 6 4 - (m : Int) → 0 ≤ i → s = B 0 2 → x = B 0 1 → okB B i → rC M B → fC M0 M → (∀ M', rC M' (readB (M0 7) m i B) → fC M0 M' → Q (some (jI (readV (M0 7) (M0 6 4) m i B))) (jG, M')) → J l z X (d + 1) mX4_read (0, 0) 11 [jR 6, jI s, jI x, jI i, jN] [] (jG, M) Q := by
  have p1 := hp.2.1
  have p2 := hp.2.2.1
  intro m
  induction m with
  | zero =>
    intro i s x B M hi i0 hs hx hb hr hf hq
    have e4 : M 6 4 = M0 6 4 := hf.2 4 (by omega)
    have hend : J l z X (d + 1) mX4_read (0, 0) 179 [jR 6, jI s, jI x, jI i, jN] [] (jG, M) Q := by
      unfold readV readB at hq
      refine b_X4_read_179 (fun c => ?_) (fun c => ?_)
      · rw [if_neg (by omega)] at hq
        rw [e4]
        exact hq M hr hf
      · rw [if_pos (by omega)] at hq
        exact hq M hr hf
    exact b_X4_read_11 (fun q => absurd q (by omega)) (fun q => absurd q (by omega)) (fun q => absurd q (by omega)) (fun _ => hend) (fun q => absurd q (by omega)) (fun q => absurd q (by omega)) (fun q => absurd q (by omega)) (fun q => absurd q (by omega))
  | succ m ih =>
    intro i s x B M hi i0 hs hx hb hr hf hq
    have e4 : M 6 4 = M0 6 4 := hf.2 4 (by omega)
    have e7 : M 7 = M0 7 := hf.1 7 (by omega) (by omega) (by omega) (by omega)
    have hb1 := hb.1
    have hb2 := hb.2.1
    generalize hcc : M0 7 i = c at hq
    have hrec : ∀ (s' x' : Int) (B' M' : Nat → Int → Int) (w : Int), ¬ isE (B 0 2) c → B' = rdB B c → s' = B' 0 2 → x' = B' 0 1 → rC M' B' → fC M0 M' → J l z X (d + 1) mX4_read (0, 0) 173 [jR 6, jI s', jI x', jI i, jI w] [] (jG, M') Q := by
      intro s' x' B' M' w he eB es ex r' f'
      unfold readV readB at hq
      simp only [hcc, isEb_f he, Bool.false_eq_true, if_false] at hq
      subst eB
      refine b_X4_read_173 (jInd (by omega)) (ih _ _ _ _ _ (by omega) (by omega) es ex (okB_rd hb he) r' f' hq)
    have herr : isE (B 0 2) c → Q (some (jI i)) (jG, M) := by
      intro he
      unfold readV readB at hq
      simp only [hcc, isEb_t he, if_true] at hq
      exact hq M hr hf
    have hst : ∀ (x' s' : Int), rC M (stB B x' s') := fun x' s' => ⟨by simpa [stB] using hr.1, fun j j0 j1 => by
      simp [stB] at j1
      simpa [stB] using hr.2 j j0 j1⟩
    have h141 : ¬ (s = 1 ∧ (c = 98 ∨ c = 104 ∨ c = 120 ∨ c = 62)) → (s = 0 → ¬ (65 ≤ c ∧ c ≤ 70) ∧ c ≠ 33 ∧ c ≠ 46) → J l z X (d + 1) mX4_read (0, 0) 141 [jR 6, jI s, jI x, jI i, jI c] [] (jG, M) Q := by
      intro g1 g2
      refine b_X4_read_141 (fun _ _ => jInd (by omega)) (fun g => herr (by unfold isE; omega)) (fun g g3 => ?_) (fun g g3 => herr (by unfold isE; omega))
      refine c_X4_addAct (B := B) (s := 0) (by omega) hr hf (fun M' n1 n2 => b_X4_read_166 ?_)
      refine hrec 0 x _ M' c (by unfold isE; omega) (show putB B 62 x (c - 65) 0 = rdB B c from ?_) (by simp [putB]) (by simp [putB, hx]) n1 n2
      unfold rdB
      rw [if_neg (by omega), if_neg (by omega), hx]
    have h124 : ¬ (s = 1 ∧ (c = 98 ∨ c = 104 ∨ c = 120)) → (s = 0 → ¬ (65 ≤ c ∧ c ≤ 70) ∧ c ≠ 33 ∧ c ≠ 46) → J l z X (d + 1) mX4_read (0, 0) 124 [jR 6, jI s, jI x, jI i, jI c] [] (jG, M) Q := by
      intro g1 g2
      refine b_X4_read_124 (fun g => h141 (by omega) g2) (fun g g3 => h141 (by omega) g2) (fun g g3 => ?_)
      refine hrec 2 x (stB B x 2) M c (by unfold isE; omega) ?_ (by simp [stB]) (by simp [stB]) (hst _ _) hf
      unfold rdB
      rw [if_neg (by omega), if_pos (by omega), if_pos g3, hx]
    have h111 : s = 1 → (c = 98 ∨ c = 104 ∨ c = 120) → J l z X (d + 1) mX4_read (0, 0) 111 [jR 6, jI s, jI x, jI i, jI c] [] (jG, M) Q := by
      intro g1 g2
      refine b_X4_read_111 (c_X4_addAct (B := B) (s := 0) (by omega) hr hf (fun M' n1 n2 => b_X4_read_119 ?_))
      refine hrec 0 x _ M' c (by unfold isE; omega) (show putB B c x x 0 = rdB B c from ?_) (by simp [putB]) (by simp [putB, hx]) n1 n2
      unfold rdB
      rw [if_neg (by omega), if_pos (by omega), if_neg (by omega), hx]
    have h85 : (s = 0 → ¬ (65 ≤ c ∧ c ≤ 70) ∧ c ≠ 33 ∧ c ≠ 46) → J l z X (d + 1) mX4_read (0, 0) 85 [jR 6, jI s, jI x, jI i, jI c] [] (jG, M) Q := fun g2 => b_X4_read_85 (fun g => h124 (by omega) g2) (fun g g3 => h111 g (by omega)) (fun g g3 g4 => h111 g (by omega)) (fun g g3 g4 g5 => h124 (by omega) g2) (fun g g3 g4 g5 => h111 g (by omega))
    have h74 : s = 0 → (c = 33 ∨ c = 46) → J l z X (d + 1) mX4_read (0, 0) 74 [jR 6, jI s, jI x, jI i, jI c] [] (jG, M) Q := by
      intro g1 g2
      refine b_X4_read_74 (c_X4_addAct (B := B) (s := 0) (by omega) hr hf (fun M' n1 n2 => b_X4_read_82 ?_))
      refine hrec s x _ M' c (by unfold isE; omega) (show putB B c 0 0 0 = rdB B c from ?_) (by simp [putB, g1]) (by simp [putB, hx]) n1 n2
      unfold rdB
      rw [if_pos (by omega), if_neg (by omega)]
    have h56 : (s = 0 → ¬ (65 ≤ c ∧ c ≤ 70)) → J l z X (d + 1) mX4_read (0, 0) 56 [jR 6, jI s, jI x, jI i, jI c] [] (jG, M) Q := fun g => b_X4_read_56 (fun g1 => h85 (by omega)) (fun g1 g2 => h74 g1 (by omega)) (fun g1 g2 g3 => h85 (by omega)) (fun g1 g2 g3 => h74 g1 (by omega))
    have e7i : M 7 i = c := by rw [e7]; exact hcc
    refine b_X4_read_11 (fun _ _ => i0) (fun _ q => q) (fun _ _ _ q => ?_) (fun q => absurd q (by omega)) (fun _ q => absurd q (by omega)) (fun _ _ g => ?_) (fun _ _ g g2 => ?_) (fun _ _ g g2 => ?_)
    · exact jInd (by omega)
    · rw [e7i]; exact h56 (fun q => absurd q g)
    · rw [e7i] at g2 ⊢
      refine hrec 1 (c - 65) (stB B (c - 65) 1) M c (by unfold isE; omega) ?_ (by simp [stB]) (by simp [stB]) (hst _ _) hf
      unfold rdB
      rw [if_pos (by omega), if_pos g2]
    · rw [e7i] at g2 ⊢
      exact h56 (fun _ => g2)
end READ
