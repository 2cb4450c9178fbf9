/-! ## envy -/
def evF (M : Nat → Int → Int) (k e : Int) : Int := agF (M 3 k) (M 4 k) (M 2 k) e
def badP (M : Nat → Int → Int) (s : Int → Int) (a b : Int) : Bool := (hasB (M 1 4) a && hasB (M 1 4) b) && (decide (M 2 a ≤ M 2 b) && decide (evF M b (s b) < evF M a (s a)))
def envR (M : Nat → Int → Int) (s : Int → Int) (k : Int) : Nat → Bool
  | 0 => false
  | n + 1 => (badP M s k (k - ((n + 1 : Nat) : Int)) || badP M s (k - ((n + 1 : Nat) : Int)) k) || envR M s k n
def setS (s : Int → Int) (k v : Int) : Int → Int := fun j => if j = k then v else s j
def clsL (M : Nat → Int → Int) : Nat → Int → Int → (Int → Int) → List Int
  | 0, left, dg, _ => if left = 0 then [dg] else []
  | n + 1, left, dg, s =>
    if hasB (M 1 4) (6 - ((n + 1 : Nat) : Int)) = true then
      (if 0 ≤ left ∧ envR M (setS s (6 - ((n + 1 : Nat) : Int)) 0) (6 - ((n + 1 : Nat) : Int)) (5 - n) = false then clsL M n (left - 0) (dg * 10 + 0) (setS s (6 - ((n + 1 : Nat) : Int)) 0) else []) ++
      ((if 1 ≤ left ∧ envR M (setS s (6 - ((n + 1 : Nat) : Int)) 1) (6 - ((n + 1 : Nat) : Int)) (5 - n) = false then clsL M n (left - 1) (dg * 10 + 1) (setS s (6 - ((n + 1 : Nat) : Int)) 1) else []) ++
      (if 2 ≤ left ∧ envR M (setS s (6 - ((n + 1 : Nat) : Int)) 2) (6 - ((n + 1 : Nat) : Int)) (5 - n) = false then clsL M n (left - 2) (dg * 10 + 2) (setS s (6 - ((n + 1 : Nat) : Int)) 2) else []))
    else clsL M n left (dg * 10 + 3) (setS s (6 - ((n + 1 : Nat) : Int)) 0)
theorem ite_len {p : Prop} [Decidable p] (L : List Int) (b : Nat) (h : L.length ≤ b) : (if p then L else []).length ≤ b := by
  split
  · exact h
  · exact Nat.zero_le _
theorem clsL_len (M : Nat → Int → Int) : ∀ (n : Nat) (left dg : Int) (s : Int → Int), (clsL M n left dg s).length ≤ 3 ^ n
  | 0, left, dg, s => by
    unfold clsL
    split <;> simp
  | n + 1, left, dg, s => by
    unfold clsL
    have hp : 3 ^ (n + 1) = 3 ^ n * 3 := Nat.pow_succ ..
    split
    · rw [List.length_append, List.length_append]
      have h0 := ite_len (p := 0 ≤ left ∧ envR M (setS s (6 - ((n + 1 : Nat) : Int)) 0) (6 - ((n + 1 : Nat) : Int)) (5 - n) = false) _ _ (clsL_len M n (left - 0) (dg * 10 + 0) (setS s (6 - ((n + 1 : Nat) : Int)) 0))
      have h1 := ite_len (p := 1 ≤ left ∧ envR M (setS s (6 - ((n + 1 : Nat) : Int)) 1) (6 - ((n + 1 : Nat) : Int)) (5 - n) = false) _ _ (clsL_len M n (left - 1) (dg * 10 + 1) (setS s (6 - ((n + 1 : Nat) : Int)) 1))
      have h2 := ite_len (p := 2 ≤ left ∧ envR M (setS s (6 - ((n + 1 : Nat) : Int)) 2) (6 - ((n + 1 : Nat) : Int)) (5 - n) = false) _ _ (clsL_len M n (left - 2) (dg * 10 + 2) (setS s (6 - ((n + 1 : Nat) : Int)) 2))
      omega
    · have := clsL_len M n left (dg * 10 + 3) (setS s (6 - ((n + 1 : Nat) : Int)) 0)
      omega
/-- the cells of the shares: how many, which first -/
def aSh (L : List Int) (c f c' f' : Int) : Prop := c' = c + L.length ∧ f' = if c = 0 then L.headD f else f
theorem aSh_nil (c f : Int) : aSh [] c f c f := by
  refine ⟨by simp, ?_⟩
  split <;> rfl
theorem aSh_app {L1 L2 : List Int} {c f c1 f1 c2 f2 : Int} (h0 : 0 ≤ c) (h1 : aSh L1 c f c1 f1) (h2 : aSh L2 c1 f1 c2 f2) : aSh (L1 ++ L2) c f c2 f2 := by
  obtain ⟨a1, a2⟩ := h1
  obtain ⟨b1, b2⟩ := h2
  refine ⟨by rw [List.length_append, b1, a1]; omega, ?_⟩
  rw [b2, a2]
  cases L1 with
  | nil =>
    have : c1 = c := by rw [a1]; simp
    rw [this]
    simp
  | cons x t =>
    have hc1 : c1 ≠ 0 := by
      rw [a1, List.length_cons]
      omega
    rw [if_neg hc1]
    rfl
def dB (n : Nat) : Int := if n = 6 then 1 else if n = 5 then 10 else if n = 4 then 100 else if n = 3 then 1000 else if n = 2 then 10000 else if n = 1 then 100000 else 1000000
theorem dB_step {n : Nat} {dg : Int} (hn : n + 1 ≤ 6) (h : 0 ≤ dg ∧ dg < dB (n + 1)) : dg ≤ 100000 ∧ dg * 10 + 3 < dB n := by
  have : n = 0 ∨ n = 1 ∨ n = 2 ∨ n = 3 ∨ n = 4 ∨ n = 5 := by omega
  rcases this with e | e | e | e | e | e <;> subst e <;> simp [dB] at h ⊢ <;> omega
def fSh (M M' : Nat → Int → Int) : Prop := ∀ c, c ≠ 66 → c ≠ 67 → M' c = M c
section ENVY
variable {l : Launch} {z d : Nat} {X : jX} {M : Nat → Int → Int} {Q : Option jV → jM → Prop}
theorem c_X5_wronged {M1 : Nat → Int → Int} {s : Int → Int} {a b : Int} (hf : fSh M M1) (ha : hasB (M 1 4) a = true → M1 67 a = evF M a (s a)) (hb : hasB (M 1 4) b = true → M1 67 b = evF M b (s b)) (kk : Q (some (jI (bI (badP M s a b)))) (jG, M1)) : J l z X (d + 1) mX5_wronged (0, 0) 0 [jR 66, jR 1, jI a, jI b] [] (jG, M1) Q := by
  have e1 : M1 1 4 = M 1 4 := by rw [hf 1 (by omega) (by omega)]
  have e2 : M1 2 = M 2 := hf 2 (by omega) (by omega)
  have hv : ∀ (v : Bool), badP M s a b = v → Q (some (jI (bI v))) (jG, M1) := fun v e => by rw [← e]; exact kk
  refine b_X5_wronged_0 (fun _ q => (hasB_in q).1) (fun _ q => (hasB_in q).2) (fun q _ => (hasB_in q).1) (fun q _ => (hasB_in q).2) (fun q _ _ => (hasB_in q).1) (fun q _ _ => (hasB_in q).2) (fun _ q _ => (hasB_in q).1) (fun _ q _ => (hasB_in q).2) (fun g1 g2 g3 => hv false ?_) (fun g1 g2 g3 g4 => hv false ?_) (fun g1 g2 g3 g4 => hv true ?_) (fun g1 g2 => hv false ?_) (fun g1 => hv false ?_)
  all_goals rw [e1] at g1
  · rw [e2] at g3
    unfold badP
    rw [decide_eq_false (show ¬ M 2 a ≤ M 2 b by omega)]
    simp
  · rw [e1] at g2
    rw [ha g1, hb g2] at g4
    unfold badP
    rw [decide_eq_false (show ¬ evF M b (s b) < evF M a (s a) by omega)]
    simp
  · rw [e1] at g2
    rw [e2] at g3
    rw [ha g1, hb g2] at g4
    unfold badP
    rw [decide_eq_true g4, decide_eq_true g3, g1, g2]
    rfl
  · rw [e1] at g2
    unfold badP
    rw [g1, g2]
    rfl
  · unfold badP
    rw [g1]
    rfl
theorem c_X5_envies_2 {M1 : Nat → Int → Int} {s : Int → Int} {k : Int} (hf : fSh M M1) (hk : 0 ≤ k ∧ k < 6) (hs : ∀ j : Int, 0 ≤ j → j ≤ k → hasB (M 1 4) j = true → M1 67 j = evF M j (s j)) : ∀ (n : Nat) (x : Int), x = k - (n : Int) → 0 ≤ x → Q (some (jI (bI (envR M s k n)))) (jG, M1) → J l z X (d + 2) mX5_envies (0, 0) 2 [jR 66, jR 1, jI k, jI x] [] (jG, M1) Q := by
  have e1 : M1 1 4 = M 1 4 := by rw [hf 1 (by omega) (by omega)]
  intro n
  induction n with
  | zero =>
    intro x hx x0 kk
    exact b_X5_envies_2 (fun _ => kk) (fun q => absurd q (by omega)) (fun q => absurd q (by omega)) (fun q => absurd q (by omega))
  | succ n ih =>
    intro x hx x0 kk
    unfold envR at kk
    rw [← hx] at kk
    have hno : badP M s k x = false → badP M s x k = false → J l z X (d + 2) mX5_envies (0, 0) 43 [jR 66, jR 1, jI k, jI x] [] (jG, M1) Q := fun g1 g2 => by
      rw [g1, g2] at kk
      exact b_X5_envies_43 (jInd (by omega)) (ih _ (by omega) (by omega) kk)
    have hb0 : ∀ b : Bool, bI b = 0 → b = false := fun b => by unfold bI; cases b <;> simp
    have hb1 : ∀ b : Bool, bI b ≠ 0 → b = true := fun b => by unfold bI; cases b <;> simp
    refine b_X5_envies_2 (fun q => absurd q (by omega)) (fun _ q => absurd q (by omega)) (fun _ _ g => ?_) (fun _ _ g => ?_)
    · refine c_X5_wronged (s := s) hf (hs k (by omega) (by omega)) (hs x x0 (by omega)) (b_X5_envies_28 (fun c => ?_) (fun c => ?_))
      · rw [hb1 _ c] at kk
        exact kk
      · refine c_X5_wronged (s := s) hf (hs x x0 (by omega)) (hs k (by omega) (by omega)) (b_X5_envies_38 (fun c2 => hno (hb0 _ c) (hb0 _ c2)) (fun c2 => ?_))
        rw [hb1 _ c2, Bool.or_true] at kk
        exact kk
    · rw [e1] at g
      refine hno ?_ ?_
      · unfold badP
        rw [g, Bool.and_false]
        rfl
      · unfold badP
        rw [g]
        rfl
theorem c_X5_share (hI : Inv M) : ∀ (n : Nat) (k left dg : Int) (s : Int → Int) (M1 : Nat → Int → Int) (Q : Option jV → jM → Prop), n ≤ 6 → k = 6 - (n : Int) → (-10 ≤ left ∧ left ≤ 12) → (0 ≤ dg ∧ dg < dB n) → fSh M M1 → (∀ j : Int, 0 ≤ j → j < k → hasB (M 1 4) j = true → M1 67 j = evF M j (s j)) → 0 ≤ M1 66 1 → M1 66 1 + (clsL M n left dg s).length ≤ 2000 → (∀ M2, fSh M M2 → aSh (clsL M n left dg s) (M1 66 1) (M1 66 2) (M2 66 1) (M2 66 2) → (∀ j : Int, 0 ≤ j → j < k → M2 67 j = M1 67 j) → Q none (jG, M2)) → J l z X (d + n + 3) mX5_share (0, 0) 0 [jR 66, jR 1, jI k, jI left, jI dg, jN] [] (jG, M1) Q := by
  intro n
  induction n with
  | zero =>
    intro k left dg s M1 Q _ hk hl hd hf hs hc hb hq
    refine b_X5_share_0 (fun _ q => absurd q (by omega)) (fun _ q => absurd q (by omega)) (fun _ q => absurd q (by omega)) (fun q => absurd q (by omega)) (fun _ q => absurd q (by omega)) (fun _ q => absurd q (by omega)) (fun _ _ => b_X5_share_10 ?_)
    unfold clsL at hq hb
    refine b_X5_addShare_0 (fun g => b_X5_share_17 ?_) (fun g g2 => ?_) (fun g g2 => ?_)
    · rw [if_neg g] at hq
      exact hq M1 hf (aSh_nil _ _) (fun _ _ _ => rfl)
    · rw [if_pos g] at hq hb
      simp at hb
      refine b_X5_addShare_20 (by simp [jupd]; exact jInd (by omega)) (b_X5_share_17 (hq _ (fun c h1 h2 => by rw [jupd_c, if_neg h1, jupd_c, if_neg h1]; exact hf c h1 h2) ⟨by simp [jupd], ?_⟩ (fun j _ _ => by simp [jupd])))
      rw [if_neg g2]
      simp [jupd]
    · rw [if_pos g] at hq hb
      simp at hb
      refine b_X5_addShare_20 (by simp [jupd]; exact jInd (by omega)) (b_X5_share_17 (hq _ (fun c h1 h2 => by rw [jupd_c, if_neg h1, jupd_c, if_neg h1]; exact hf c h1 h2) ⟨by simp [jupd], ?_⟩ (fun j _ _ => by simp [jupd])))
      rw [if_pos g2]
      simp [jupd]
  | succ n ih =>
    intro k left dg s M1 Q hn hk hl hd hf hs hc hb hq
    obtain ⟨hd1, hd2⟩ := dB_step hn hd
    obtain ⟨⟨_, hr, hK⟩, _⟩ := id hI
    have k0 : 0 ≤ k := by omega
    have k1 : k < 6 := by omega
    have hkk := hK k k0 k1
    unfold clsL at hq hb
    rw [← hk] at hq hb
    have e1 : M1 1 4 = M 1 4 := by rw [hf 1 (by omega) (by omega)]
    refine b_X5_share_0 (fun _ _ _ => jInd (by omega)) (fun _ _ _ => jInd (by omega)) (fun _ _ _ => jInd (by omega)) (fun q => absurd q (by omega)) (fun _ _ g => ?_) (fun _ _ g => ?_) (fun _ q => absurd q (by omega))
    · rw [e1] at g
      rw [if_pos g] at hq hb
      have hstep : ∀ (h : Int) (M2 : Nat → Int → Int), 0 ≤ h ∧ h ≤ 2 → fSh M M2 → (∀ j : Int, 0 ≤ j → j < k → M2 67 j = M1 67 j) → 0 ≤ M2 66 1 → M2 66 1 + (if h ≤ left ∧ envR M (setS s k h) k (5 - n) = false then clsL M n (left - h) (dg * 10 + h) (setS s k h) else []).length ≤ 2000 → (¬ h ≤ left → Q none (jG, M2)) → (∀ M3, fSh M M3 → (∀ j : Int, 0 ≤ j → j < k → M3 67 j = M1 67 j) → aSh (if h ≤ left ∧ envR M (setS s k h) k (5 - n) = false then clsL M n (left - h) (dg * 10 + h) (setS s k h) else []) (M2 66 1) (M2 66 2) (M3 66 1) (M3 66 2) → J l z X (d + (n + 1) + 3) mX5_share (0, 0) 50 [jR 66, jR 1, jI k, jI left, jI dg, jI (h + 1)] [] (jG, M3) Q) → J l z X (d + (n + 1) + 3) mX5_share (0, 0) 50 [jR 66, jR 1, jI k, jI left, jI dg, jI h] [] (jG, M2) Q := by
        intro h M2 hh f2 s2 c2 b2 ex nx
        have a1 : M2 1 4 = M 1 4 := by rw [f2 1 (by omega) (by omega)]
        have a2 : M2 2 = M 2 := f2 2 (by omega) (by omega)
        have a3 : M2 3 = M 3 := f2 3 (by omega) (by omega)
        have a4 : M2 4 = M 4 := f2 4 (by omega) (by omega)
        refine b_X5_share_50 (fun _ _ => k0) (fun _ _ => k1) (fun _ _ _ => by rw [a2, a3]; omega) (fun q => absurd q (by omega)) (fun _ q => ex (by omega)) (fun _ hle => ?_)
        rw [a1, a2, a3, a4, g, agH_F hh]
        have f3 : fSh M (jupd M2 67 k (agF (M 3 k) (M 4 k) (M 2 k) h)) := fun c h1 h2 => by rw [jupd_c, if_neg h2]; exact f2 c h1 h2
        have s3 : ∀ j : Int, 0 ≤ j → j < k → jupd M2 67 k (agF (M 3 k) (M 4 k) (M 2 k) h) 67 j = M1 67 j := fun j j0 j1 => by
          have : j ≠ k := by omega
          simp [jupd, this]
          exact s2 j j0 j1
        have s4 : ∀ j : Int, 0 ≤ j → j ≤ k → hasB (M 1 4) j = true → jupd M2 67 k (agF (M 3 k) (M 4 k) (M 2 k) h) 67 j = evF M j (setS s k h j) := fun j j0 j1 hj => by
          by_cases e : j = k
          · subst e
            simp [jupd, setS, evF]
          · rw [s3 j j0 (by omega), hs j j0 (by omega) hj]
            simp [setS, e]
        have c3 : jupd M2 67 k (agF (M 3 k) (M 4 k) (M 2 k) h) 66 = M2 66 := by rw [jupd_c, if_neg (by omega)]
        generalize jupd M2 67 k (agF (M 3 k) (M 4 k) (M 2 k) h) = M3 at f3 s3 s4 c3 ⊢
        refine b_X5_envies_0 (c_X5_envies_2 (s := setS s k h) f3 ⟨k0, k1⟩ s4 (5 - n) 0 (by omega) (by omega) ?_)
        cases hev : envR M (setS s k h) k (5 - n) with
        | true =>
          refine b_X5_share_87 (fun q => absurd q (by decide)) (fun q => absurd q (by decide)) (fun q => absurd q (by decide)) (fun q => absurd q (by decide)) (fun _ => b_X5_share_110 (jInd (by omega)) (nx M3 f3 s3 ?_)) (fun q => absurd q (by decide))
          rw [if_neg (by rw [hev]; exact fun q => absurd q.2 (by decide)), c3]
          exact aSh_nil _ _
        | false =>
          rw [if_pos ⟨hle, hev⟩] at b2
          refine b_X5_share_87 (fun _ => jInd (by omega)) (fun _ => jInd (by omega)) (fun _ => jInd (by omega)) (fun _ => jInd (by omega)) (fun q => absurd rfl q) (fun _ => ?_)
          refine ih (k + 1) (left - h) (dg * 10 + h) (setS s k h) M3 _ (by omega) (by omega) (by omega) (by omega) f3 (fun j j0 j1 hj => s4 j j0 (by omega) hj) (by rw [c3]; exact c2) (by rw [c3]; exact b2) (fun M4 f4 a4' s5 => b_X5_share_110 (jInd (by omega)) (nx M4 f4 (fun j j0 j1 => (s5 j j0 (by omega)).trans (s3 j j0 j1)) ?_))
          rw [if_pos ⟨hle, hev⟩]
          rw [c3] at a4'
          exact a4'
      have hnil : ∀ (h : Int) (b : Bool) (L : List Int), ¬ h ≤ left → (if h ≤ left ∧ b = false then L else []) = [] := fun h b L e => if_neg (fun q => e q.1)
      rw [List.length_append, List.length_append] at hb
      generalize hL0 : (if 0 ≤ left ∧ envR M (setS s k 0) k (5 - n) = false then clsL M n (left - 0) (dg * 10 + 0) (setS s k 0) else []) = L0 at hq hb
      generalize hL1 : (if 1 ≤ left ∧ envR M (setS s k 1) k (5 - n) = false then clsL M n (left - 1) (dg * 10 + 1) (setS s k 1) else []) = L1 at hq hb
      generalize hL2 : (if 2 ≤ left ∧ envR M (setS s k 2) k (5 - n) = false then clsL M n (left - 2) (dg * 10 + 2) (setS s k 2) else []) = L2 at hq hb
      refine hstep 0 M1 (by omega) hf (fun _ _ _ => rfl) hc (by rw [hL0]; omega) (fun e => ?_) (fun M2 f2 s2 a2 => ?_)
      · rw [← hL0, ← hL1, ← hL2, hnil _ _ _ e, hnil _ _ _ (show ¬ (1 : Int) ≤ left by omega), hnil _ _ _ (show ¬ (2 : Int) ≤ left by omega)] at hq
        exact hq M1 hf (aSh_nil _ _) (fun _ _ _ => rfl)
      rw [hL0] at a2
      have c2 := a2.1
      refine hstep 1 M2 (by omega) f2 s2 (by omega) (by rw [hL1]; omega) (fun e => ?_) (fun M3 f3 s3 a3 => ?_)
      · rw [← hL1, ← hL2, hnil _ _ _ e, hnil _ _ _ (show ¬ (2 : Int) ≤ left by omega), List.nil_append, List.append_nil] at hq
        exact hq M2 f2 a2 s2
      rw [hL1] at a3
      have c3 := a3.1
      refine hstep 2 M3 (by omega) f3 s3 (by omega) (by rw [hL2]; omega) (fun e => ?_) (fun M4 f4 s4 a4 => ?_)
      · rw [← hL2, hnil _ _ _ e, List.append_nil] at hq
        exact hq M3 f3 (aSh_app hc a2 a3) s3
      rw [hL2] at a4
      refine b_X5_share_50 (fun q => absurd q (by omega)) (fun q => absurd q (by omega)) (fun q => absurd q (by omega)) (fun _ => hq M4 f4 (aSh_app hc a2 (aSh_app (by omega) a3 a4)) s4) (fun q => absurd q (by omega)) (fun q => absurd q (by omega))
    · rw [e1] at g
      rw [if_neg (by rw [g]; decide)] at hq hb
      refine ih (k + 1) left (dg * 10 + 3) (setS s k 0) M1 _ (by omega) (by omega) hl (by omega) hf (fun j j0 j1 hj => ?_) hc hb (fun M2 f2 a2 s2 => b_X5_share_44 (hq M2 f2 a2 (fun j j0 j1 => s2 j j0 (by omega))))
      by_cases e : j = k
      · rw [e, g] at hj
        exact absurd hj (by decide)
      · rw [hs j j0 (by omega) hj]
        simp [setS, e]
end ENVY
