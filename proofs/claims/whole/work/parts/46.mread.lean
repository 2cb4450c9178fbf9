def rM (M B : Nat → Int → Int) : Prop := M 96 16 = B 0 0 ∧ (∀ i : Int, 0 ≤ i → i < B 0 0 → M 104 i = kM (B 1 i) ∧ M 105 i = B 2 i ∧ M 106 i = (if B 1 i = 62 then B 3 i else 0)) ∧ (B 0 2 ≠ 0 → M 105 (B 0 0) = B 0 1)
def fM (M M' : Nat → Int → Int) : Prop := (∀ c, c ≠ 96 → c ≠ 104 → c ≠ 105 → c ≠ 106 → M' c = M c) ∧ ∀ j : Int, j ≠ 16 → M' 96 j = M 96 j
section MREAD
variable {l : Launch} {z d : Nat} {X : jX} {M B : Nat → Int → Int} {Q : Option jV → jM → Prop}
theorem c_X10_close {M0 : Nat → Int → Int} (hb : 0 ≤ B 0 0 ∧ B 0 0 < 60) (hr : M 96 16 = B 0 0 ∧ ∀ i : Int, 0 ≤ i → i < B 0 0 → M 104 i = kM (B 1 i) ∧ M 105 i = B 2 i ∧ M 106 i = (if B 1 i = 62 then B 3 i else 0)) (hf : fM M0 M) {k x y y' : Int} (h5 : M 105 (B 0 0) = x) (hy : y' = if k = 62 then y else 0) (hq : ∀ M', rM M' (putB B k x y 0) → fM M0 M' → Q (some (jI 0)) (jG, M')) : J l z X d mX10_close (0, 0) 0 [jR 96, jI (kM k), jI y'] [] (jG, M) Q := by
  have e := hr.1
  have e8 : jupd M 104 (M 96 16) (kM k) 96 16 = M 96 16 := by simp [jupd]
  have e9 : jupd (jupd M 104 (M 96 16) (kM k)) 106 (M 96 16) y' 96 16 = M 96 16 := by simp [jupd]
  refine b_X10_close_0 (by omega) (by omega) (by rw [e8]; omega) (by rw [e8]; omega) (by rw [e8, e9]; exact jInd (by omega)) ?_
  rw [e8, e9, e]
  refine hq _ ⟨?_, fun i i0 i1 => ?_, fun q => ?_⟩ ⟨fun c g1 g2 g3 g4 => ?_, fun j g => ?_⟩
  · simp [jupd, putB]
  · have e0 : putB B k x y 0 0 0 = B 0 0 + 1 := by simp [putB]
    rw [e0] at i1
    by_cases f : i = B 0 0
    · simp [jupd, putB, f, hy, h5]
    · have := hr.2 i i0 (by omega)
      simp [jupd, putB, f, this]
  · simp [putB] at q
  · rw [jupd_c, if_neg g1, jupd_c, if_neg g4, jupd_c, if_neg g2]
    exact hf.1 c g1 g2 g3 g4
  · simp [jupd, g]
    exact hf.2 j g
theorem c_X10_readOn {M0 : Nat → Int → Int} {i c : Int} (hb : okB B i) (hi : i < 60) (hr : rM M B) (hf : fM M0 M) (hc : 33 ≤ c ∧ c ≤ 126) (hE : isE (B 0 2) c → ∀ M', fM M0 M' → Q (some (jI (-6))) (jG, M')) (hq : ¬ isE (B 0 2) c → ∀ M', rM M' (rdB B c) → fM M0 M' → Q (some (jI (rdB B c 0 2))) (jG, M')) : J l z X (d + 2) mX10_readOn (0, 0) 0 [jR 96, jI (B 0 2), jI c] [] (jG, M) Q := by
  have hb1 := hb.1
  have hb2 := hb.2.1
  have e := hr.1
  have hcl : ∀ k x y : Int, ¬ isE (B 0 2) c → putB B k x y 0 = rdB B c → ∀ M', rM M' (putB B k x y 0) → fM M0 M' → Q (some (jI 0)) (jG, M') := by
    intro k x y he eB M' n1 n2
    rw [eB] at n1
    have := hq he M' n1 n2
    rw [← eB] at this
    simpa [putB] using this
  have h27 : ∀ v : Int, B 0 2 = 0 → (65 ≤ c ∧ c ≤ 70 → v = c - 65) → (¬ (65 ≤ c ∧ c ≤ 70) → v = 0) → J l z X (d + 2) mX10_readOn (0, 0) 27 [jR 96, jI (B 0 2), jI c] [jI v, jI (M 96 16), jR 105] (jG, M) Q := by
    intro v h0 hv hv2
    have hf1 : fM M0 (jupd M 105 (M 96 16) v) := ⟨fun c9 g1 g2 g3 g4 => by rw [jupd_c, if_neg g3]; exact hf.1 c9 g1 g2 g3 g4, fun j g => by simp [jupd]; exact hf.2 j g⟩
    have hr1 : jupd M 105 (M 96 16) v 96 16 = B 0 0 ∧ ∀ i : Int, 0 ≤ i → i < B 0 0 → jupd M 105 (M 96 16) v 104 i = kM (B 1 i) ∧ jupd M 105 (M 96 16) v 105 i = B 2 i ∧ jupd M 105 (M 96 16) v 106 i = (if B 1 i = 62 then B 3 i else 0) := by
      refine ⟨by simp [jupd, e], fun i i0 i1 => ?_⟩
      have := hr.2.1 i i0 i1
      have hne : i ≠ M 96 16 := by omega
      simpa [jupd, hne] using this
    have h5 : jupd M 105 (M 96 16) v 105 (B 0 0) = v := by simp [jupd, e]
    refine b_X10_readOn_27 (by omega) (by omega) (fun g => ?_) (fun g g1 g2 => hE ?_ _ hf1) (fun g g1 g2 => ?_) (fun g g1 => ?_)
    · have eB : rdB B c = stB B (c - 65) 1 := by unfold rdB; rw [if_pos h0, if_pos g]
      have hne : ¬ isE (B 0 2) c := by unfold isE; omega
      have := hq hne (jupd M 105 (M 96 16) v)
      rw [eB] at this
      have e2 : stB B (c - 65) 1 0 2 = 1 := by simp [stB]
      rw [e2] at this
      refine this ⟨?_, fun i i0 i1 => ?_, fun _ => ?_⟩ hf1
      · simpa [stB] using hr1.1
      · simp [stB] at i1
        simpa [stB] using hr1.2 i i0 i1
      · simp [stB]
        rw [h5, hv g]
    · unfold isE; omega
    · have hne : ¬ isE (B 0 2) c := by unfold isE; omega
      refine c_X10_close (B := B) (k := 46) (x := v) (y := 0) (by omega) hr1 hf1 h5 (by decide) (fun M' n1 n2 => b_X10_readOn_66 (hcl 46 v 0 hne ?_ M' n1 n2))
      unfold rdB
      rw [if_pos h0, if_neg g, hv2 g, g2]
    · have hne : ¬ isE (B 0 2) c := by unfold isE; omega
      refine c_X10_close (B := B) (k := 33) (x := v) (y := 0) (by omega) hr1 hf1 h5 (by decide) (fun M' n1 n2 => b_X10_readOn_51 (hcl 33 v 0 hne ?_ M' n1 n2))
      unfold rdB
      rw [if_pos h0, if_neg g, hv2 g, g1]
  refine b_X10_readOn_0 (fun _ _ _ => jInd (by omega)) (fun _ _ => jInd (by omega)) (fun g1 g2 g3 g4 g5 g6 => hE ?_ M hf) (fun g1 g2 g3 g4 g5 g6 => ?_) (fun g1 g2 g3 g4 g5 => ?_) (fun g1 g2 g3 g4 => ?_) (fun g1 g2 g3 => ?_) (fun g1 g2 g3 => ?_) (fun g1 g2 g3 => hE ?_ M hf) (fun g1 g2 => h27 _ g1 (fun _ => rfl) (fun q => absurd g2 q)) (fun g1 g2 => h27 _ g1 (fun q => absurd q g2) (fun _ => rfl))
  · unfold isE; omega
  · have hne : ¬ isE (B 0 2) c := by unfold isE; omega
    have eB : rdB B c = stB B (B 0 1) 2 := by unfold rdB; rw [if_neg g1, if_pos (by omega), if_pos g6]
    have := hq hne M
    rw [eB] at this
    have e2 : stB B (B 0 1) 2 0 2 = 2 := by simp [stB]
    rw [e2] at this
    refine this ⟨?_, fun i i0 i1 => ?_, fun _ => ?_⟩ hf
    · simpa [stB] using hr.1
    · simp [stB] at i1
      simpa [stB] using hr.2.1 i i0 i1
    · simp [stB]
      exact hr.2.2 g1
  · refine c_X10_close (B := B) (k := 120) (x := B 0 1) (y := B 0 1) (by omega) ⟨e, hr.2.1⟩ hf (hr.2.2 g1) (by rw [if_neg (by decide)]) (fun M' n1 n2 => b_X10_readOn_141 (hcl 120 _ _ (by unfold isE; omega) ?_ M' n1 n2))
    unfold rdB
    rw [if_neg g1, if_pos (by omega), if_neg (by omega), g5]
  · refine c_X10_close (B := B) (k := 104) (x := B 0 1) (y := B 0 1) (by omega) ⟨e, hr.2.1⟩ hf (hr.2.2 g1) (by rw [if_neg (by decide)]) (fun M' n1 n2 => b_X10_readOn_126 (hcl 104 _ _ (by unfold isE; omega) ?_ M' n1 n2))
    unfold rdB
    rw [if_neg g1, if_pos (by omega), if_neg (by omega), g4]
  · refine c_X10_close (B := B) (k := 98) (x := B 0 1) (y := B 0 1) (by omega) ⟨e, hr.2.1⟩ hf (hr.2.2 g1) (by rw [if_neg (by decide)]) (fun M' n1 n2 => b_X10_readOn_111 (hcl 98 _ _ (by unfold isE; omega) ?_ M' n1 n2))
    unfold rdB
    rw [if_neg g1, if_pos (by omega), if_neg (by omega), g3]
  · refine c_X10_close (B := B) (k := 62) (x := B 0 1) (y := c - 65) (by omega) ⟨e, hr.2.1⟩ hf (hr.2.2 g1) (by rw [if_pos rfl]) (fun M' n1 n2 => b_X10_readOn_93 (hcl 62 _ _ (by unfold isE; omega) ?_ M' n1 n2))
    unfold rdB
    rw [if_neg g1, if_neg (by omega)]
  · unfold isE; omega
theorem c_X10_fault_9 {M0 : Nat → Int → Int} {p : Int → Int} {L : Int} (hL : L ≤ 60) (hp : M0 96 12 = L ∧ ∀ i : Int, 0 ≤ i → i < L → M0 103 i = p i ∧ 33 ≤ p i ∧ p i ≤ 126) : ∀ (m : Nat) (i : Int) (B M : Nat → Int → Int), i = L - (m : Int) → 0 ≤ i → okB B i → rM M B → fM M0 M → (∀ M', (readV p L m i B = -6 → rM M' (readB p m i B)) → fM M0 M' → Q (some (jI (readV p L m i B))) (jG, M')) → J l z X (d + 3) mX10_fault (0, 0) 9 [jR 96, jI (B 0 2), jI i] [] (jG, M) Q := by
  intro m
  induction m with
  | zero =>
    intro i B M hi i0 hb hr hf hq
    have e4 : M 96 12 = L := (hf.2 12 (by omega)).trans hp.1
    unfold readV readB at hq
    refine b_X10_fault_9 (fun q => absurd q (by omega)) (fun q => absurd q (by omega)) (fun _ c => ?_) (fun _ c => ?_) (fun q => absurd q (by omega))
    · rw [if_neg c] at hq
      rw [e4]
      exact hq M (fun _ => hr) hf
    · rw [if_pos c] at hq
      exact hq M (fun _ => hr) hf
  | succ m ih =>
    intro i B M hi i0 hb hr hf hq
    have e4 : M 96 12 = L := (hf.2 12 (by omega)).trans hp.1
    have h3 := hp.2 i i0 (by omega)
    have e103 : M 103 i = p i := by rw [hf.1 103 (by omega) (by omega) (by omega) (by omega)]; exact h3.1
    unfold readV readB at hq
    refine b_X10_fault_9 (fun _ => i0) (fun _ => by omega) (fun q => absurd q (by omega)) (fun q => absurd q (by omega)) (fun _ => ?_)
    rw [e103]
    refine c_X10_readOn hb (by omega) hr hf h3.2 (fun he M' n2 => ?_) (fun he M' n1 n2 => ?_)
    · simp only [isEb_t he, if_true] at hq
      exact b_X10_fault_28 (fun q => absurd q (by decide)) (fun q => absurd q (by decide)) (fun _ => hq M' (fun q => absurd q (by omega)) n2)
    · simp only [isEb_f he, Bool.false_eq_true, if_false] at hq
      have ho := okB_rd hb he
      exact b_X10_fault_28 (fun _ => jInd (by omega)) (fun _ => ih _ _ _ (by omega) (by omega) ho n1 n2 hq) (fun q => absurd q (by have := ho.2.1; omega))
end MREAD
