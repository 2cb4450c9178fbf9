/-! ## the class: keeps and plan, the whole call -/
theorem bit_sub {t s k : Int} (ht : 0 ≤ t ∧ t ≤ 63) (hs : 0 ≤ s ∧ s ≤ 63) (hk : 0 ≤ k ∧ k < 6) (h : jand s (jxor t (-1)) = 0) (hb : jand (jshr s k) 1 = 1) : hasB t k = true := by
  have hall : ∀ (a b : Fin 64) (m : Fin 6), jand ((b : Nat) : Int) (jxor ((a : Nat) : Int) (-1)) = 0 → jand (jshr ((b : Nat) : Int) ((m : Nat) : Int)) 1 = 1 → hasB ((a : Nat) : Int) ((m : Nat) : Int) = true := by decide +kernel
  obtain ⟨a, rfl⟩ := jfin (n := 64) ht.1 (by omega)
  obtain ⟨b, rfl⟩ := jfin (n := 64) hs.1 (by omega)
  obtain ⟨m, rfl⟩ := jfin (n := 6) hk.1 hk.2
  exact hall a b m h hb
theorem seat_sub {t s : Int} (ht : 0 ≤ t ∧ t ≤ 63) (hs : 0 ≤ s ∧ s ≤ 63) (h : jand s (jxor t (-1)) = 0) : ∀ n : Nat, n ≤ 6 → seatL t s n = seatL 63 s n := by
  intro n
  induction n with
  | zero => intro _; rfl
  | succ n ih =>
    intro hn
    have h63 : ∀ m : Fin 6, hasB 63 ((m : Nat) : Int) = true := by decide +kernel
    have e63 : hasB 63 (6 - ((n + 1 : Nat) : Int)) = true := by
      have := h63 ⟨5 - n, by omega⟩
      rw [show (6 - ((n + 1 : Nat) : Int)) = ((5 - n : Nat) : Int) by omega]
      exact this
    unfold seatL
    rw [ih (by omega)]
    by_cases g : jand (jshr s (6 - ((n + 1 : Nat) : Int))) 1 = 1
    · rw [if_pos ⟨g, bit_sub ht hs (by omega) h g⟩, if_pos ⟨g, e63⟩]
    · rw [if_neg (fun q => g q.1), if_neg (fun q => g q.1)]
/-- the seats of a set -/
def seB (s j : Int) : Int := (seatL 63 s 6).getD j.toNat (-6)
theorem seB_all : ∀ s : Fin 64, ¬ (3 < popc ((s : Nat) : Int)) → (seatL 63 ((s : Nat) : Int) 6).length ≤ 3 ∧ (∀ j : Fin 3, seB ((s : Nat) : Int) ((j : Nat) : Int) = -6 ∨ (0 ≤ seB ((s : Nat) : Int) ((j : Nat) : Int) ∧ seB ((s : Nat) : Int) ((j : Nat) : Int) < 6 ∧ jand (jshr ((s : Nat) : Int) (seB ((s : Nat) : Int) ((j : Nat) : Int))) 1 = 1)) ∧ (∀ k : Fin 6, jand (jshr ((s : Nat) : Int) ((k : Nat) : Int)) 1 ≠ 0 → seB ((s : Nat) : Int) 0 = ((k : Nat) : Int) ∨ seB ((s : Nat) : Int) 1 = ((k : Nat) : Int) ∨ seB ((s : Nat) : Int) 2 = ((k : Nat) : Int)) := by decide +kernel
/-- what a set that is not refused is like -/
theorem kp_ok {t s m n v : Int} (ht : 0 ≤ t ∧ t ≤ 63) (h : kpR t s m n v = 0) : (0 ≤ s ∧ s ≤ 63) ∧ (0 ≤ m ∧ m ≤ 6) ∧ (0 ≤ n ∧ n ≤ 6) ∧ (0 ≤ v ∧ v ≤ 99) ∧ jand s (jxor t (-1)) = 0 ∧ (seatL 63 s 6).length ≤ 3 ∧ (∀ j : Int, 0 ≤ j → j < 3 → (hasB t (seB s j) = true ∧ 0 ≤ seB s j ∧ seB s j < 6) ∨ seB s j = -6) ∧ (∀ k : Int, 0 ≤ k ∧ k ≤ 5 → jand (jshr s k) 1 ≠ 0 → seB s 0 = k ∨ seB s 1 = k ∨ seB s 2 = k) := by
  unfold kpR at h
  by_cases h1 : ¬ (0 ≤ s ∧ s ≤ 63)
  · rw [if_pos h1] at h; omega
  rw [if_neg h1] at h
  by_cases h2 : jand s (jxor t (-1)) ≠ 0
  · rw [if_pos h2] at h; omega
  rw [if_neg h2] at h
  by_cases h3 : ¬ (0 ≤ m ∧ m ≤ 6)
  · rw [if_pos h3] at h; omega
  rw [if_neg h3] at h
  by_cases h4 : ¬ (0 ≤ n ∧ n ≤ 6)
  · rw [if_pos h4] at h; omega
  rw [if_neg h4] at h
  by_cases h5 : ¬ (0 ≤ v ∧ v ≤ 99)
  · rw [if_pos h5] at h; omega
  rw [if_neg h5] at h
  by_cases h6 : 3 < popc s
  · rw [if_pos h6] at h; omega
  have hs : 0 ≤ s ∧ s ≤ 63 := by omega
  have h2' : jand s (jxor t (-1)) = 0 := by omega
  obtain ⟨a, ea⟩ := jfin (n := 64) hs.1 (by omega)
  subst ea
  obtain ⟨g1, g2, g3⟩ := seB_all a h6
  refine ⟨hs, by omega, by omega, by omega, h2', g1, fun j j0 j1 => ?_, fun k hk hb => ?_⟩
  · obtain ⟨b, eb⟩ := jfin (n := 3) j0 j1
    subst eb
    rcases g2 b with g | ⟨g, g', g''⟩
    · exact Or.inr g
    · exact Or.inl ⟨bit_sub ht hs ⟨g, g'⟩ h2' g'', g, g'⟩
  · obtain ⟨b, eb⟩ := jfin (n := 6) hk.1 (by omega)
    subst eb
    exact g3 b hb
/-- the seats' ONES, with the class's rows -/
def qK (M : Nat → Int → Int) (s : Int) : qF := fun j => (hasB (M 1 4) (seB s j), M 3 (seB s j), M 4 (seB s j))
def xK (M : Nat → Int → Int) (s : Int) : Int → Int := fun j => if hasB (M 1 4) (seB s j) = true then M 2 (seB s j) else 0
def okR (M : Nat → Int → Int) : Prop := (0 ≤ M 1 4 ∧ M 1 4 ≤ 63) ∧ ∀ k : Int, 0 ≤ k → k < 6 → (0 ≤ M 2 k ∧ M 2 k ≤ 99) ∧ (0 ≤ M 3 k ∧ M 3 k ≤ 9) ∧ 0 ≤ M 4 k ∧ M 4 k ≤ M 2 k
theorem rgA_K {M : Nat → Int → Int} {s : Int} (ok : okR M) (j : Int) : rgA (qK M s j) (xK M s j) := by
  unfold xK
  by_cases g : hasB (M 1 4) (seB s j) = true
  · rw [if_pos g]
    have := ok.2 (seB s j) (hasB_in g).1 (hasB_in g).2
    exact ⟨fun _ => ⟨this.2.1, this.2.2.1, this.2.2.2, this.1.2⟩, this.1⟩
  · rw [if_neg g]
    exact ⟨fun w => absurd w g, by omega, by omega⟩
def kpV (M : Nat → Int → Int) (s m n v : Int) : Int := lf (qK M s 0) (qK M s 1) (qK M s 2) n v m.toNat (xK M s 0) (xK M s 1) (xK M s 2)
def kpW (M : Nat → Int → Int) (s m n v k : Int) : Int := wpk (qK M s 0) (qK M s 1) (qK M s 2) n v k.toNat m.toNat (xK M s 0) (xK M s 1) (xK M s 2)
section CLASS
variable {l : Launch} {z dd : Nat} {X : jX} {M : Nat → Int → Int} {Q : Option jV → jM → Prop}
theorem c_X3_solve {s m n v : Int} (ok : okR M) (hr : kpR (M 1 4) s m n v = 0) (hk : ∀ M2 : Nat → Int → Int, (∀ c : Nat, ¬ (19 ≤ c ∧ c ≤ 65) → M2 c = M c) → (∀ j : Int, 0 ≤ j → j < 3 → M2 20 j = seB s j) → allK M2 (qK M s) (xK M s) m n v → Q (some (jI (if 1000 ≤ kpV M s m n v then -6 else kpV M s m n v))) (jG, M2)) : J l z X (dd + 4) mX3_solve (0, 0) 0 [jR 19, jR 1, jI s, jI m, jI n, jI v, jN] [] (jG, M) Q := by
  obtain ⟨hs, hm, hn, hv, hsub, hlen, hseat, -⟩ := kp_ok ok.1 hr
  have esub : seatL (M 1 4) s 6 = seatL 63 s 6 := seat_sub ok.1 hs hsub 6 (by omega)
  have emx : max 0 (min 6 m) = m := by omega
  refine b_X3_solve_0 (b_X3_seat_0 ?_)
  rw [emx]
  generalize hM1 : jupd (jupd (jupd M 19 7 m) 19 8 n) 19 9 v = M1
  have f1 : ∀ c : Nat, c ≠ 19 → M1 c = M c := fun c hc => by rw [← hM1, jupd_c, if_neg hc, jupd_c, if_neg hc, jupd_c, if_neg hc]
  have g7 : M1 19 7 = m := by rw [← hM1]; simp [jupd]
  have g8 : M1 19 8 = n := by rw [← hM1]; simp [jupd]
  have g9 : M1 19 9 = v := by rw [← hM1]; simp [jupd]
  refine c_X3_seat_5 (L := seatL 63 s 6) (M0 := M1) (s := s) (fun M2 f2 h20 => ?_) 6 0 [] M1 (by omega) (by omega) (by rw [f1 1 (by omega), esub]; exact (List.nil_append _).symm) (by simp) (fun _ _ => rfl) (fun j hj => absurd hj (by simp))
  have e20 : ∀ j : Int, 0 ≤ j → j < 3 → M2 20 j = seB s j := fun j j0 j1 => by
    have := h20 j.toNat (by omega)
    rw [show ((j.toNat : Nat) : Int) = j by omega] at this
    exact this
  have f3 : ∀ c : Nat, c ≠ 19 → c ≠ 20 → M2 c = M c := fun c c1 c2 => by rw [f2 c c2, f1 c c1]
  have eq : ∀ j : Int, 0 ≤ j → j < 3 → qS M2 j = qK M s j ∧ xS M2 j = xK M s j := fun j j0 j1 => by
    unfold qS xS qK xK
    rw [e20 j j0 j1, f3 1 (by omega) (by omega), f3 2 (by omega) (by omega), f3 3 (by omega) (by omega), f3 4 (by omega) (by omega)]
    exact ⟨rfl, rfl⟩
  refine b_X3_solve_32 (c_X3_listAges (v := v) (m := m) hm (by rw [f2 19 (by omega)]; exact g9) (by rw [f2 19 (by omega)]; exact g7) hv.1 (fun j j0 j1 => ?_) (fun j j0 j1 => ?_) (fun M3 t3 s3 => ?_))
  · rw [e20 j j0 j1, f3 1 (by omega) (by omega)]
    rcases hseat j j0 j1 with g | g
    · exact Or.inl g.1
    · exact Or.inr g
  · rw [(eq j j0 j1).1, (eq j j0 j1).2]
    exact rgA_K ok j
  · have e19 : M3 19 = M1 19 := by rw [t3.1 19 (by omega) (by omega), f2 19 (by omega)]
    have ht : tblK M3 (qK M s) (xK M s) m n v := by
      refine ⟨⟨by rw [e19]; exact g7, by rw [e19]; exact g8, hm⟩, fun d j j0 j1 hd => ?_, fun d j j0 j1 hd => ?_, fun j j0 j1 => ?_, s3⟩
      · rw [← (eq j j0 j1).1, ← (eq j j0 j1).2]
        exact t3.2.1 d j j0 j1 (by omega)
      · rw [← (eq j j0 j1).1]
        exact t3.2.2.1 d j j0 j1 (by omega)
      · rw [← (eq j j0 j1).2]
        exact t3.2.2.2 j j0 j1 (by omega)
    refine b_X3_solve_37 (by rw [e19, g7]; exact jInd (by omega)) ?_
    rw [e19, g7]
    have em : m - 1 = ((m.toNat : Nat) : Int) - 1 := by omega
    rw [em]
    have eP := lfP_eq (q0 := qK M s 0) (q1 := qK M s 1) (q2 := qK M s 2) (n := n) (v := v) m.toNat _ _ _ (rgA_K (s := s) ok 0).1 (rgA_K (s := s) ok 1).1 (rgA_K (s := s) ok 2).1
    refine c_X3_solve_45 (q := qK M s) (x := xK M s) (m := m) (n := n) (v := v) (M := M3) (fun M4 f4 g4 hA => ?_) m.toNat M3 (by omega) (fun _ _ _ => rfl) (fun _ _ => rfl) ht (fun d hd hd2 => FW_last (by omega))
    rw [eP.1]
    refine hk M4 (fun c hc => ?_) (fun j j0 j1 => ?_) hA
    · rw [f4 c (by omega) (by omega), t3.1 c (by omega) (by omega), f3 c (by omega) (by omega)]
    · rw [f4 20 (by omega) (by omega), t3.1 20 (by omega) (by omega)]
      exact e20 j j0 j1
theorem c_X3_eats {s m n v day one : Int} {M0 : Nat → Int → Int} (ok : okR M0) (hA : allK M (qK M0 s) (xK M0 s) m n v) (h20 : ∀ j : Int, 0 ≤ j → j < 3 → M 20 j = seB s j) (hone : seB s 0 = one ∨ seB s 1 = one ∨ seB s 2 = one) (hday : 0 ≤ day ∧ day < m) (hl : kpV M0 s m n v < 1000) (hk : ∀ M2 : Nat → Int → Int, (∀ c : Nat, ¬ (19 ≤ c ∧ c ≤ 65) → M2 c = M c) → Q (some (jI (if seB s 0 = one then kpW M0 s m n v day / 9 else if seB s 1 = one then kpW M0 s m n v day / 3 % 3 else kpW M0 s m n v day % 3))) (jG, M2)) : J l z X (dd + 4) mX3_eats (0, 0) 0 [jR 19, jI day, jI one, jN] [] (jG, M) Q := by
  have hm := hA.1.1
  have g0 := hA.1.2.2.2.1 0 (by omega) (by omega)
  have g1 := hA.1.2.2.2.1 1 (by omega) (by omega)
  have g2 := hA.1.2.2.2.1 2 (by omega) (by omega)
  have ea : ∀ j : Int, 0 ≤ j → j < 3 → agC M ((0 : Nat) : Int) j 0 = xK M0 s j := fun j j0 j1 => by
    have := (hA.1.2.2.2.1 j j0 j1).2
    unfold agC
    rw [show ((0 : Nat) : Int) * 3 + j = j by omega]
    exact this
  have el : lf (qK M0 s 0) (qK M0 s 1) (qK M0 s 2) n v m.toNat (agC M ((0 : Nat) : Int) 0 0) (agC M ((0 : Nat) : Int) 1 0) (agC M ((0 : Nat) : Int) 2 0) < 1000 := by
    rw [ea 0 (by omega) (by omega), ea 1 (by omega) (by omega), ea 2 (by omega) (by omega)]
    exact hl
  refine b_X3_eats_0 (b_X3_walk_0 ?_)
  refine c_X3_walk_9 (q := qK M0 s) (x := xK M0 s) (m := m) (n := n) (v := v) (M := M) (fun j _ _ => (rgA_K ok j).1) (fun M2 f2 f19 hrow => ?_) m.toNat 0 0 0 0 M (by omega) (fun _ _ _ => rfl) (fun _ _ => rfl) hA (by rw [show ((0 : Nat) : Int) * 3 + 0 = 0 by omega, g0.1]; omega) (by rw [show ((0 : Nat) : Int) * 3 + 1 = 1 by omega, g1.1]; omega) (by rw [show ((0 : Nat) : Int) * 3 + 2 = 2 by omega, g2.1]; omega) el (fun k hk' => absurd hk' (by omega)) (fun k => by rw [ea 0 (by omega) (by omega), ea 1 (by omega) (by omega), ea 2 (by omega) (by omega), Nat.zero_add])
  have e20 : M2 20 = M 20 := f2 20 (by omega) (by omega)
  have e7 : M2 19 7 = m := by rw [f19 7 (by omega)]; exact hm.1
  have hr := hrow day.toNat (by omega)
  rw [show ((day.toNat : Nat) : Int) = day by omega] at hr
  have hr' : M2 65 (day * 3) = kpW M0 s m n v day / 9 ∧ M2 65 (day * 3 + 1) = kpW M0 s m n v day / 3 % 3 ∧ M2 65 (day * 3 + 2) = kpW M0 s m n v day % 3 := hr
  have hfr : ∀ c : Nat, ¬ (19 ≤ c ∧ c ≤ 65) → M2 c = M c := fun c hc => f2 c (by omega) (by omega)
  have hk2 := hk M2 hfr
  have hm5 : day < 6 := by omega
  refine b_X3_eats_4 ?_
  have h0 := h20 0 (by omega) (by omega)
  have h1 := h20 1 (by omega) (by omega)
  have h2 := h20 2 (by omega) (by omega)
  have step2 : seB s 0 ≠ one → seB s 1 ≠ one → J l z X (dd + 4) mX3_eats (0, 0) 6 [jR 19, jI day, jI one, jI 2] [] (jG, M2) Q := by
    intro n0 n1
    refine b_X3_eats_6 (fun _ => by omega) (fun _ => by omega) (fun _ _ _ _ _ => jInd (by omega)) (fun _ _ _ _ _ => jInd (by omega)) (fun _ _ _ _ _ => by omega) (fun _ _ _ _ _ => by omega) (fun g => absurd g (by omega)) (fun _ g => absurd g (by rw [e20, h2]; omega)) (fun _ _ g => absurd g (by omega)) (fun _ _ _ g => absurd g (by omega)) (fun _ _ _ _ g => absurd g (by omega)) (fun _ g _ _ _ => ?_)
    rw [if_neg n0, if_neg n1] at hk2
    rw [hr'.2.2]
    exact hk2
  have step1 : seB s 0 ≠ one → J l z X (dd + 4) mX3_eats (0, 0) 6 [jR 19, jI day, jI one, jI 1] [] (jG, M2) Q := by
    intro n0
    refine b_X3_eats_6 (fun _ => by omega) (fun _ => by omega) (fun _ _ _ _ _ => jInd (by omega)) (fun _ _ _ _ _ => jInd (by omega)) (fun _ _ _ _ _ => by omega) (fun _ _ _ _ _ => by omega) (fun g => absurd g (by omega)) (fun _ g => b_X3_eats_50 (jInd (by omega)) (step2 n0 (by rw [e20, h1] at g; exact g))) (fun _ _ g => absurd g (by omega)) (fun _ _ _ g => absurd g (by omega)) (fun _ _ _ _ g => absurd g (by omega)) (fun _ g _ _ _ => ?_)
    rw [e20, h1] at g
    rw [if_neg n0, if_pos g] at hk2
    rw [hr'.2.1]
    exact hk2
  refine b_X3_eats_6 (fun _ => by omega) (fun _ => by omega) (fun _ _ _ _ _ => jInd (by omega)) (fun _ _ _ _ _ => jInd (by omega)) (fun _ _ _ _ _ => by omega) (fun _ _ _ _ _ => by omega) (fun g => absurd g (by omega)) (fun _ g => b_X3_eats_50 (jInd (by omega)) (step1 (by rw [e20, h0] at g; exact g))) (fun _ _ g => absurd g (by omega)) (fun _ _ _ g => absurd g (by omega)) (fun _ _ _ _ g => absurd g (by omega)) (fun _ g _ _ _ => ?_)
  rw [e20, h0] at g
  rw [if_pos g] at hk2
  rw [show day * 3 + 0 = day * 3 by omega, hr'.1]
  exact hk2
/-- what keeps answers -/
def keepsF (M : Nat → Int → Int) (s m n v : Int) : Int := if kpR (M 1 4) s m n v ≠ 0 then kpR (M 1 4) s m n v else if 1000 ≤ kpV M s m n v then -6 else kpV M s m n v
/-- what plan answers -/
def planF (M : Nat → Int → Int) (s m n v day one : Int) : Int := if kpR (M 1 4) s m n v ≠ 0 then kpR (M 1 4) s m n v else if ¬ (0 ≤ one ∧ one ≤ 5) then -1 else if jand (jshr s one) 1 = 0 then -1 else if ¬ (0 ≤ day ∧ day ≤ m - 1) then -1 else if 1000 ≤ kpV M s m n v then -6 else if seB s 0 = one then kpW M s m n v day / 9 else if seB s 1 = one then kpW M s m n v day / 3 % 3 else kpW M s m n v day % 3
theorem c_X9_keeps {s m n v : Int} (ok : okR M) (hk : ∀ M2 : Nat → Int → Int, (∀ c : Nat, ¬ (19 ≤ c ∧ c ≤ 65) → M2 c = M c) → Q (some (jI (keepsF M s m n v))) (jG, M2)) : J l z X (dd + 5) mX9_keeps (0, 0) 0 [jR 0, jI s, jI m, jI n, jI v, jN] [] (jG, M) Q := by
  unfold keepsF at hk
  refine b_X9_keeps_0 (c_X9_refuseKeeping (b_X9_keeps_9 (fun g => ?_) (fun g => ?_)))
  · rw [if_neg (by omega)] at hk
    exact c_X3_solve ok g (fun M2 f2 _ _ => b_X9_keeps_35 (hk M2 f2))
  · rw [if_pos g] at hk
    exact hk M (fun _ _ => rfl)
theorem c_X9_plan {s m n v day one : Int} (ok : okR M) (hk : ∀ M2 : Nat → Int → Int, (∀ c : Nat, ¬ (19 ≤ c ∧ c ≤ 65) → M2 c = M c) → Q (some (jI (planF M s m n v day one))) (jG, M2)) : J l z X (dd + 5) mX9_plan (0, 0) 0 [jR 0, jI s, jI m, jI n, jI v, jI day, jI one, jN] [] (jG, M) Q := by
  unfold planF at hk
  refine b_X9_plan_0 (c_X9_refuseKeeping (b_X9_plan_9 (fun g _ _ => ?_) (fun g g1 g2 => ?_) (fun g g1 g2 g3 => ?_) (fun g g1 g2 g3 => ?_) (fun g g1 => ?_) (fun g => ?_)))
  · have := kp_ok ok.1 g
    exact jInd (by omega)
  · rw [if_neg (by omega), if_neg (by omega), if_pos g2] at hk
    exact hk M (fun _ _ => rfl)
  · rw [if_neg (by omega), if_neg (by omega), if_neg g2, if_neg (by omega)] at hk
    have hko := kp_ok ok.1 g
    refine c_X3_solve ok g (fun M2 f2 h20 hA => ?_)
    by_cases hV : 1000 ≤ kpV M s m n v
    · rw [if_pos hV] at hk
      rw [if_pos hV]
      exact b_X9_plan_68 (fun w => absurd rfl w) (fun _ => b_X9_plan_89 (hk M2 f2))
    · rw [if_neg hV] at hk
      rw [if_neg hV]
      have h0 : 0 ≤ kpV M s m n v := (lf_rng _ _ _ _).1
      refine b_X9_plan_68 (fun _ => ?_) (fun w => absurd w (by omega))
      exact c_X3_eats ok hA h20 (hko.2.2.2.2.2.2.2 one g1 g2) (by omega) (by omega) (fun M3 f3 => b_X9_plan_89 (hk M3 (fun c hc => by rw [f3 c hc, f2 c hc])))
  · rw [if_neg (by omega), if_neg (by omega), if_neg g2, if_pos g3] at hk
    exact hk M (fun _ _ => rfl)
  · rw [if_neg (by omega), if_pos g1] at hk
    exact hk M (fun _ _ => rfl)
  · rw [if_pos g] at hk
    exact hk M (fun _ _ => rfl)
end CLASS
