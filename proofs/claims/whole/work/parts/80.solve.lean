/-! ## the class: the fewest halves, and the first way -/
/-- the way's meals of the k-th day from now, left days being left -/
def wpk (q0 q1 q2 : qT) (n v : Int) : Nat → Nat → Int → Int → Int → Int
  | _, 0, _, _, _ => -6
  | 0, l + 1, x, y, z => pck (cU q0 q1 q2 n v l x y z) 27
  | k + 1, l + 1, x, y, z => wpk q0 q1 q2 n v k l (stp q0 (pck (cU q0 q1 q2 n v l x y z) 27 / 9) x) (stp q1 (pck (cU q0 q1 q2 n v l x y z) 27 / 3 % 3) y) (stp q2 (pck (cU q0 q1 q2 n v l x y z) 27 % 3) z)
theorem wpk_0 (q0 q1 q2 : qT) (n v : Int) (l : Nat) (x y z : Int) : wpk q0 q1 q2 n v 0 (l + 1) x y z = pck (cU q0 q1 q2 n v l x y z) 27 := rfl
theorem wpk_s (q0 q1 q2 : qT) (n v : Int) (k l : Nat) (x y z : Int) : wpk q0 q1 q2 n v (k + 1) (l + 1) x y z = wpk q0 q1 q2 n v k l (stp q0 (pck (cU q0 q1 q2 n v l x y z) 27 / 9) x) (stp q1 (pck (cU q0 q1 q2 n v l x y z) 27 / 3 % 3) y) (stp q2 (pck (cU q0 q1 q2 n v l x y z) 27 % 3) z) := rfl
/-- where there is a way, the first meals are some that fit -/
theorem cU_first {q0 q1 q2 : qT} {n v : Int} {l : Nat} {x y z : Int} (h : lf q0 q1 q2 n v (l + 1) x y z < 1000) : ∃ i : Nat, i < 27 ∧ pck (cU q0 q1 q2 n v l x y z) 27 = (i : Int) ∧ cU q0 q1 q2 n v l x y z i = lf q0 q1 q2 n v (l + 1) x y z ∧ (∀ j, j < i → cU q0 q1 q2 n v l x y z j ≠ lf q0 q1 q2 n v (l + 1) x y z) ∧ ((i : Int) / 9 + (i : Int) / 3 % 3 + (i : Int) % 3 ≤ n) ∧ okE q0 v ((i : Int) / 9) x = true ∧ okE q1 v ((i : Int) / 3 % 3) y = true ∧ okE q2 v ((i : Int) % 3) z = true ∧ lf q0 q1 q2 n v l (stp q0 ((i : Int) / 9) x) (stp q1 ((i : Int) / 3 % 3) y) (stp q2 ((i : Int) % 3) z) < 1000 := by
  rw [lf_s] at h
  obtain ⟨i, h1, h2, h3, h4⟩ := pck_first 27 h
  refine ⟨i, h1, h2, h3, h4, ?_⟩
  rw [← h3] at h
  unfold cU cst at h
  dsimp only at h
  split at h
  · rename_i g
    exact ⟨g.1, g.2.1, g.2.2.1, g.2.2.2, by omega⟩
  · omega
section SOLVE
variable {l : Launch} {z dd : Nat} {X : jX} {M : Nat → Int → Int} {Q : Option jV → jM → Prop} {q : qF} {x : Int → Int} {m n v : Int}
/-- all tables stand -/
def allK (M : Nat → Int → Int) (q : qF) (x : Int → Int) (m n v : Int) : Prop := tblK M q x m n v ∧ ∀ d : Nat, (d : Int) ≤ m → FW M q m n v d
theorem c_X3_solve_45 {x2 x3 x4 x5 : Int} (hk : ∀ M2 : Nat → Int → Int, (∀ c : Nat, c ≠ 63 → c ≠ 19 → M2 c = M c) → (∀ j : Int, j ≠ 10 → M2 19 j = M 19 j) → allK M2 q x m n v → Q (some (jI (if 1000 ≤ lfP (q 0) (q 1) (q 2) n v m.toNat (x 0) (x 1) (x 2) then -6 else lfP (q 0) (q 1) (q 2) n v m.toNat (x 0) (x 1) (x 2)))) (jG, M2)) : ∀ (k : Nat) (M1 : Nat → Int → Int), (k : Int) ≤ m → (∀ c : Nat, c ≠ 63 → c ≠ 19 → M1 c = M c) → (∀ j : Int, j ≠ 10 → M1 19 j = M 19 j) → tblK M1 q x m n v → (∀ d : Nat, k ≤ d → (d : Int) ≤ m → FW M1 q m n v d) → J l z X (dd + 4) mX3_solve (0, 0) 45 [jR 19, jR 1, jI x2, jI x3, jI x4, jI x5, jI ((k : Int) - 1)] [] (jG, M1) Q := by
  intro k
  induction k with
  | zero =>
    intro M1 hk0 f1 f2 ht hF
    refine b_X3_solve_45 (fun _ => ?_) (fun g => absurd g (by omega))
    have hm := ht.1
    have g0 := ht.2.2.2.1 0 (by omega) (by omega)
    have g1 := ht.2.2.2.1 1 (by omega) (by omega)
    have g2 := ht.2.2.2.1 2 (by omega) (by omega)
    have z0 : (0 ≤ (0 : Int) ∧ (0 : Int) < M1 43 (((0 : Nat) : Int) * 3 + 0)) := by
      rw [show ((0 : Nat) : Int) * 3 + 0 = 0 by omega, g0.1]; omega
    have z1 : (0 ≤ (0 : Int) ∧ (0 : Int) < M1 43 (((0 : Nat) : Int) * 3 + 1)) := by
      rw [show ((0 : Nat) : Int) * 3 + 1 = 1 by omega, g1.1]; omega
    have z2 : (0 ≤ (0 : Int) ∧ (0 : Int) < M1 43 (((0 : Nat) : Int) * 3 + 2)) := by
      rw [show ((0 : Nat) : Int) * 3 + 2 = 2 by omega, g2.1]; omega
    have hv := hF 0 (by omega) (by omega) 0 0 0 z0 z1 z2
    refine c_X3_fewestFrom (m := m) hm.1 hm.2.2.2 (by omega) (tb_fwO (d := 0) ht z0 z1 z2) ?_
    have e : fwV M1 m 0 0 0 0 = lfP (q 0) (q 1) (q 2) n v m.toNat (x 0) (x 1) (x 2) := by
      refine Eq.trans hv ?_
      rw [show (m - ((0 : Nat) : Int)) = m by omega, ← g0.2, ← g1.2, ← g2.2]
      rfl
    rw [e]
    have := hk M1 f1 f2 ⟨ht, fun d hd => hF d (by omega) hd⟩
    refine b_X3_solve_70 (fun g => ?_) (fun g => ?_)
    · rw [if_pos g] at this; exact this
    · rw [if_neg (by omega)] at this; exact this
  | succ k ih =>
    intro M1 hk0 f1 f2 ht hF
    have hm := ht.1
    refine b_X3_solve_45 (fun g => absurd g (by omega)) (fun _ => ?_)
    rw [show ((k + 1 : Nat) : Int) - 1 = (k : Int) by omega]
    refine c_X3_countDay (dl := (m - (k : Int) - 1).toNat) ht (by omega) (hF (k + 1) (by omega) (by omega)) (fun M2 r hF2 => b_X3_solve_56 (jInd (by omega)) ?_)
    refine ih M2 (by omega) (fun c c1 c2 => by rw [r.1 c c1 c2]; exact f1 c c1 c2) (fun j hj => by rw [r.2.1 j hj]; exact f2 j hj) (cdR_tbl ht r) (fun d hd hd2 => ?_)
    by_cases e : d = k
    · subst e; exact hF2
    · exact cdR_FW ht r (by omega) hd2 (hF d (by omega) hd2)
/-- the first way, walked -/
theorem c_X3_walk_9 (hv : ∀ s : Int, 0 ≤ s → s < 3 → rgE (q s) (x s)) (hk : ∀ M2 : Nat → Int → Int, (∀ c : Nat, c ≠ 65 → c ≠ 19 → M2 c = M c) → (∀ j : Int, j ≠ 10 → M2 19 j = M 19 j) → (∀ k : Nat, (k : Int) < m → M2 65 ((k : Int) * 3) = wpk (q 0) (q 1) (q 2) n v k m.toNat (x 0) (x 1) (x 2) / 9 ∧ M2 65 ((k : Int) * 3 + 1) = wpk (q 0) (q 1) (q 2) n v k m.toNat (x 0) (x 1) (x 2) / 3 % 3 ∧ M2 65 ((k : Int) * 3 + 2) = wpk (q 0) (q 1) (q 2) n v k m.toNat (x 0) (x 1) (x 2) % 3) → Q none (jG, M2)) : ∀ (lt d : Nat) (a b c : Int) (M1 : Nat → Int → Int), (d : Int) + lt = m → (∀ c : Nat, c ≠ 65 → c ≠ 19 → M1 c = M c) → (∀ j : Int, j ≠ 10 → M1 19 j = M 19 j) → allK M1 q x m n v → (0 ≤ a ∧ a < M1 43 ((d : Int) * 3 + 0)) → (0 ≤ b ∧ b < M1 43 ((d : Int) * 3 + 1)) → (0 ≤ c ∧ c < M1 43 ((d : Int) * 3 + 2)) → lf (q 0) (q 1) (q 2) n v lt (agC M1 d 0 a) (agC M1 d 1 b) (agC M1 d 2 c) < 1000 → (∀ k : Nat, (k : Int) < d → M1 65 ((k : Int) * 3) = wpk (q 0) (q 1) (q 2) n v k m.toNat (x 0) (x 1) (x 2) / 9 ∧ M1 65 ((k : Int) * 3 + 1) = wpk (q 0) (q 1) (q 2) n v k m.toNat (x 0) (x 1) (x 2) / 3 % 3 ∧ M1 65 ((k : Int) * 3 + 2) = wpk (q 0) (q 1) (q 2) n v k m.toNat (x 0) (x 1) (x 2) % 3) → (∀ k : Nat, wpk (q 0) (q 1) (q 2) n v (d + k) m.toNat (x 0) (x 1) (x 2) = wpk (q 0) (q 1) (q 2) n v k lt (agC M1 d 0 a) (agC M1 d 1 b) (agC M1 d 2 c)) → J l z X (dd + 3) mX3_walk (0, 0) 9 [jR 19, jI a, jI b, jI c, jI (d : Int), jN, jN, jN] [] (jG, M1) Q := by
  intro lt
  induction lt with
  | zero =>
    intro d a b c M1 hd f1 f2 hA ha hb hc hl hrow hw
    have hm := hA.1.1
    exact b_X3_walk_9 (fun _ => hk M1 f1 f2 (fun k hk' => hrow k (by omega))) (fun g => absurd g (by omega)) (fun g => absurd g (by omega))
  | succ lt ih =>
    intro d a b c M1 hd f1 f2 hA ha hb hc hl hrow hw
    have hm := hA.1.1
    have ra := hA.1.2.1 d 0 (by omega) (by omega) (by omega)
    have rb := hA.1.2.1 d 1 (by omega) (by omega) (by omega)
    have rc := hA.1.2.1 d 2 (by omega) (by omega) (by omega)
    have ga : rgE (q 0) (agC M1 d 0 a) := (ra.2.1 a ha.1 ha.2).1.1
    have gb : rgE (q 1) (agC M1 d 1 b) := (rb.2.1 b hb.1 hb.2).1.1
    have gc : rgE (q 2) (agC M1 d 2 c) := (rc.2.1 c hc.1 hc.2).1.1
    refine b_X3_walk_9 (fun g => absurd g (by omega)) (fun _ g => absurd g (by omega)) (fun _ _ => ?_)
    refine c_X3_bmT hA.1 (dl := lt) (by omega) (hA.2 (d + 1) (by omega)) ha hb hc (fun M2 hM2 hp => ?_)
    have hPE := lfP_eq (q0 := q 0) (q1 := q 1) (q2 := q 2) (n := n) (v := v) lt _ _ _ ga gb gc
    rw [hPE.2.1] at hp
    rw [hPE.2.2, ← lf_s]
    obtain ⟨i, i27, ip, -, -, -, io0, io1, io2, il⟩ := cU_first hl
    rw [ip] at hp
    -- the next places
    have hnx : ∀ s w : Int, 0 ≤ s → s < 3 → (0 ≤ w ∧ w < M1 43 ((d : Int) * 3 + s)) → ∀ e : Int, 0 ≤ e → e < 3 → okE (q s) v e (agC M1 d s w) = true → okP (q s) v (m - d) e (agC M1 d s w) = true → (0 ≤ M1 (45 + ((d : Int) * 3 + s).toNat) (w * 3 + e) ∧ M1 (45 + ((d : Int) * 3 + s).toNat) (w * 3 + e) < M1 43 (((d + 1 : Nat) : Int) * 3 + s)) ∧ agC M1 (d + 1 : Nat) s (M1 (45 + ((d : Int) * 3 + s).toNat) (w * 3 + e)) = stp (q s) e (agC M1 d s w) := by
      intro s w s0 s1 hw e e0 e1 _ ho
      have := (hA.1.2.2.1 d s s0 s1 (by omega) w e hw.1 hw.2 e0 e1).1 ho
      rw [show (d : Int) * 3 + s + 3 = ((d + 1 : Nat) : Int) * 3 + s by omega] at this
      exact this
    have hPU : okP (q 0) v (m - d) ((i : Int) / 9) (agC M1 d 0 a) = true ∧ okP (q 1) v (m - d) ((i : Int) / 3 % 3) (agC M1 d 1 b) = true ∧ okP (q 2) v (m - d) ((i : Int) % 3) (agC M1 d 2 c) = true := by
      have h1 : bst (cP (q 0) (q 1) (q 2) n v lt (agC M1 d 0 a) (agC M1 d 1 b) (agC M1 d 2 c)) 27 < 1000 := by
        rw [hPE.2.2, ← lf_s]; exact hl
      obtain ⟨i', h2, h3, h4, -⟩ := pck_first 27 h1
      rw [hPE.2.1, ip] at h3
      have e : i' = i := by omega
      subst e
      rw [← h4] at h1
      unfold cP cst at h1
      dsimp only at h1
      rw [show ((lt + 1 : Nat) : Int) = m - d by omega] at h1
      split at h1
      · rename_i g
        exact g.2
      · omega
    have n0 := hnx 0 a (by omega) (by omega) ha _ (by omega) (by omega) io0 hPU.1
    have n1 := hnx 1 b (by omega) (by omega) hb _ (by omega) (by omega) io1 hPU.2.1
    have n2 := hnx 2 c (by omega) (by omega) hc _ (by omega) (by omega) io2 hPU.2.2
    have ca := tb_cn (s := 0) hA.1 (by omega) (show (d : Int) ≤ m by omega)
    have cb := tb_cn (s := 1) hA.1 (by omega) (show (d : Int) ≤ m by omega)
    have cc := tb_cn (s := 2) hA.1 (by omega) (show (d : Int) ≤ m by omega)
    refine b_X3_walk_34 (fun _ g => g) (fun _ g => by omega) (fun _ _ => jInd (by omega)) (fun _ _ => by omega) (fun _ _ => by omega) (fun _ _ => jInd (by omega)) (fun _ _ => by omega) (fun _ _ => by omega) (fun _ _ => jInd (by omega)) (fun _ _ => by omega) (fun _ _ => by omega) (fun g => absurd hl (by omega)) (fun _ _ => ?_) (fun _ g => absurd g (by omega))
    rw [hp]
    generalize hM3 : (jupd (jupd (jupd M2 65 ((d : Int) * 3) ((i : Int) / 9)) 65 ((d : Int) * 3 + 1) ((i : Int) / 3 % 3)) 65 ((d : Int) * 3 + 2) ((i : Int) % 3)) = M3
    have g3 : ∀ c : Nat, c ≠ 65 → M3 c = M2 c := fun c' hc' => by rw [← hM3, jupd_c, if_neg hc', jupd_c, if_neg hc', jupd_c, if_neg hc']
    have g65 : ∀ j : Int, M3 65 j = if j = (d : Int) * 3 + 2 then (i : Int) % 3 else if j = (d : Int) * 3 + 1 then (i : Int) / 3 % 3 else if j = (d : Int) * 3 then (i : Int) / 9 else M2 65 j := fun j => by
      rw [← hM3]
      simp only [jupd, true_and]
    have hdg : 0 ≤ (i : Int) / 9 ∧ (i : Int) / 9 < 3 := by omega
    have e45 : ∀ s : Int, 0 ≤ s → s < 3 → M3 (45 + ((d : Int) * 3 + s).toNat) = M1 (45 + ((d : Int) * 3 + s).toNat) := fun s s0 s1 => by rw [g3 _ (by omega), hM2.1 _ (by omega)]
    refine c_X3_next (by omega) (by omega) (by omega) (by omega) ?_
    rw [e45 0 (by omega) (by omega)]
    refine b_X3_walk_122 (c_X3_next (by omega) (by omega) (by omega) (by omega) ?_)
    rw [e45 1 (by omega) (by omega)]
    refine b_X3_walk_133 (c_X3_next (by omega) (by omega) (by omega) (by omega) ?_)
    rw [e45 2 (by omega) (by omega)]
    refine b_X3_walk_144 (jInd (by omega)) ?_
    rw [show (d : Int) + 1 = ((d + 1 : Nat) : Int) by omega]
    have h31 : ∀ c : Nat, c ≠ 65 → c ≠ 19 → M3 c = M1 c := fun c' k1 k2 => by rw [g3 c' k1, hM2.1 c' k2]
    have h319 : ∀ j : Int, j ≠ 10 → M3 19 j = M1 19 j := fun j hj => by rw [g3 19 (by omega), hM2.2 j hj]
    have hag : ∀ s i : Int, 0 ≤ s → s < 3 → agC M3 (d + 1 : Nat) s i = agC M1 (d + 1 : Nat) s i := fun s i s0 s1 => by unfold agC; rw [h31 _ (by omega) (by omega)]
    have e43 : M3 43 = M1 43 := h31 43 (by omega) (by omega)
    refine ih (d + 1) _ _ _ M3 (by omega) (fun c' k1 k2 => by rw [h31 c' k1 k2]; exact f1 c' k1 k2) (fun j hj => by rw [h319 j hj]; exact f2 j hj) ⟨tblK_same (fun c' _ _ => h31 c' (by omega) (by omega)) (h31 64 (by omega) (by omega)) (h319 7 (by omega)) (h319 8 (by omega)) hA.1, fun d' hd' => FW_same hA.1 hd' (fun c' _ _ => h31 c' (by omega) (by omega)) (h31 64 (by omega) (by omega)) (fun j _ _ _ => by rw [h31 63 (by omega) (by omega)]) (hA.2 d' hd')⟩ (by rw [e43]; exact n0.1) (by rw [e43]; exact n1.1) (by rw [e43]; exact n2.1) ?_ (fun k hk' => ?_) (fun k => ?_)
    · rw [hag 0 _ (by omega) (by omega), hag 1 _ (by omega) (by omega), hag 2 _ (by omega) (by omega), n0.2, n1.2, n2.2]
      exact il
    · by_cases e : k = d
      · subst e
        have := hw 0
        rw [Nat.add_zero, wpk_0, ip] at this
        rw [this, g65, g65, g65, if_neg (by omega), if_neg (by omega), if_pos rfl, if_neg (by omega), if_pos rfl, if_pos rfl]
        exact ⟨rfl, rfl, rfl⟩
      · rw [g65, g65, g65, if_neg (by omega), if_neg (by omega), if_neg (by omega), if_neg (by omega), if_neg (by omega), if_neg (by omega), if_neg (by omega), if_neg (by omega), if_neg (by omega), hM2.1 65 (by omega)]
        exact hrow k (by omega)
    · have := hw (k + 1)
      rw [wpk_s, ip] at this
      rw [hag 0 _ (by omega) (by omega), hag 1 _ (by omega) (by omega), hag 2 _ (by omega) (by omega), n0.2, n1.2, n2.2, ← this]
      congr 1
      omega
end SOLVE
