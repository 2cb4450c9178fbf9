/-! ## the class's table of fewest halves -/
abbrev qF : Type := Int → qT
def agC (M : Nat → Int → Int) (d s i : Int) : Int := M (22 + (d * 3 + s).toNat) i
/-- the tables of ages stand -/
def tblK (M : Nat → Int → Int) (q : qF) (x : Int → Int) (m n v : Int) : Prop := (M 19 7 = m ∧ M 19 8 = n ∧ 0 ≤ m ∧ m ≤ 6) ∧ (∀ (d : Nat) (s : Int), 0 ≤ s → s < 3 → (d : Int) ≤ m → rowA M (q s) (x s) d ((d : Int) * 3 + s)) ∧ (∀ (d : Nat) (s : Int), 0 ≤ s → s < 3 → (d : Int) < m → rowN M (q s) v (m - d) ((d : Int) * 3 + s)) ∧ (∀ s : Int, 0 ≤ s → s < 3 → M 43 s = 1 ∧ M (22 + s.toNat) 0 = x s) ∧ (∀ d : Nat, (d : Int) ≤ m → M 64 d = stA M d)
theorem tblK_same {M M' : Nat → Int → Int} {q : qF} {x : Int → Int} {m n v : Int} (h1 : ∀ c : Nat, 22 ≤ c → c ≤ 62 → M' c = M c) (h2 : M' 64 = M 64) (h3 : M' 19 7 = M 19 7) (h4 : M' 19 8 = M 19 8) (h : tblK M q x m n v) : tblK M' q x m n v := by
  obtain ⟨t1, t2, t3, t4, t5⟩ := h
  have e43 : M' 43 = M 43 := h1 43 (by omega) (by omega)
  refine ⟨⟨h3.trans t1.1, h4.trans t1.2.1, t1.2.2⟩, fun d s s0 s1 hd => rowA_same (by rw [e43]) (h1 _ (by omega) (by omega)) (t2 d s s0 s1 hd), fun d s s0 s1 hd => rowN_same (by rw [e43]) (h1 _ (by omega) (by omega)) (by rw [e43]) (h1 _ (by omega) (by omega)) (h1 _ (by omega) (by omega)) (t3 d s s0 s1 hd), fun s s0 s1 => by rw [e43, h1 _ (by omega) (by omega)]; exact t4 s s0 s1, fun d hd => by rw [h2, t5 d hd]; exact (stA_ext d (fun j _ _ => by rw [e43])).symm⟩
section TBL
variable {M : Nat → Int → Int} {q : qF} {x : Int → Int} {m n v : Int}
theorem tb_cn (h : tblK M q x m n v) {d : Nat} {s : Int} (hs : 0 ≤ s ∧ s < 3) (hd : (d : Int) ≤ m) : 0 ≤ M 43 ((d : Int) * 3 + s) ∧ M 43 ((d : Int) * 3 + s) ≤ 13 ∧ M 43 ((d : Int) * 3 + s) ≤ 2 * (d : Int) + 1 := by
  have hr := h.2.1 d s hs.1 hs.2 hd
  have := rowA_cnt hr
  have := hr.1
  have := h.1
  omega
theorem tb_cnD (h : tblK M q x m n v) {d : Nat} (hd : (d : Int) ≤ m) : 0 ≤ cnD M d ∧ cnD M d ≤ (2 * (d : Int) + 1) * (2 * (d : Int) + 1) * (2 * (d : Int) + 1) := by
  have h0 := tb_cn (s := 0) h (by omega) hd
  have h1 := tb_cn (s := 1) h (by omega) hd
  have h2 := tb_cn (s := 2) h (by omega) hd
  rw [Int.add_zero] at h0
  exact mul_rng (mul_rng ⟨h0.1, h0.2.2⟩ ⟨h1.1, h1.2.2⟩) ⟨h2.1, h2.2.2⟩
theorem tb_stA (h : tblK M q x m n v) : ∀ d : Nat, (d : Int) ≤ m + 1 → 0 ≤ stA M d ∧ stA M d ≤ sB d := by
  intro d
  induction d with
  | zero => intro _; exact ⟨Int.le_refl _, Int.le_refl _⟩
  | succ d ih =>
    intro hd
    have := ih (by omega)
    have := tb_cnD h (d := d) (by omega)
    rw [stA_s, sB_s]
    omega
theorem tb_mono (h : tblK M q x m n v) {d : Nat} : ∀ k : Nat, ((d + k : Nat) : Int) ≤ m + 1 → stA M d ≤ stA M (d + k) := by
  intro k
  induction k with
  | zero => intro _; exact Int.le_refl _
  | succ k ih =>
    intro hk
    have := ih (by omega)
    have := tb_cnD h (d := d + k) (by omega)
    rw [← Nat.add_assoc, stA_s]
    omega
theorem tb_ix (h : tblK M q x m n v) {d : Nat} (hd : (d : Int) < m) {a b c : Int} (ha : 0 ≤ a ∧ a < M 43 ((d : Int) * 3 + 0)) (hb : 0 ≤ b ∧ b < M 43 ((d : Int) * 3 + 1)) (hc : 0 ≤ c ∧ c < M 43 ((d : Int) * 3 + 2)) : (stA M d ≤ ixC M d a b c ∧ ixC M d a b c < stA M (d + 1)) ∧ 0 ≤ ixC M d a b c ∧ ixC M d a b c < 2556 := by
  have h1 := mix_lt ha hb
  have h2 := mix_lt h1 hc
  have h3 := tb_stA h d (by omega)
  have h4 := tb_stA h (d + 1) (by omega)
  have h5 := sB_6 (d + 1) (by have := h.1; omega)
  have e : M 64 d = stA M d := h.2.2.2.2 d (by omega)
  rw [stA_s] at h4 ⊢
  unfold cnD at h4 ⊢
  unfold ixC
  rw [e]
  rw [Int.add_zero] at h2
  omega
theorem tb_fwO (h : tblK M q x m n v) {d : Nat} {a b c : Int} (ha : 0 ≤ a ∧ a < M 43 ((d : Int) * 3 + 0)) (hb : 0 ≤ b ∧ b < M 43 ((d : Int) * 3 + 1)) (hc : 0 ≤ c ∧ c < M 43 ((d : Int) * 3 + 2)) : fwO M m d a b c := by
  intro hd
  have h0 := tb_cn (s := 0) h (by omega) (show (d : Int) ≤ m by omega)
  have h1 := tb_cn (s := 1) h (by omega) (show (d : Int) ≤ m by omega)
  have h2 := tb_cn (s := 2) h (by omega) (show (d : Int) ≤ m by omega)
  have h3 := tb_stA h d (by omega)
  have h5 := sB_6 d (by have := h.1; omega)
  have e : M 64 d = stA M d := h.2.2.2.2 d (by omega)
  exact ⟨by omega, by omega, by omega, by omega, by omega, by omega, (tb_ix h hd ha hb hc).2⟩
/-- a day's fewest stand -/
def FW (M : Nat → Int → Int) (q : qF) (m n v : Int) (d : Nat) : Prop := ∀ a b c : Int, (0 ≤ a ∧ a < M 43 ((d : Int) * 3 + 0)) → (0 ≤ b ∧ b < M 43 ((d : Int) * 3 + 1)) → (0 ≤ c ∧ c < M 43 ((d : Int) * 3 + 2)) → fwV M m d a b c = lfP (q 0) (q 1) (q 2) n v (m - d).toNat (agC M d 0 a) (agC M d 1 b) (agC M d 2 c)
theorem FW_last {d : Nat} (hd : (d : Int) = m) : FW M q m n v d := by
  intro a b c _ _ _
  unfold fwV
  rw [if_pos (by omega), show (m - (d : Int)).toNat = 0 by omega]
  rfl
theorem FW_same {M' : Nat → Int → Int} {d : Nat} (h : tblK M q x m n v) (hm : (d : Int) ≤ m) (h1 : ∀ c : Nat, 22 ≤ c → c ≤ 62 → M' c = M c) (h2 : M' 64 = M 64) (h3 : ∀ j : Int, (d : Int) < m → stA M d ≤ j → j < stA M (d + 1) → M' 63 j = M 63 j) (k : FW M q m n v d) : FW M' q m n v d := by
  have e43 : M' 43 = M 43 := h1 43 (by omega) (by omega)
  intro a b c ha hb hc
  rw [e43] at ha hb hc
  have := k a b c ha hb hc
  have hm6 := h.1
  unfold agC
  rw [h1 (22 + ((d : Int) * 3 + 0).toNat) (by omega) (by omega), h1 (22 + ((d : Int) * 3 + 1).toNat) (by omega) (by omega), h1 (22 + ((d : Int) * 3 + 2).toNat) (by omega) (by omega)]
  refine Eq.trans ?_ this
  unfold fwV
  by_cases e : m ≤ (d : Int)
  · rw [if_pos e, if_pos e]
  · rw [if_neg e, if_neg e]
    have e2 : ixC M' d a b c = ixC M d a b c := by unfold ixC; rw [e43, h2]
    have := tb_ix h (by omega) ha hb hc
    rw [e2, h3 _ (by omega) this.1.1 this.1.2]
section COUNT
variable {l : Launch} {z dd : Nat} {X : jX} {Q : Option jV → jM → Prop}
theorem c_X3_bmT (h : tblK M q x m n v) {d dl : Nat} (hd : (d : Int) + dl + 1 = m) (hF : FW M q m n v (d + 1)) {a b c : Int} (ha : 0 ≤ a ∧ a < M 43 ((d : Int) * 3 + 0)) (hb : 0 ≤ b ∧ b < M 43 ((d : Int) * 3 + 1)) (hc : 0 ≤ c ∧ c < M 43 ((d : Int) * 3 + 2)) (hk : ∀ M2 : Nat → Int → Int, mE M M2 → M2 19 10 = pck (cP (q 0) (q 1) (q 2) n v dl (agC M d 0 a) (agC M d 1 b) (agC M d 2 c)) 27 → Q (some (jI (bst (cP (q 0) (q 1) (q 2) n v dl (agC M d 0 a) (agC M d 1 b) (agC M d 2 c)) 27))) (jG, M2)) : J l z X (dd + 2) mX3_bestMeals (0, 0) 0 [jR 19, jI (d : Int), jI a, jI b, jI c, jN, jN, jN, jN, jN, jN, jN, jN] [] (jG, M) Q := by
  have hm := h.1
  have c0 := tb_cn (s := 0) h (by omega) (show (d : Int) ≤ m by omega)
  have c1 := tb_cn (s := 1) h (by omega) (show (d : Int) ≤ m by omega)
  have c2 := tb_cn (s := 2) h (by omega) (show (d : Int) ≤ m by omega)
  have el : m - (d : Int) = ((dl + 1 : Nat) : Int) := by omega
  have nx : ∀ s i : Int, 0 ≤ s → s < 3 → (0 ≤ i ∧ i < M 43 ((d : Int) * 3 + s)) → ∀ e : Int, 0 ≤ e → e < 3 → nxt M (q s) v ((dl + 1 : Nat) : Int) ((d : Int) * 3 + s) i e (M (45 + ((d : Int) * 3 + s).toNat) (i * 3 + e)) := by
    intro s i s0 s1 hi e e0 e1
    have := h.2.2.1 d s s0 s1 (by omega) i e hi.1 hi.2 e0 e1
    rw [el] at this
    exact this
  have e3 : ∀ s : Int, (d : Int) * 3 + s + 3 = ((d + 1 : Nat) : Int) * 3 + s := fun s => by omega
  have no : ∀ s i : Int, 0 ≤ s → s < 3 → (0 ≤ i ∧ i < M 43 ((d : Int) * 3 + s)) → nxO M d s i (fun e => okP (q s) v ((dl + 1 : Nat) : Int) e (agC M d s i)) := by
    intro s i s0 s1 hi e e0 e1
    have k := nx s i s0 s1 hi e e0 e1
    have cc := tb_cn (d := d + 1) (s := s) h ⟨s0, s1⟩ (by omega)
    unfold nxt at k
    rw [e3 s] at k
    exact ⟨fun g => by have := k.1 g; omega, fun g => by have := k.2 g; omega⟩
  refine c_X3_bestMeals (m := m) (n := n) (o0 := fun e => okP (q 0) v ((dl + 1 : Nat) : Int) e (agC M d 0 a)) (o1 := fun e => okP (q 1) v ((dl + 1 : Nat) : Int) e (agC M d 1 b)) (o2 := fun e => okP (q 2) v ((dl + 1 : Nat) : Int) e (agC M d 2 c)) (g := fun e0 e1 e2 => lfP (q 0) (q 1) (q 2) n v dl (stp (q 0) e0 (agC M d 0 a)) (stp (q 1) e1 (agC M d 1 b)) (stp (q 2) e2 (agC M d 2 c))) hm.1 hm.2.2.2 (by omega) (by omega) (by omega) (by omega) hm.2.1 (no 0 a (by omega) (by omega) ha) (no 1 b (by omega) (by omega) hb) (no 2 c (by omega) (by omega) hc) (fun e f g e0 e1 f0 f1 g0 g1 oe of og => ?_) (fun M2 hM hp => hk M2 hM hp)
  have k0 := (nx 0 a (by omega) (by omega) ha e e0 e1).1 oe
  have k1 := (nx 1 b (by omega) (by omega) hb f f0 f1).1 of
  have k2 := (nx 2 c (by omega) (by omega) hc g g0 g1).1 og
  rw [e3] at k0 k1 k2
  rw [show (d : Int) + 1 = ((d + 1 : Nat) : Int) by omega]
  refine ⟨tb_fwO h k0.1 k1.1 k2.1, ?_, lfP_rng _ _ _ _⟩
  rw [hF _ _ _ k0.1 k1.1 k2.1, show (m - ((d + 1 : Nat) : Int)).toNat = dl by omega]
  show lfP (q 0) (q 1) (q 2) n v dl (M (22 + (((d + 1 : Nat) : Int) * 3 + 0).toNat) _) (M (22 + (((d + 1 : Nat) : Int) * 3 + 1).toNat) _) (M (22 + (((d + 1 : Nat) : Int) * 3 + 2).toNat) _) = _
  rw [k0.2, k1.2, k2.2]
  rfl
def cdR (M M2 : Nat → Int → Int) (lo hi : Int) : Prop := (∀ c : Nat, c ≠ 63 → c ≠ 19 → M2 c = M c) ∧ (∀ j : Int, j ≠ 10 → M2 19 j = M 19 j) ∧ ∀ j : Int, ¬ (lo ≤ j ∧ j < hi) → M2 63 j = M 63 j
theorem cdR_tbl {M2 : Nat → Int → Int} {lo hi : Int} (h : tblK M q x m n v) (r : cdR M M2 lo hi) : tblK M2 q x m n v := tblK_same (fun c c0 c1 => r.1 c (by omega) (by omega)) (r.1 64 (by omega) (by omega)) (r.2.1 7 (by omega)) (r.2.1 8 (by omega)) h
theorem cdR_FW {M2 : Nat → Int → Int} {d d' : Nat} (h : tblK M q x m n v) (r : cdR M M2 (stA M d) (stA M (d + 1))) (hd : d < d') (hm : (d' : Int) ≤ m) (k : FW M q m n v d') : FW M2 q m n v d' := by
  refine FW_same h hm (fun c c0 c1 => r.1 c (by omega) (by omega)) (r.1 64 (by omega) (by omega)) (fun j g j0 j1 => r.2.2 j (fun w => ?_)) k
  have := tb_mono (d := d + 1) h (d' - (d + 1)) (by omega)
  rw [show d + 1 + (d' - (d + 1)) = d' by omega] at this
  omega
/-- what a day's table should hold -/
def dn (M M1 : Nat → Int → Int) (q : qF) (n v : Int) (d dl : Nat) (t : Int) : Prop := ∀ a b c : Int, (0 ≤ a ∧ a < M 43 ((d : Int) * 3 + 0)) → (0 ≤ b ∧ b < M 43 ((d : Int) * 3 + 1)) → (0 ≤ c ∧ c < M 43 ((d : Int) * 3 + 2)) → ixC M d a b c < t → M1 63 (ixC M d a b c) = lfP (q 0) (q 1) (q 2) n v (dl + 1) (agC M d 0 a) (agC M d 1 b) (agC M d 2 c)
theorem c_X3_countDay (h : tblK M q x m n v) {d dl : Nat} (hd : (d : Int) + dl + 1 = m) (hF : FW M q m n v (d + 1)) (hk : ∀ M2 : Nat → Int → Int, cdR M M2 (stA M d) (stA M (d + 1)) → FW M2 q m n v d → Q none (jG, M2)) : J l z X (dd + 3) mX3_countDay (0, 0) 0 [jR 19, jI (d : Int), jN, jN, jN, jN] [] (jG, M) Q := by
  have hm := h.1
  have c0 := tb_cn (s := 0) h (by omega) (show (d : Int) ≤ m by omega)
  have c1 := tb_cn (s := 1) h (by omega) (show (d : Int) ≤ m by omega)
  have c2 := tb_cn (s := 2) h (by omega) (show (d : Int) ≤ m by omega)
  have e64 : M 64 d = stA M d := h.2.2.2.2 d (by omega)
  have hst := tb_stA h d (by omega)
  have hsb := sB_6 d (by omega)
  -- the innermost loop
  have l52 : ∀ (a b : Int), (0 ≤ a ∧ a < M 43 ((d : Int) * 3 + 0)) → (0 ≤ b ∧ b < M 43 ((d : Int) * 3 + 1)) → (∀ M2 : Nat → Int → Int, cdR M M2 (stA M d) (stA M (d + 1)) → dn M M2 q n v d dl (ixC M d a (b + 1) 0) → J l z X (dd + 3) mX3_countDay (0, 0) 38 [jR 19, jI (d : Int), jI (ixC M d a (b + 1) 0), jI a, jI (b + 1), jN] [] (jG, M2) Q) → ∀ (k : Nat) (c : Int) (M1 : Nat → Int → Int), c = M 43 ((d : Int) * 3 + 2) - (k : Int) → 0 ≤ c → cdR M M1 (stA M d) (stA M (d + 1)) → dn M M1 q n v d dl (ixC M d a b c) → J l z X (dd + 3) mX3_countDay (0, 0) 52 [jR 19, jI (d : Int), jI (ixC M d a b c), jI a, jI b, jI c] [] (jG, M1) Q := by
    intro a b ha hb hend k
    induction k with
    | zero =>
      intro c M1 hc hc0 r dn1
      have e43 : M1 43 = M 43 := r.1 43 (by omega) (by omega)
      have ei : ixC M d a b c = ixC M d a (b + 1) 0 := by
        unfold ixC
        rw [show c = M 43 ((d : Int) * 3 + 2) by omega, ← Int.add_assoc, Int.add_mul (a * M 43 ((d : Int) * 3 + 1) + b), Int.one_mul, Int.add_zero, Int.add_assoc]
      rw [ei] at dn1 ⊢
      refine b_X3_countDay_52 (c_X3_countOf (by omega) (by omega) ?_)
      rw [e43]
      refine b_X3_countDay_60 (fun _ => jInd (by omega)) (fun _ => hend M1 r dn1) (fun g => absurd g (by omega)) (fun g => absurd g (by omega)) (fun g => absurd g (by omega))
    | succ k ih =>
      intro c M1 hc hc0 r dn1
      have e43 : M1 43 = M 43 := r.1 43 (by omega) (by omega)
      have hcc : 0 ≤ c ∧ c < M 43 ((d : Int) * 3 + 2) := by omega
      have hix := tb_ix h (by omega) ha hb hcc
      refine b_X3_countDay_52 (c_X3_countOf (by omega) (by omega) ?_)
      rw [e43]
      refine b_X3_countDay_60 (fun g => absurd g (by omega)) (fun g => absurd g (by omega)) (fun _ g => absurd g (by omega)) (fun _ _ g => absurd g (by omega)) (fun _ _ _ => ?_)
      have hF1 : FW M1 q m n v (d + 1) := cdR_FW h r (by omega) (by omega) hF
      have eag : ∀ s i : Int, 0 ≤ s → s < 3 → agC M1 d s i = agC M d s i := fun s i s0 s1 => by unfold agC; rw [r.1 _ (by omega) (by omega)]
      refine c_X3_bmT (cdR_tbl h r) hd hF1 (by rw [e43]; exact ha) (by rw [e43]; exact hb) (by rw [e43]; exact hcc) (fun M2 hM2 hp => ?_)
      rw [eag 0 a (by omega) (by omega), eag 1 b (by omega) (by omega), eag 2 c (by omega) (by omega), ← lfP_s]
      refine b_X3_countDay_89 hix.2.1 hix.2.2 (b_X3_countDay_90 (jInd (by omega)) (jInd (by omega)) ?_)
      have ei : ixC M d a b c + 1 = ixC M d a b (c + 1) := by unfold ixC; omega
      rw [ei]
      refine ih (c + 1) _ (by omega) (by omega) ⟨fun c' g1 g2 => by rw [jupd_c, if_neg g1, hM2.1 c' g2]; exact r.1 c' g1 g2, fun j hj => by rw [jupd_c, if_neg (by omega), hM2.2 j hj]; exact r.2.1 j hj, fun j hj => by rw [jupd_i _ _ _ _ (by omega), hM2.1 63 (by omega)]; exact r.2.2 j hj⟩ (fun a' b' c' ha' hb' hc' hlt => ?_)
      by_cases e : ixC M d a' b' c' = ixC M d a b c
      · have e5 : (a' * M 43 ((d : Int) * 3 + 1) + b') * M 43 ((d : Int) * 3 + 2) + c' = (a * M 43 ((d : Int) * 3 + 1) + b) * M 43 ((d : Int) * 3 + 2) + c := by
          unfold ixC at e
          omega
        obtain ⟨e6, e7⟩ := mix_inj hc' hcc e5
        obtain ⟨e8, e9⟩ := mix_inj hb' hb e6
        subst e7; subst e8; subst e9
        rw [jupd_s]
      · rw [jupd_i _ _ _ _ e, hM2.1 63 (by omega)]
        exact dn1 a' b' c' ha' hb' hc' (by omega)
  have l38 : ∀ (a : Int), (0 ≤ a ∧ a < M 43 ((d : Int) * 3 + 0)) → (∀ M2 : Nat → Int → Int, cdR M M2 (stA M d) (stA M (d + 1)) → dn M M2 q n v d dl (ixC M d (a + 1) 0 0) → J l z X (dd + 3) mX3_countDay (0, 0) 25 [jR 19, jI (d : Int), jI (ixC M d (a + 1) 0 0), jI (a + 1), jN, jN] [] (jG, M2) Q) → ∀ (k : Nat) (b : Int) (M1 : Nat → Int → Int), b = M 43 ((d : Int) * 3 + 1) - (k : Int) → 0 ≤ b → cdR M M1 (stA M d) (stA M (d + 1)) → dn M M1 q n v d dl (ixC M d a b 0) → J l z X (dd + 3) mX3_countDay (0, 0) 38 [jR 19, jI (d : Int), jI (ixC M d a b 0), jI a, jI b, jN] [] (jG, M1) Q := by
    intro a ha hend k
    induction k with
    | zero =>
      intro b M1 hb hb0 r dn1
      have e43 : M1 43 = M 43 := r.1 43 (by omega) (by omega)
      have ei : ixC M d a b 0 = ixC M d (a + 1) 0 0 := by
        unfold ixC
        rw [show b = M 43 ((d : Int) * 3 + 1) by omega, Int.add_mul a, Int.one_mul]
        simp only [Int.add_zero]
      rw [ei] at dn1 ⊢
      refine b_X3_countDay_38 (c_X3_countOf (by omega) (by omega) ?_)
      rw [e43]
      exact b_X3_countDay_46 (fun _ => jInd (by omega)) (fun _ => hend M1 r dn1) (fun g => absurd g (by omega))
    | succ k ih =>
      intro b M1 hb hb0 r dn1
      have e43 : M1 43 = M 43 := r.1 43 (by omega) (by omega)
      refine b_X3_countDay_38 (c_X3_countOf (by omega) (by omega) ?_)
      rw [e43]
      refine b_X3_countDay_46 (fun g => absurd g (by omega)) (fun g => absurd g (by omega)) (fun _ => ?_)
      exact l52 a b ha ⟨hb0, by omega⟩ (fun M2 r2 dn2 => ih (b + 1) M2 (by omega) (by omega) r2 dn2) (M 43 ((d : Int) * 3 + 2)).toNat 0 M1 (by omega) (by omega) r dn1
  have l25 : ∀ (k : Nat) (a : Int) (M1 : Nat → Int → Int), a = M 43 ((d : Int) * 3 + 0) - (k : Int) → 0 ≤ a → cdR M M1 (stA M d) (stA M (d + 1)) → dn M M1 q n v d dl (ixC M d a 0 0) → J l z X (dd + 3) mX3_countDay (0, 0) 25 [jR 19, jI (d : Int), jI (ixC M d a 0 0), jI a, jN, jN] [] (jG, M1) Q := by
    intro k
    induction k with
    | zero =>
      intro a M1 ha ha0 r dn1
      have e43 : M1 43 = M 43 := r.1 43 (by omega) (by omega)
      refine b_X3_countDay_25 (c_X3_countOf (by omega) (by omega) ?_)
      rw [e43]
      refine b_X3_countDay_32 (fun _ => hk M1 r (fun a' b' c' ha' hb' hc' => ?_)) (fun g => absurd g (by omega))
      rw [e43] at ha' hb' hc'
      have hix := tb_ix h (by omega) ha' hb' hc'
      have eix : ixC M1 d a' b' c' = ixC M d a' b' c' := by unfold ixC; rw [e43, r.1 64 (by omega) (by omega)]
      have eag : ∀ s i : Int, 0 ≤ s → s < 3 → agC M1 d s i = agC M d s i := fun s i s0 s1 => by unfold agC; rw [r.1 _ (by omega) (by omega)]
      rw [eag 0 a' (by omega) (by omega), eag 1 b' (by omega) (by omega), eag 2 c' (by omega) (by omega)]
      unfold fwV
      rw [if_neg (by omega), eix, show (m - (d : Int)).toNat = dl + 1 by omega]
      refine dn1 a' b' c' ha' hb' hc' ?_
      have ee : ixC M d a 0 0 = stA M (d + 1) := by
        rw [stA_s]
        unfold ixC cnD
        rw [e64, show a = M 43 ((d : Int) * 3 + 0) by omega]
        simp only [Int.add_zero]
      rw [ee]
      exact hix.1.2
    | succ k ih =>
      intro a M1 ha ha0 r dn1
      have e43 : M1 43 = M 43 := r.1 43 (by omega) (by omega)
      refine b_X3_countDay_25 (c_X3_countOf (by omega) (by omega) ?_)
      rw [e43]
      refine b_X3_countDay_32 (fun g => absurd g (by omega)) (fun _ => ?_)
      exact l38 a ⟨ha0, by omega⟩ (fun M2 r2 dn2 => ih (a + 1) M2 (by omega) (by omega) r2 dn2) (M 43 ((d : Int) * 3 + 1)).toNat 0 M1 (by omega) (by omega) r dn1
  refine b_X3_countDay_0 (fun _ _ => by omega) (fun _ _ => by omega) (fun g => absurd g (by omega)) (fun _ g => absurd g (by omega)) (fun _ _ => b_X3_countDay_22 ?_)
  have e0 : M 64 d = ixC M d 0 0 0 := by unfold ixC; simp
  rw [e0]
  refine l25 (M 43 ((d : Int) * 3 + 0)).toNat 0 M (by omega) (by omega) ⟨fun _ _ _ => rfl, fun _ _ => rfl, fun _ _ => rfl⟩ (fun a b c ha hb hc hlt => ?_)
  have hix := tb_ix h (by omega) ha hb hc
  rw [← e0, e64] at hlt
  omega
end COUNT
end TBL
