/-! ## fields -/
/-- a class of the worlds: its number, its table, the words of its fields -/
def jCl (ci : Nat) (C : String) (T : u_T) (n : Nat) : Prop := vwCl[ci]? = some (C, T, n) ∧ (∀ w ∈ u_ws C T n, w ∈ jW) ∧ (∀ k, k < n → parseFieldDescriptor (T k).2.2.1 = some (jfty ci k)) ∧ (∀ a, a < n → ∀ b, b < n → a ≠ b → (T a).2.1 ≠ (T b).2.1) ∧ ∀ k, k < n → (T k).1 = C
theorem jfs_get {z ci n k : Nat} {rs : List (Option Nat)} {f : Int → Int} (hk : k < n) : ((List.range n).map (jfv z ci rs f))[k]? = some (jfv z ci rs f k) := by
  rw [List.getElem?_map, List.getElem?_range hk]; rfl
theorem jfs_set {z ci n k : Nat} {rs rs' : List (Option Nat)} {f f' : Int → Int} {v : Value} (hk : k < n) (hv : v = jfv z ci rs' f' k) (ho : ∀ j, j ≠ k → jfv z ci rs' f' j = jfv z ci rs f j) : ((List.range n).map (jfv z ci rs f)).set k v = (List.range n).map (jfv z ci rs' f') := by
  apply List.ext_getElem?
  intro j
  rw [List.getElem?_set]
  simp only [List.length_map, List.length_range, List.getElem?_map]
  by_cases hjk : k = j
  · subst hjk
    simp [hk, hv]
  · rw [if_neg hjk]
    by_cases hj : j < n
    · rw [List.getElem?_range hj]
      simp [ho j (fun e => hjk e.symm)]
    · simp [hj]
theorem jget0 {G : List jKd} {k : Nat} {kd : jKd} (h : G[k]? = some kd) : G.getD k (0, 0, []) = kd := by rw [List.getD_eq_getElem?_getD, h]; rfl
section HEAPR
variable {l : Launch} {z : Nat} {X : jX} {d : Nat} {mm : jMt} {a : Nat × Nat} {pc : Nat} {L S : List jV} {G : List jKd} {M : Nat → Int → Int} {Q : Option jV → jM → Prop}
/-- the heap's part behind a write into cell k -/
theorem jHp_put {D : va_G} {aC : Nat → ClassId} {R : Room} {s : State} {H1 : Heap} {H : Heap} {locs : List Loc} {cells slots k i : Nat} {kd kd' : jKd} {G' : List jKd} {M' : Nat → Int → Int} {E : va_E} (h : jHp z D aC R a s (G, M) H locs cells slots) (hk : G[k]? = some kd) (hE : va_at D vwCl (z + k, E) H1) (hz : H1.size = H.size) (ho : ∀ q : Nat, q ≠ z + k → H1[q]? = H[q]?) (hl : G'.length = G.length) (hk' : G'.getD k (0, 0, []) = kd') (h1 : E = jent z aC kd' (M' k)) (h2 : ∀ j, j ≠ k → G'.getD j (0, 0, []) = G.getD j (0, 0, []) ∧ M' j = M j) (hM : jokM (G', M')) : jHp z D aC R a s (G', M') H1 (locs ++ [⟨z + k, i⟩]) cells slots := by
  obtain ⟨hs, hP, hS, h4, h5, -⟩ := h
  have hP1 := hP.set jws_D (jws_get hk) hE ho
  rw [jws_set hl (by rw [hk']; exact h1) h2] at hP1
  refine ⟨?_, hP1, hS.put hz ho (Nat.le_add_right _ _), h4, h5, hM⟩
  rw [hz, hs]
  show z + G.length = z + G'.length
  rw [hl]
theorem J_getI {ci n index k h : Nat} {kz : Int} {rs : List (Option Nat)} {C : String} {T : u_T} (hcl : jCl ci C T n) (hd : decode mm.2.1 pc = .ok (.getfield index, 3)) (hw : Cond.fieldLink mm.1.cls index C (T k).2.1 (T k).2.2.1 ∈ jW) (hG : G[h]? = some (ci + 5, n, rs)) (hk : k < n) (hkz : (k : Int) = kz) (hr : jisref (jfty ci k) = false) (kk : J l z X d mm a (pc + 3) L (jI (M h kz) :: S) (G, M) Q) : J l z X d mm a pc L (jR h :: S) (G, M) Q := by
  intro D aC p e R s m args below meth c Φ hc he H locs cells slots ls ha
  obtain ⟨hH, hl, hLn, hLo, hSo⟩ := id ha
  obtain ⟨hHs, hP, hS, hcl0, hsl0, hM⟩ := id hH
  subst hkz
  obtain ⟨c1, c2, c3, c4, c5⟩ := hcl
  refine va_get (Ts := jW) (D := D) (v := .int (Int32.ofInt (M h k))) hc.1 hc.2.1 hc.2.2.2.2.2.2.2.1 c2 hc.2.2.2.2.2.1 hc.2.2.2.2.2.2.2.2.1.2 hP h (jws_get hG) c1 k hk (hc.2.2.2.2.2.2.2.1 _ hw) (by rw [c5 k hk]; exact fun _ h9 => h9) (by rw [jfs_get hk]; simp [jfv, hr]) hd ?_
  exact kk D aC p e R s m args below meth c Φ hc he H locs cells slots ls ⟨hH, hl, hLn, hLo, jokM_int hM (k := h) hG (by show ci + 5 ≠ 1; omega) _, hSo.2⟩
theorem J_getR {h' : Nat} {ci n index k h : Nat} {rs : List (Option Nat)} {C : String} {T : u_T} (hcl : jCl ci C T n) (hd : decode mm.2.1 pc = .ok (.getfield index, 3)) (hw : Cond.fieldLink mm.1.cls index C (T k).2.1 (T k).2.2.1 ∈ jW) (hG : G[h]? = some (ci + 5, n, rs)) (hk : k < n) (hr : jisref (jfty ci k) = true) (hrs : rs[k]? = some (some h')) (kk : J l z X d mm a (pc + 3) L (jR h' :: S) (G, M) Q) : J l z X d mm a pc L (jR h :: S) (G, M) Q := by
  intro D aC p e R s m args below meth c Φ hc he H locs cells slots ls ha
  obtain ⟨hH, hl, hLn, hLo, hSo⟩ := id ha
  obtain ⟨hHs, hP, hS, hcl0, hsl0, hM⟩ := id hH
  obtain ⟨c1, c2, c3, c4, c5⟩ := hcl
  refine va_get (Ts := jW) (D := D) (v := .ref (z + h')) hc.1 hc.2.1 hc.2.2.2.2.2.2.2.1 c2 hc.2.2.2.2.2.1 hc.2.2.2.2.2.2.2.2.1.2 hP h (jws_get hG) c1 k hk (hc.2.2.2.2.2.2.2.1 _ hw) (by rw [c5 k hk]; exact fun _ h9 => h9) (by rw [jfs_get hk]; simp [jfv, hr, jrf, va_rf, List.getD_eq_getElem?_getD, hrs]) hd ?_
  exact kk D aC p e R s m args below meth c Φ hc he H locs cells slots ls ⟨hH, hl, hLn, hLo, trivial, hSo.2⟩
theorem J_putI {x : Int} {ci n index k h : Nat} {kz : Int} {rs : List (Option Nat)} {C : String} {T : u_T} (hcl : jCl ci C T n) (hd : decode mm.2.1 pc = .ok (.putfield index, 3)) (hw : Cond.fieldLink mm.1.cls index C (T k).2.1 (T k).2.2.1 ∈ jW) (hG : G[h]? = some (ci + 5, n, rs)) (hk : k < n) (hkz : (k : Int) = kz) (hty : jfty ci k = .int) (hfin : (T k).2.2.2 = false) (kk : J l z X d mm a (pc + 3) L S (G, jupd M h kz x) Q) : J l z X d mm a pc L (jI x :: jR h :: S) (G, M) Q := by
  intro D aC p e R s m args below meth c Φ hc he H locs cells slots ls ha
  obtain ⟨hH, hl, hLn, hLo, hSo⟩ := id ha
  obtain ⟨hHs, hP, hS, hcl0, hsl0, hM⟩ := id hH
  subst hkz
  obtain ⟨c1, c2, c3, c4, c5⟩ := hcl
  have hap := va_apart (own := mm.1.cls) (Ts := jW) hc.2.2.2.2.2.2.2.1 c2 (jfty ci) c3 c4 hc.2.2.2.2.2.2.2.2.1.2 c1
  obtain ⟨r0, h1, cell, q1, q2, q3, q4⟩ := hP h _ (jws_get hG)
  have hr0 : r0 = (C, T, n) := Option.some.inj (h1.symm.trans c1)
  subst hr0
  obtain ⟨hSl, hfc, kC, hkC, hkind⟩ := (hc.2.2.2.2.2.2.2.2.1.2).1 ci _ c1
  obtain ⟨cf, kf, fi, f, hi, hsl⟩ := hSl k hk
  have hlay := hc.2.2.2.2.2.2.2.1 _ (c2 _ (u_in_lay hk))
  unfold u_lay at hlay
  rw [if_neg (by rw [hfin]; decide)] at hlay
  have hr : jisref (jfty ci k) = false := by rw [hty]; rfl
  have hst := (u_facts hfc hkC (u_lays (ws := jW) (args := args) hc.2.2.2.2.2.2.2.1 c2 hk) hi).1
  have hi' : s.fieldFound? C (T k).2.1 (T k).2.2.1 = some (cf, kf, fi, f) := by rw [← hi]; show _ = s.fieldFound? (T k).1 _ _; rw [c5 k hk]
  have h6 := u_store (v := .int (Int32.ofInt x)) hfc hkC hkind hlay hi ((c3 k hk).trans (congrArg some hty)) (by rfl) (by rfl)
  refine W.putK hc.1 hc.2.1 (f := f) ⟨hc.2.2.2.2.2.1, (hc.2.2.2.2.2.2.2.1 _ hw), ⟨_, _, _, hi'⟩, hst⟩ (by rw [q2]; exact h6) q1 q3 (by rw [hsl]; exact k2_hasslot (q4 k hk)) rfl rfl hd fun H1 e1 e2 e3 => ?_
  rw [hsl] at e1 ⊢
  have hE : va_at D vwCl (z + h, Sum.inr (ci, ((List.range n).map (jfv z ci rs (M h))).set k (.int (Int32.ofInt x)))) H1 := ⟨_, c1, t_OB.to (V := updV (vp_V ((List.range n).map (jfv z ci rs (M h)))) k (.int (Int32.ofInt x))) ⟨_, e1, q2, q3, t_set q4 hap hk _⟩ (fun j _ => vp_updV_set (by simpa using hk) _ j)⟩
  have hH1 := jHp_put (i := D.2 ci k) (G' := G) (M' := jupd M h k x) (kd' := (ci + 5, n, rs)) hH hG hE e2 e3 rfl (jget0 hG) (by
    show Sum.inr (ci, _) = Sum.inr (ci, _)
    rw [jfs_set hk (rs' := rs) (f' := jupd M h k x h) (by simp [jfv, hr, jupd]) (fun j hj => by simp [jfv, jupd, show ¬ (j : Int) = (k : Int) by omega])]) (fun j hj => ⟨rfl, jupd_ne M _ _ hj⟩) (jokM_upd hM hG ⟨fun q => absurd q (by show ci + 5 ≠ 1; omega), fun _ => hSo.1⟩)
  exact kk D aC p e R s m args below meth c Φ hc he H1 _ cells slots ls ⟨hH1, hl, hLn, hLo, hSo.2.2⟩
theorem J_putZ {x : Int} {ci n index k h : Nat} {kz : Int} {rs : List (Option Nat)} {C : String} {T : u_T} (hcl : jCl ci C T n) (hd : decode mm.2.1 pc = .ok (.putfield index, 3)) (hw : Cond.fieldLink mm.1.cls index C (T k).2.1 (T k).2.2.1 ∈ jW) (hG : G[h]? = some (ci + 5, n, rs)) (hk : k < n) (hkz : (k : Int) = kz) (hty : jfty ci k = .boolean) (hfin : (T k).2.2.2 = false) (hx : x = 0 ∨ x = 1) (kk : J l z X d mm a (pc + 3) L S (G, jupd M h kz x) Q) : J l z X d mm a pc L (jI x :: jR h :: S) (G, M) Q := by
  intro D aC p e R s m args below meth c Φ hc he H locs cells slots ls ha
  obtain ⟨hH, hl, hLn, hLo, hSo⟩ := id ha
  obtain ⟨hHs, hP, hS, hcl0, hsl0, hM⟩ := id hH
  subst hkz
  obtain ⟨c1, c2, c3, c4, c5⟩ := hcl
  have hap := va_apart (own := mm.1.cls) (Ts := jW) hc.2.2.2.2.2.2.2.1 c2 (jfty ci) c3 c4 hc.2.2.2.2.2.2.2.2.1.2 c1
  obtain ⟨r0, h1, cell, q1, q2, q3, q4⟩ := hP h _ (jws_get hG)
  have hr0 : r0 = (C, T, n) := Option.some.inj (h1.symm.trans c1)
  subst hr0
  obtain ⟨hSl, hfc, kC, hkC, hkind⟩ := (hc.2.2.2.2.2.2.2.2.1.2).1 ci _ c1
  obtain ⟨cf, kf, fi, f, hi, hsl⟩ := hSl k hk
  have hlay := hc.2.2.2.2.2.2.2.1 _ (c2 _ (u_in_lay hk))
  unfold u_lay at hlay
  rw [if_neg (by rw [hfin]; decide)] at hlay
  have hr : jisref (jfty ci k) = false := by rw [hty]; rfl
  have hst := (u_facts hfc hkC (u_lays (ws := jW) (args := args) hc.2.2.2.2.2.2.2.1 c2 hk) hi).1
  have hi' : s.fieldFound? C (T k).2.1 (T k).2.2.1 = some (cf, kf, fi, f) := by rw [← hi]; show _ = s.fieldFound? (T k).1 _ _; rw [c5 k hk]
  have h6 := u_store (v := .int (Int32.ofInt x)) hfc hkC hkind hlay hi ((c3 k hk).trans (congrArg some hty)) (by rcases hx with rfl | rfl <;> decide +kernel) (by rcases hx with rfl | rfl <;> decide +kernel)
  refine W.putK hc.1 hc.2.1 (f := f) ⟨hc.2.2.2.2.2.1, (hc.2.2.2.2.2.2.2.1 _ hw), ⟨_, _, _, hi'⟩, hst⟩ (by rw [q2]; exact h6) q1 q3 (by rw [hsl]; exact k2_hasslot (q4 k hk)) rfl rfl hd fun H1 e1 e2 e3 => ?_
  rw [hsl] at e1 ⊢
  have hE : va_at D vwCl (z + h, Sum.inr (ci, ((List.range n).map (jfv z ci rs (M h))).set k (.int (Int32.ofInt x)))) H1 := ⟨_, c1, t_OB.to (V := updV (vp_V ((List.range n).map (jfv z ci rs (M h)))) k (.int (Int32.ofInt x))) ⟨_, e1, q2, q3, t_set q4 hap hk _⟩ (fun j _ => vp_updV_set (by simpa using hk) _ j)⟩
  have hH1 := jHp_put (i := D.2 ci k) (G' := G) (M' := jupd M h k x) (kd' := (ci + 5, n, rs)) hH hG hE e2 e3 rfl (jget0 hG) (by
    show Sum.inr (ci, _) = Sum.inr (ci, _)
    rw [jfs_set hk (rs' := rs) (f' := jupd M h k x h) (by simp [jfv, hr, jupd]) (fun j hj => by simp [jfv, jupd, show ¬ (j : Int) = (k : Int) by omega])]) (fun j hj => ⟨rfl, jupd_ne M _ _ hj⟩) (jokM_upd hM hG ⟨fun q => absurd q (by show ci + 5 ≠ 1; omega), fun _ => hSo.1⟩)
  exact kk D aC p e R s m args below meth c Φ hc he H1 _ cells slots ls ⟨hH1, hl, hLn, hLo, hSo.2.2⟩
theorem J_putF {h' : Nat} {ci n index k h : Nat} {rs : List (Option Nat)} {C : String} {T : u_T} (hcl : jCl ci C T n) (hd : decode mm.2.1 pc = .ok (.putfield index, 3)) (hw : Cond.fieldLink mm.1.cls index C (T k).2.1 (T k).2.2.1 ∈ jW) (hG : G[h]? = some (ci + 5, n, rs)) (hk : k < n) (hrl : k < rs.length) (hty : jisref (jfty ci k) = true) (hfin : (T k).2.2.2 = true) (hini : mm.1.name = "<init>") (hown : mm.1.cls = C) (kk : J l z X d mm a (pc + 3) L S (G.set h (ci + 5, n, rs.set k (some h')), M) Q) : J l z X d mm a pc L (jR h' :: jR h :: S) (G, M) Q := by
  intro D aC p e R s m args below meth c Φ hc he H locs cells slots ls ha
  obtain ⟨hH, hl, hLn, hLo, hSo⟩ := id ha
  obtain ⟨hHs, hP, hS, hcl0, hsl0, hM⟩ := id hH
  obtain ⟨c1, c2, c3, c4, c5⟩ := hcl
  have hap := va_apart (own := mm.1.cls) (Ts := jW) hc.2.2.2.2.2.2.2.1 c2 (jfty ci) c3 c4 hc.2.2.2.2.2.2.2.2.1.2 c1
  obtain ⟨r0, h1, cell, q1, q2, q3, q4⟩ := hP h _ (jws_get hG)
  have hr0 : r0 = (C, T, n) := Option.some.inj (h1.symm.trans c1)
  subst hr0
  obtain ⟨hSl, hfc, kC, hkC, hkind⟩ := (hc.2.2.2.2.2.2.2.2.1.2).1 ci _ c1
  obtain ⟨cf, kf, fi, f, hi, hsl⟩ := hSl k hk
  have hlay := hc.2.2.2.2.2.2.2.1 _ (c2 _ (u_in_lay hk))
  unfold u_lay at hlay
  rw [if_pos hfin] at hlay
  have hst := (u_facts hfc hkC (u_lays (ws := jW) (args := args) hc.2.2.2.2.2.2.2.1 c2 hk) hi).1
  have hi' : s.fieldFound? C (T k).2.1 (T k).2.2.1 = some (cf, kf, fi, f) := by rw [← hi]; show _ = s.fieldFound? (T k).1 _ _; rw [c5 k hk]
  have hcf : m.cls = cf := by
    obtain ⟨_, _, c', _, _, _, -, -, hf', -, -, -, hown2, -⟩ := Cond.laysFinal_spec hlay
    have e1 : c' = cf := by have := hi.symm.trans hf'; simp at this; exact this.1.symm
    rw [c5 k hk, ← hown] at hown2
    rw [← e1]; exact Option.some.inj (hc.2.2.2.2.2.1.symm.trans hown2)
  have hfit : narrow (jfty ci k) (.ref (z + h')) = .ref (z + h') ∧ fits (jfty ci k) (.ref (z + h')) = true := by
    revert hty
    generalize jfty ci k = ty
    intro hty
    cases ty <;> first | exact ⟨rfl, rfl⟩ | (simp [jisref] at hty)
  have h6 := u_fits (v := .ref (z + h')) hfc hkC hkind (Or.inr hlay) hi (c3 k hk) hfit.1 hfit.2
  refine W.putFinK hc.1 hc.2.1 hc.2.2.2.2.2.1 (hc.2.2.2.2.2.2.2.1 _ hw) hi' hst hcf (hc.2.2.2.2.2.2.1.trans hini) (by rw [q2]; exact h6) q1 q3 (by rw [hsl]; exact k2_hasslot (q4 k hk)) rfl rfl hd fun H1 e1 e2 e3 => ?_
  rw [hsl] at e1 ⊢
  have hE : va_at D vwCl (z + h, Sum.inr (ci, ((List.range n).map (jfv z ci rs (M h))).set k (.ref (z + h')))) H1 := ⟨_, c1, t_OB.to (V := updV (vp_V ((List.range n).map (jfv z ci rs (M h)))) k (.ref (z + h'))) ⟨_, e1, q2, q3, t_set q4 hap hk _⟩ (fun j _ => vp_updV_set (by simpa using hk) _ j)⟩
  have hl0 := (List.getElem?_eq_some_iff.mp hG).1
  have hG1 : (G.set h (ci + 5, n, rs.set k (some h'))).getD h (0, 0, []) = (ci + 5, n, rs.set k (some h')) := jget0 (by rw [List.getElem?_set_self hl0])
  have hG2 : ∀ j, j ≠ h → (G.set h (ci + 5, n, rs.set k (some h'))).getD j (0, 0, []) = G.getD j (0, 0, []) := fun j hj => by rw [List.getD_eq_getElem?_getD, List.getD_eq_getElem?_getD, List.getElem?_set_ne (Ne.symm hj)]
  have hH1 := jHp_put (i := D.2 ci k) (G' := G.set h (ci + 5, n, rs.set k (some h'))) (M' := M) (kd' := (ci + 5, n, rs.set k (some h'))) hH hG hE e2 e3 (List.length_set) hG1 (by
    show Sum.inr (ci, _) = Sum.inr (ci, _)
    rw [jfs_set hk (rs' := rs.set k (some h')) (f' := M h) (by simp [jfv, hty, jrf, va_rf, List.getD_eq_getElem?_getD, hrl]) (fun j hj => by simp [jfv, jrf, List.getD_eq_getElem?_getD, List.getElem?_set_ne (Ne.symm hj)])]) (fun j hj => ⟨hG2 j hj, rfl⟩) (by
    intro k' j
    have h9 : jlen (G.set h (ci + 5, n, rs.set k (some h'))) k' = jlen G k' := by
      unfold jlen
      by_cases hkh : k' = h
      · subst hkh; rw [hG1, jget0 hG]
      · rw [hG2 k' hkh]
    dsimp only
    rw [h9, List.length_set]
    exact hM k' j)
  exact kk D aC p e R s m args below meth c Φ hc he H1 _ cells slots ls ⟨hH1, hl, hLn, hLo, hSo.2.2⟩
theorem J_getIN {ci n index k h : Nat} {kz : Int} {rs : List (Option Nat)} {C : String} {T : u_T} (hcl : jCl ci C T n) (hd : decode mm.2.1 pc = .ok (.getfield index, 3)) {host : String} (hw : Cond.fieldLinkNest mm.1.cls index C (T k).2.1 (T k).2.2.1 host ∈ jNW) (hG : G[h]? = some (ci + 5, n, rs)) (hk : k < n) (hkz : (k : Int) = kz) (hr : jisref (jfty ci k) = false) (kk : J l z X d mm a (pc + 3) L (jI (M h kz) :: S) (G, M) Q) : J l z X d mm a pc L (jR h :: S) (G, M) Q := by
  intro D aC p e R s m args below meth c Φ hc he H locs cells slots ls ha
  obtain ⟨hH, hl, hLn, hLo, hSo⟩ := id ha
  obtain ⟨hHs, hP, hS, hcl0, hsl0, hM⟩ := id hH
  subst hkz
  obtain ⟨c1, c2, c3, c4, c5⟩ := hcl
  refine va_getN (Ts := jW) (D := D) (v := .int (Int32.ofInt (M h k))) hc.1 hc.2.1 hc.2.2.2.2.2.2.2.1 c2 hc.2.2.2.2.2.1 hc.2.2.2.2.2.2.2.2.1.2 hP h (jws_get hG) c1 k hk (va_Nw.use rfl (hc.2.2.2.2.2.2.2.2.1.1 _ hw)) (by rw [c5 k hk]; exact fun _ h9 => h9) (by rw [jfs_get hk]; simp [jfv, hr]) hd ?_
  exact kk D aC p e R s m args below meth c Φ hc he H locs cells slots ls ⟨hH, hl, hLn, hLo, jokM_int hM (k := h) hG (by show ci + 5 ≠ 1; omega) _, hSo.2⟩
theorem J_getRN {h' : Nat} {ci n index k h : Nat} {rs : List (Option Nat)} {C : String} {T : u_T} (hcl : jCl ci C T n) (hd : decode mm.2.1 pc = .ok (.getfield index, 3)) {host : String} (hw : Cond.fieldLinkNest mm.1.cls index C (T k).2.1 (T k).2.2.1 host ∈ jNW) (hG : G[h]? = some (ci + 5, n, rs)) (hk : k < n) (hr : jisref (jfty ci k) = true) (hrs : rs[k]? = some (some h')) (kk : J l z X d mm a (pc + 3) L (jR h' :: S) (G, M) Q) : J l z X d mm a pc L (jR h :: S) (G, M) Q := by
  intro D aC p e R s m args below meth c Φ hc he H locs cells slots ls ha
  obtain ⟨hH, hl, hLn, hLo, hSo⟩ := id ha
  obtain ⟨hHs, hP, hS, hcl0, hsl0, hM⟩ := id hH
  obtain ⟨c1, c2, c3, c4, c5⟩ := hcl
  refine va_getN (Ts := jW) (D := D) (v := .ref (z + h')) hc.1 hc.2.1 hc.2.2.2.2.2.2.2.1 c2 hc.2.2.2.2.2.1 hc.2.2.2.2.2.2.2.2.1.2 hP h (jws_get hG) c1 k hk (va_Nw.use rfl (hc.2.2.2.2.2.2.2.2.1.1 _ hw)) (by rw [c5 k hk]; exact fun _ h9 => h9) (by rw [jfs_get hk]; simp [jfv, hr, jrf, va_rf, List.getD_eq_getElem?_getD, hrs]) hd ?_
  exact kk D aC p e R s m args below meth c Φ hc he H locs cells slots ls ⟨hH, hl, hLn, hLo, trivial, hSo.2⟩
theorem J_putIN {x : Int} {ci n index k h : Nat} {kz : Int} {rs : List (Option Nat)} {C : String} {T : u_T} (hcl : jCl ci C T n) (hd : decode mm.2.1 pc = .ok (.putfield index, 3)) {host : String} (hw : Cond.fieldLinkNest mm.1.cls index C (T k).2.1 (T k).2.2.1 host ∈ jNW) (hG : G[h]? = some (ci + 5, n, rs)) (hk : k < n) (hkz : (k : Int) = kz) (hty : jfty ci k = .int) (hfin : (T k).2.2.2 = false) (kk : J l z X d mm a (pc + 3) L S (G, jupd M h kz x) Q) : J l z X d mm a pc L (jI x :: jR h :: S) (G, M) Q := by
  intro D aC p e R s m args below meth c Φ hc he H locs cells slots ls ha
  obtain ⟨hH, hl, hLn, hLo, hSo⟩ := id ha
  obtain ⟨hHs, hP, hS, hcl0, hsl0, hM⟩ := id hH
  subst hkz
  obtain ⟨c1, c2, c3, c4, c5⟩ := hcl
  have hap := va_apart (own := mm.1.cls) (Ts := jW) hc.2.2.2.2.2.2.2.1 c2 (jfty ci) c3 c4 hc.2.2.2.2.2.2.2.2.1.2 c1
  obtain ⟨r0, h1, cell, q1, q2, q3, q4⟩ := hP h _ (jws_get hG)
  have hr0 : r0 = (C, T, n) := Option.some.inj (h1.symm.trans c1)
  subst hr0
  obtain ⟨hSl, hfc, kC, hkC, hkind⟩ := (hc.2.2.2.2.2.2.2.2.1.2).1 ci _ c1
  obtain ⟨cf, kf, fi, f, hi, hsl⟩ := hSl k hk
  have hlay := hc.2.2.2.2.2.2.2.1 _ (c2 _ (u_in_lay hk))
  unfold u_lay at hlay
  rw [if_neg (by rw [hfin]; decide)] at hlay
  have hr : jisref (jfty ci k) = false := by rw [hty]; rfl
  have hst := (u_facts hfc hkC (u_lays (ws := jW) (args := args) hc.2.2.2.2.2.2.2.1 c2 hk) hi).1
  have hi' : s.fieldFound? C (T k).2.1 (T k).2.2.1 = some (cf, kf, fi, f) := by rw [← hi]; show _ = s.fieldFound? (T k).1 _ _; rw [c5 k hk]
  have h6 := u_store (v := .int (Int32.ofInt x)) hfc hkC hkind hlay hi ((c3 k hk).trans (congrArg some hty)) (by rfl) (by rfl)
  refine va_WputK hc.1 hc.2.1 (f := f) hc.2.2.2.2.2.1 (va_Nw.use rfl (hc.2.2.2.2.2.2.2.2.1.1 _ hw)) hi' hst (by rw [q2]; exact h6) q1 q3 (by rw [hsl]; exact k2_hasslot (q4 k hk)) rfl rfl hd fun H1 e1 e2 e3 => ?_
  rw [hsl] at e1 ⊢
  have hE : va_at D vwCl (z + h, Sum.inr (ci, ((List.range n).map (jfv z ci rs (M h))).set k (.int (Int32.ofInt x)))) H1 := ⟨_, c1, t_OB.to (V := updV (vp_V ((List.range n).map (jfv z ci rs (M h)))) k (.int (Int32.ofInt x))) ⟨_, e1, q2, q3, t_set q4 hap hk _⟩ (fun j _ => vp_updV_set (by simpa using hk) _ j)⟩
  have hH1 := jHp_put (i := D.2 ci k) (G' := G) (M' := jupd M h k x) (kd' := (ci + 5, n, rs)) hH hG hE e2 e3 rfl (jget0 hG) (by
    show Sum.inr (ci, _) = Sum.inr (ci, _)
    rw [jfs_set hk (rs' := rs) (f' := jupd M h k x h) (by simp [jfv, hr, jupd]) (fun j hj => by simp [jfv, jupd, show ¬ (j : Int) = (k : Int) by omega])]) (fun j hj => ⟨rfl, jupd_ne M _ _ hj⟩) (jokM_upd hM hG ⟨fun q => absurd q (by show ci + 5 ≠ 1; omega), fun _ => hSo.1⟩)
  exact kk D aC p e R s m args below meth c Φ hc he H1 _ cells slots ls ⟨hH1, hl, hLn, hLo, hSo.2.2⟩
theorem J_putZN {x : Int} {ci n index k h : Nat} {kz : Int} {rs : List (Option Nat)} {C : String} {T : u_T} (hcl : jCl ci C T n) (hd : decode mm.2.1 pc = .ok (.putfield index, 3)) {host : String} (hw : Cond.fieldLinkNest mm.1.cls index C (T k).2.1 (T k).2.2.1 host ∈ jNW) (hG : G[h]? = some (ci + 5, n, rs)) (hk : k < n) (hkz : (k : Int) = kz) (hty : jfty ci k = .boolean) (hfin : (T k).2.2.2 = false) (hx : x = 0 ∨ x = 1) (kk : J l z X d mm a (pc + 3) L S (G, jupd M h kz x) Q) : J l z X d mm a pc L (jI x :: jR h :: S) (G, M) Q := by
  intro D aC p e R s m args below meth c Φ hc he H locs cells slots ls ha
  obtain ⟨hH, hl, hLn, hLo, hSo⟩ := id ha
  obtain ⟨hHs, hP, hS, hcl0, hsl0, hM⟩ := id hH
  subst hkz
  obtain ⟨c1, c2, c3, c4, c5⟩ := hcl
  have hap := va_apart (own := mm.1.cls) (Ts := jW) hc.2.2.2.2.2.2.2.1 c2 (jfty ci) c3 c4 hc.2.2.2.2.2.2.2.2.1.2 c1
  obtain ⟨r0, h1, cell, q1, q2, q3, q4⟩ := hP h _ (jws_get hG)
  have hr0 : r0 = (C, T, n) := Option.some.inj (h1.symm.trans c1)
  subst hr0
  obtain ⟨hSl, hfc, kC, hkC, hkind⟩ := (hc.2.2.2.2.2.2.2.2.1.2).1 ci _ c1
  obtain ⟨cf, kf, fi, f, hi, hsl⟩ := hSl k hk
  have hlay := hc.2.2.2.2.2.2.2.1 _ (c2 _ (u_in_lay hk))
  unfold u_lay at hlay
  rw [if_neg (by rw [hfin]; decide)] at hlay
  have hr : jisref (jfty ci k) = false := by rw [hty]; rfl
  have hst := (u_facts hfc hkC (u_lays (ws := jW) (args := args) hc.2.2.2.2.2.2.2.1 c2 hk) hi).1
  have hi' : s.fieldFound? C (T k).2.1 (T k).2.2.1 = some (cf, kf, fi, f) := by rw [← hi]; show _ = s.fieldFound? (T k).1 _ _; rw [c5 k hk]
  have h6 := u_store (v := .int (Int32.ofInt x)) hfc hkC hkind hlay hi ((c3 k hk).trans (congrArg some hty)) (by rcases hx with rfl | rfl <;> decide +kernel) (by rcases hx with rfl | rfl <;> decide +kernel)
  refine va_WputK hc.1 hc.2.1 (f := f) hc.2.2.2.2.2.1 (va_Nw.use rfl (hc.2.2.2.2.2.2.2.2.1.1 _ hw)) hi' hst (by rw [q2]; exact h6) q1 q3 (by rw [hsl]; exact k2_hasslot (q4 k hk)) rfl rfl hd fun H1 e1 e2 e3 => ?_
  rw [hsl] at e1 ⊢
  have hE : va_at D vwCl (z + h, Sum.inr (ci, ((List.range n).map (jfv z ci rs (M h))).set k (.int (Int32.ofInt x)))) H1 := ⟨_, c1, t_OB.to (V := updV (vp_V ((List.range n).map (jfv z ci rs (M h)))) k (.int (Int32.ofInt x))) ⟨_, e1, q2, q3, t_set q4 hap hk _⟩ (fun j _ => vp_updV_set (by simpa using hk) _ j)⟩
  have hH1 := jHp_put (i := D.2 ci k) (G' := G) (M' := jupd M h k x) (kd' := (ci + 5, n, rs)) hH hG hE e2 e3 rfl (jget0 hG) (by
    show Sum.inr (ci, _) = Sum.inr (ci, _)
    rw [jfs_set hk (rs' := rs) (f' := jupd M h k x h) (by simp [jfv, hr, jupd]) (fun j hj => by simp [jfv, jupd, show ¬ (j : Int) = (k : Int) by omega])]) (fun j hj => ⟨rfl, jupd_ne M _ _ hj⟩) (jokM_upd hM hG ⟨fun q => absurd q (by show ci + 5 ≠ 1; omega), fun _ => hSo.1⟩)
  exact kk D aC p e R s m args below meth c Φ hc he H1 _ cells slots ls ⟨hH1, hl, hLn, hLo, hSo.2.2⟩
theorem J_iald {n h : Nat} {i : Int} {rs : List (Option Nat)} (hd : decode mm.2.1 pc = .ok (.iaload, 1)) (hG : G[h]? = some (0, n, rs)) (h0 : 0 ≤ i) (h1 : i < n) (kk : J l z X d mm a (pc + 1) L (jI (M h i) :: S) (G, M) Q) : J l z X d mm a pc L (jI i :: jR h :: S) (G, M) Q := by
  intro D aC p e R s m args below meth c Φ hc he H locs cells slots ls ha
  obtain ⟨hH, hl, hLn, hLo, hSo⟩ := id ha
  obtain ⟨hHs, hP, hS, hcl0, hsl0, hM⟩ := id hH
  have hi : ((Int32.ofInt i).toNatClampNeg : Int) = i := by rw [j32_ix (n := n) h0 hSo.1]; exact Int.toNat_of_nonneg h0
  refine va_iald hc.1 hc.2.1 hc.2.2.2.2.2.2.2.2.1.2 hP h 0 (jws_get hG) rfl (j32_in h0 h1 hSo.1) hd ?_
  rw [hi]
  exact kk D aC p e R s m args below meth c Φ hc he H locs cells slots ls ⟨hH, hl, hLn, hLo, jokM_int hM (k := h) hG (show ¬ (0 : Nat) = 1 by decide) _, hSo.2.2⟩
theorem J_iast {n h : Nat} {i x : Int} {rs : List (Option Nat)} (hd : decode mm.2.1 pc = .ok (.iastore, 1)) (hG : G[h]? = some (0, n, rs)) (h0 : 0 ≤ i) (h1 : i < n) (kk : J l z X d mm a (pc + 1) L S (G, jupd M h i x) Q) : J l z X d mm a pc L (jI x :: jI i :: jR h :: S) (G, M) Q := by
  intro D aC p e R s m args below meth c Φ hc he H locs cells slots ls ha
  obtain ⟨hH, hl, hLn, hLo, hSo⟩ := id ha
  obtain ⟨hHs, hP, hS, hcl0, hsl0, hM⟩ := id hH
  have hi : ((Int32.ofInt i).toNatClampNeg : Int) = i := by rw [j32_ix (n := n) h0 hSo.2.1]; exact Int.toNat_of_nonneg h0
  have hin := j32_in h0 h1 hSo.2.1
  refine W.iast hc.1 hc.2.1 (hP h _ (jws_get hG)) (((hc.2.2.2.2.2.2.2.2.1.2).2 0 _ rfl).1 n (fun j => .int (Int32.ofInt (M h j)))) (fun q => by cases q) (by show ¬ (_ ∨ (arrV _ _ _).slots.size ≤ _); rw [arrV_size]; exact hin) rfl rfl hd fun H1 e1 e2 e3 => ?_
  have hE : va_at D vwCl (z + h, Sum.inl (aC 0, n, .inl (fun j => Int32.ofInt (jupd M h i x h j)))) H1 := by
    show H1[z + h]? = some (vp_cell _ _)
    rw [e1]
    show some (Cell.setSlot (arrV _ _ _) _ _) = _
    rw [vp_cell_i, arrV_store]
    congr 2
    funext q
    by_cases hq : q = (Int32.ofInt i).toNatClampNeg
    · subst hq
      simp [updV, jupd, hi]
    · have hq2 : ¬ (q : Int) = i := fun g => hq (by omega)
      simp [updV, jupd, hq, hq2]
  have hH1 := jHp_put (i := (Int32.ofInt i).toNatClampNeg) (G' := G) (M' := jupd M h i x) (kd' := (0, n, rs)) hH hG hE e2 e3 rfl (jget0 hG) rfl (fun j hj => ⟨rfl, jupd_ne M _ _ hj⟩) (jokM_upd hM hG ⟨fun q => absurd q (show ¬ (0 : Nat) = 1 by decide), fun _ => hSo.1⟩)
  exact kk D aC p e R s m args below meth c Φ hc he H1 _ cells slots ls ⟨hH1, hl, hLn, hLo, hSo.2.2.2⟩
theorem J_lald {n h : Nat} {i : Int} {rs : List (Option Nat)} (hd : decode mm.2.1 pc = .ok (.laload, 1)) (hG : G[h]? = some (1, n, rs)) (h0 : 0 ≤ i) (h1 : i < n) (kk : J l z X d mm a (pc + 1) L (jL (M h i) :: S) (G, M) Q) : J l z X d mm a pc L (jI i :: jR h :: S) (G, M) Q := by
  intro D aC p e R s m args below meth c Φ hc he H locs cells slots ls ha
  obtain ⟨hH, hl, hLn, hLo, hSo⟩ := id ha
  obtain ⟨hHs, hP, hS, hcl0, hsl0, hM⟩ := id hH
  have hi : ((Int32.ofInt i).toNatClampNeg : Int) = i := by rw [j32_ix (n := n) h0 hSo.1]; exact Int.toNat_of_nonneg h0
  refine va_lald hc.1 hc.2.1 hc.2.2.2.2.2.2.2.2.1.2 hP h 1 (jws_get hG) rfl (j32_in h0 h1 hSo.1) hd ?_
  rw [hi]
  exact kk D aC p e R s m args below meth c Φ hc he H locs cells slots ls ⟨hH, hl, hLn, hLo, jokM_long hM (k := h) hG (rfl) _, hSo.2.2⟩
theorem J_last {n h : Nat} {i x : Int} {rs : List (Option Nat)} (hd : decode mm.2.1 pc = .ok (.lastore, 1)) (hG : G[h]? = some (1, n, rs)) (h0 : 0 ≤ i) (h1 : i < n) (kk : J l z X d mm a (pc + 1) L S (G, jupd M h i x) Q) : J l z X d mm a pc L (jL x :: jI i :: jR h :: S) (G, M) Q := by
  intro D aC p e R s m args below meth c Φ hc he H locs cells slots ls ha
  obtain ⟨hH, hl, hLn, hLo, hSo⟩ := id ha
  obtain ⟨hHs, hP, hS, hcl0, hsl0, hM⟩ := id hH
  have hi : ((Int32.ofInt i).toNatClampNeg : Int) = i := by rw [j32_ix (n := n) h0 hSo.2.1]; exact Int.toNat_of_nonneg h0
  have hin := j32_in h0 h1 hSo.2.1
  refine W.last hc.1 hc.2.1 (hP h _ (jws_get hG)) (((hc.2.2.2.2.2.2.2.2.1.2).2 1 _ rfl).1 n (fun j => .long (Int64.ofInt (M h j)))) (fun q => by cases q) (by show ¬ (_ ∨ (arrV _ _ _).slots.size ≤ _); rw [arrV_size]; exact hin) rfl rfl hd fun H1 e1 e2 e3 => ?_
  have hE : va_at D vwCl (z + h, Sum.inl (aC 1, n, .inr (.inl (fun j => Int64.ofInt (jupd M h i x h j))))) H1 := by
    show H1[z + h]? = some (vp_cell _ _)
    rw [e1]
    show some (Cell.setSlot (arrV _ _ _) _ _) = _
    rw [vp_cell_l, arrV_store]
    congr 2
    funext q
    by_cases hq : q = (Int32.ofInt i).toNatClampNeg
    · subst hq
      simp [updV, jupd, hi]
    · have hq2 : ¬ (q : Int) = i := fun g => hq (by omega)
      simp [updV, jupd, hq, hq2]
  have hH1 := jHp_put (i := (Int32.ofInt i).toNatClampNeg) (G' := G) (M' := jupd M h i x) (kd' := (1, n, rs)) hH hG hE e2 e3 rfl (jget0 hG) rfl (fun j hj => ⟨rfl, jupd_ne M _ _ hj⟩) (jokM_upd hM hG ⟨fun _ => hSo.1, fun q => absurd rfl q⟩)
  exact kk D aC p e R s m args below meth c Φ hc he H1 _ cells slots ls ⟨hH1, hl, hLn, hLo, hSo.2.2.2⟩
theorem J_zald {n h : Nat} {i : Int} {rs : List (Option Nat)} (hd : decode mm.2.1 pc = .ok (.baload, 1)) (hG : G[h]? = some (2, n, rs)) (h0 : 0 ≤ i) (h1 : i < n) (kk : J l z X d mm a (pc + 1) L (jI (M h i) :: S) (G, M) Q) : J l z X d mm a pc L (jI i :: jR h :: S) (G, M) Q := by
  intro D aC p e R s m args below meth c Φ hc he H locs cells slots ls ha
  obtain ⟨hH, hl, hLn, hLo, hSo⟩ := id ha
  obtain ⟨hHs, hP, hS, hcl0, hsl0, hM⟩ := id hH
  have hi : ((Int32.ofInt i).toNatClampNeg : Int) = i := by rw [j32_ix (n := n) h0 hSo.1]; exact Int.toNat_of_nonneg h0
  refine va_zald hc.1 hc.2.1 hc.2.2.2.2.2.2.2.2.1.2 hP h 2 (jws_get hG) rfl (j32_in h0 h1 hSo.1) hd ?_
  rw [hi]
  exact kk D aC p e R s m args below meth c Φ hc he H locs cells slots ls ⟨hH, hl, hLn, hLo, jokM_int hM (k := h) hG (show ¬ (2 : Nat) = 1 by decide) _, hSo.2.2⟩
theorem J_zast {n h : Nat} {i x : Int} {rs : List (Option Nat)} (hd : decode mm.2.1 pc = .ok (.bastore, 1)) (hG : G[h]? = some (2, n, rs)) (h0 : 0 ≤ i) (h1 : i < n) (hx : x = 0 ∨ x = 1) (kk : J l z X d mm a (pc + 1) L S (G, jupd M h i x) Q) : J l z X d mm a pc L (jI x :: jI i :: jR h :: S) (G, M) Q := by
  intro D aC p e R s m args below meth c Φ hc he H locs cells slots ls ha
  obtain ⟨hH, hl, hLn, hLo, hSo⟩ := id ha
  obtain ⟨hHs, hP, hS, hcl0, hsl0, hM⟩ := id hH
  have hi : ((Int32.ofInt i).toNatClampNeg : Int) = i := by rw [j32_ix (n := n) h0 hSo.2.1]; exact Int.toNat_of_nonneg h0
  have hin := j32_in h0 h1 hSo.2.1
  refine W.zast hc.1 hc.2.1 (hP h _ (jws_get hG)) (((hc.2.2.2.2.2.2.2.2.1.2).2 2 _ rfl).1 n (fun j => .int (Int32.ofInt (M h j)))) (fun q => by cases q) (by show ¬ (_ ∨ (arrV _ _ _).slots.size ≤ _); rw [arrV_size]; exact hin) rfl rfl hd fun H1 e1 e2 e3 => ?_
  have hE : va_at D vwCl (z + h, Sum.inl (aC 2, n, .inl (fun j => Int32.ofInt (jupd M h i x h j)))) H1 := by
    show H1[z + h]? = some (vp_cell _ _)
    rw [show narrow .boolean (.int (Int32.ofInt x)) = .int (Int32.ofInt x) by rcases hx with rfl | rfl <;> decide +kernel] at e1
    rw [e1]
    show some (Cell.setSlot (arrV _ _ _) _ _) = _
    rw [vp_cell_i, arrV_store]
    congr 2
    funext q
    by_cases hq : q = (Int32.ofInt i).toNatClampNeg
    · subst hq
      simp [updV, jupd, hi]
    · have hq2 : ¬ (q : Int) = i := fun g => hq (by omega)
      simp [updV, jupd, hq, hq2]
  have hH1 := jHp_put (i := (Int32.ofInt i).toNatClampNeg) (G' := G) (M' := jupd M h i x) (kd' := (2, n, rs)) hH hG hE e2 e3 rfl (jget0 hG) rfl (fun j hj => ⟨rfl, jupd_ne M _ _ hj⟩) (jokM_upd hM hG ⟨fun q => absurd q (show ¬ (2 : Nat) = 1 by decide), fun _ => hSo.1⟩)
  exact kk D aC p e R s m args below meth c Φ hc he H1 _ cells slots ls ⟨hH1, hl, hLn, hLo, hSo.2.2.2⟩
theorem J_aald3 {n h h' : Nat} {i : Int} {rs : List (Option Nat)} (hd : decode mm.2.1 pc = .ok (.aaload, 1)) (hG : G[h]? = some (3, n, rs)) (h0 : 0 ≤ i) (h1 : i < n) (hrs : rs[i.toNat]? = some (some h')) (kk : J l z X d mm a (pc + 1) L (jR h' :: S) (G, M) Q) : J l z X d mm a pc L (jI i :: jR h :: S) (G, M) Q := by
  intro D aC p e R s m args below meth c Φ hc he H locs cells slots ls ha
  obtain ⟨hH, hl, hLn, hLo, hSo⟩ := id ha
  obtain ⟨hHs, hP, hS, hcl0, hsl0, hM⟩ := id hH
  have hi : (Int32.ofInt i).toNatClampNeg = i.toNat := j32_ix (n := n) h0 hSo.1
  have hin := j32_in h0 h1 hSo.1
  have hlt : (Int32.ofInt i).toNatClampNeg < n := Nat.not_le.mp fun q => hin (Or.inr q)
  refine W.aald (v := .ref (z + h')) (ty := (.array .int)) hc.1 hc.2.1 (hP h _ (jws_get hG)) (((hc.2.2.2.2.2.2.2.2.1.2).2 3 _ rfl).1 n (fun j => va_rf (jrf z rs j))) rfl (fun q => by cases q) (by show ¬ (_ ∨ (arrV _ _ _).slots.size ≤ _); rw [arrV_size]; exact hin) (by
    show (arrV _ _ _).slots[_]? = _
    rw [arrV_read _ _ hlt, hi]
    simp [jrf, va_rf, List.getD_eq_getElem?_getD, hrs]) rfl rfl hd ?_
  exact kk D aC p e R s m args below meth c Φ hc he H locs cells slots ls ⟨hH, hl, hLn, hLo, trivial, hSo.2.2⟩
theorem J_aald4 {n h h' : Nat} {i : Int} {rs : List (Option Nat)} (hd : decode mm.2.1 pc = .ok (.aaload, 1)) (hG : G[h]? = some (4, n, rs)) (h0 : 0 ≤ i) (h1 : i < n) (hrs : rs[i.toNat]? = some (some h')) (kk : J l z X d mm a (pc + 1) L (jR h' :: S) (G, M) Q) : J l z X d mm a pc L (jI i :: jR h :: S) (G, M) Q := by
  intro D aC p e R s m args below meth c Φ hc he H locs cells slots ls ha
  obtain ⟨hH, hl, hLn, hLo, hSo⟩ := id ha
  obtain ⟨hHs, hP, hS, hcl0, hsl0, hM⟩ := id hH
  have hi : (Int32.ofInt i).toNatClampNeg = i.toNat := j32_ix (n := n) h0 hSo.1
  have hin := j32_in h0 h1 hSo.1
  have hlt : (Int32.ofInt i).toNatClampNeg < n := Nat.not_le.mp fun q => hin (Or.inr q)
  refine W.aald (v := .ref (z + h')) (ty := (.object RX2)) hc.1 hc.2.1 (hP h _ (jws_get hG)) (((hc.2.2.2.2.2.2.2.2.1.2).2 4 _ rfl).1 n (fun j => va_rf (jrf z rs j))) rfl (fun q => by cases q) (by show ¬ (_ ∨ (arrV _ _ _).slots.size ≤ _); rw [arrV_size]; exact hin) (by
    show (arrV _ _ _).slots[_]? = _
    rw [arrV_read _ _ hlt, hi]
    simp [jrf, va_rf, List.getD_eq_getElem?_getD, hrs]) rfl rfl hd ?_
  exact kk D aC p e R s m args below meth c Φ hc he H locs cells slots ls ⟨hH, hl, hLn, hLo, trivial, hSo.2.2⟩
theorem J_alen0 {n h : Nat} {rs : List (Option Nat)} (hd : decode mm.2.1 pc = .ok (.arraylength, 1)) (hG : G[h]? = some (0, n, rs)) (hn : n < 2147483648) (kk : J l z X d mm a (pc + 1) L (jI n :: S) (G, M) Q) : J l z X d mm a pc L (jR h :: S) (G, M) Q := by
  intro D aC p e R s m args below meth c Φ hc he H locs cells slots ls ha
  obtain ⟨hH, hl, hLn, hLo, hSo⟩ := id ha
  obtain ⟨hHs, hP, hS, hcl0, hsl0, hM⟩ := id hH
  refine va_alen (v := Int32.ofInt n) hc.1 hc.2.1 hc.2.2.2.2.2.2.2.2.1.2 hP h 0 (jws_get hG) rfl (by show Int32.ofNat n = _; rfl) hd ?_
  exact kk D aC p e R s m args below meth c Φ hc he H locs cells slots ls ⟨hH, hl, hLn, hLo, ⟨by omega, by omega⟩, hSo.2⟩
theorem J_alen1 {n h : Nat} {rs : List (Option Nat)} (hd : decode mm.2.1 pc = .ok (.arraylength, 1)) (hG : G[h]? = some (1, n, rs)) (hn : n < 2147483648) (kk : J l z X d mm a (pc + 1) L (jI n :: S) (G, M) Q) : J l z X d mm a pc L (jR h :: S) (G, M) Q := by
  intro D aC p e R s m args below meth c Φ hc he H locs cells slots ls ha
  obtain ⟨hH, hl, hLn, hLo, hSo⟩ := id ha
  obtain ⟨hHs, hP, hS, hcl0, hsl0, hM⟩ := id hH
  refine va_alen (v := Int32.ofInt n) hc.1 hc.2.1 hc.2.2.2.2.2.2.2.2.1.2 hP h 1 (jws_get hG) rfl (by show Int32.ofNat n = _; rfl) hd ?_
  exact kk D aC p e R s m args below meth c Φ hc he H locs cells slots ls ⟨hH, hl, hLn, hLo, ⟨by omega, by omega⟩, hSo.2⟩
theorem J_alen2 {n h : Nat} {rs : List (Option Nat)} (hd : decode mm.2.1 pc = .ok (.arraylength, 1)) (hG : G[h]? = some (2, n, rs)) (hn : n < 2147483648) (kk : J l z X d mm a (pc + 1) L (jI n :: S) (G, M) Q) : J l z X d mm a pc L (jR h :: S) (G, M) Q := by
  intro D aC p e R s m args below meth c Φ hc he H locs cells slots ls ha
  obtain ⟨hH, hl, hLn, hLo, hSo⟩ := id ha
  obtain ⟨hHs, hP, hS, hcl0, hsl0, hM⟩ := id hH
  refine va_alen (v := Int32.ofInt n) hc.1 hc.2.1 hc.2.2.2.2.2.2.2.2.1.2 hP h 2 (jws_get hG) rfl (by show Int32.ofNat n = _; rfl) hd ?_
  exact kk D aC p e R s m args below meth c Φ hc he H locs cells slots ls ⟨hH, hl, hLn, hLo, ⟨by omega, by omega⟩, hSo.2⟩
theorem J_alen3 {n h : Nat} {rs : List (Option Nat)} (hd : decode mm.2.1 pc = .ok (.arraylength, 1)) (hG : G[h]? = some (3, n, rs)) (hn : n < 2147483648) (kk : J l z X d mm a (pc + 1) L (jI n :: S) (G, M) Q) : J l z X d mm a pc L (jR h :: S) (G, M) Q := by
  intro D aC p e R s m args below meth c Φ hc he H locs cells slots ls ha
  obtain ⟨hH, hl, hLn, hLo, hSo⟩ := id ha
  obtain ⟨hHs, hP, hS, hcl0, hsl0, hM⟩ := id hH
  refine va_alen (v := Int32.ofInt n) hc.1 hc.2.1 hc.2.2.2.2.2.2.2.2.1.2 hP h 3 (jws_get hG) rfl (by show Int32.ofNat n = _; rfl) hd ?_
  exact kk D aC p e R s m args below meth c Φ hc he H locs cells slots ls ⟨hH, hl, hLn, hLo, ⟨by omega, by omega⟩, hSo.2⟩
theorem J_alen4 {n h : Nat} {rs : List (Option Nat)} (hd : decode mm.2.1 pc = .ok (.arraylength, 1)) (hG : G[h]? = some (4, n, rs)) (hn : n < 2147483648) (kk : J l z X d mm a (pc + 1) L (jI n :: S) (G, M) Q) : J l z X d mm a pc L (jR h :: S) (G, M) Q := by
  intro D aC p e R s m args below meth c Φ hc he H locs cells slots ls ha
  obtain ⟨hH, hl, hLn, hLo, hSo⟩ := id ha
  obtain ⟨hHs, hP, hS, hcl0, hsl0, hM⟩ := id hH
  refine va_alen (v := Int32.ofInt n) hc.1 hc.2.1 hc.2.2.2.2.2.2.2.2.1.2 hP h 4 (jws_get hG) rfl (by show Int32.ofNat n = _; rfl) hd ?_
  exact kk D aC p e R s m args below meth c Φ hc he H locs cells slots ls ⟨hH, hl, hLn, hLo, ⟨by omega, by omega⟩, hSo.2⟩
theorem J_sld {i : Int} (hd : decode mm.2.1 pc = .ok (.iaload, 1)) (hsc : mm.2.2.2.2 = true) (h0 : 0 ≤ i) (h1 : i < X.2.1) (hx : jIn (X.2.2 i.toNat)) (kk : J l z X d mm a (pc + 1) L (jI (X.2.2 i.toNat) :: S) (G, M) Q) : J l z X d mm a pc L (jI i :: jS :: S) (G, M) Q := by
  intro D aC p e R s m args below meth c Φ hc he H locs cells slots ls ha
  obtain ⟨hH, hl, hLn, hLo, hSo⟩ := id ha
  obtain ⟨hHs, hP, hS, hcl0, hsl0, hM⟩ := id hH
  obtain ⟨g1, g2, g3⟩ := hc.2.2.2.2.2.2.2.2.2.2.2.2 hsc
  have hz := hc.2.2.2.2.2.2.2.2.2.2.2.1
  refine va_sld hc.1 hc.2.1 g1 (Nat.lt_of_lt_of_le g2 hz) (Nat.not_le.mpr g2) hS (j32_in h0 h1 hSo.1) hd ?_
  rw [j32_ix (n := X.2.1) h0 hSo.1]
  exact kk D aC p e R s m args below meth c Φ hc he H locs cells slots ls ⟨hH, hl, hLn, hLo, hx, hSo.2.2⟩
theorem J_slen (hd : decode mm.2.1 pc = .ok (.arraylength, 1)) (hsc : mm.2.2.2.2 = true) (kk : J l z X d mm a (pc + 1) L (jI X.2.1 :: S) (G, M) Q) : J l z X d mm a pc L (jS :: S) (G, M) Q := by
  intro D aC p e R s m args below meth c Φ hc he H locs cells slots ls ha
  obtain ⟨hH, hl, hLn, hLo, hSo⟩ := id ha
  obtain ⟨hHs, hP, hS, hcl0, hsl0, hM⟩ := id hH
  obtain ⟨g1, g2, g3⟩ := hc.2.2.2.2.2.2.2.2.2.2.2.2 hsc
  have hz := hc.2.2.2.2.2.2.2.2.2.2.2.1
  refine va_slen hc.1 hc.2.1 g1 (Nat.lt_of_lt_of_le g2 hz) (Nat.not_le.mpr g2) hS hd ?_
  exact kk D aC p e R s m args below meth c Φ hc he H locs cells slots ls ⟨hH, hl, hLn, hLo, ⟨by omega, by omega⟩, hSo.2⟩
end HEAPR
