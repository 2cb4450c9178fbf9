/-! ## new cells -/
theorem jget_app1 {G ks : List jKd} {k : Nat} (h : k < G.length) : (G ++ ks).getD k (0, 0, []) = G.getD k (0, 0, []) := by
  rw [List.getD_eq_getElem?_getD, List.getD_eq_getElem?_getD, List.getElem?_append_left h]
theorem jget_app2 {G ks : List jKd} {i : Nat} : (G ++ ks).getD (G.length + i) (0, 0, []) = ks.getD i (0, 0, []) := by
  rw [List.getD_eq_getElem?_getD, List.getD_eq_getElem?_getD, List.getElem?_append_right (Nat.le_add_right _ _), Nat.add_sub_cancel_left]
theorem jws_app {z : Nat} {aC : Nat → ClassId} {G ks : List jKd} {M : Nat → Int → Int} : jws z aC (G ++ ks, M) = jws z aC (G, M) ++ (List.range ks.length).map (fun i => (z + (G.length + i), jent z aC (ks.getD i (0, 0, [])) (M (G.length + i)))) := by
  unfold jws
  simp only [List.length_append, List.range_add, List.map_append, List.map_map]
  congr 1
  · apply List.map_congr_left
    intro k hk
    rw [jget_app1 (List.mem_range.mp hk)]
  · apply List.map_congr_left
    intro k hk
    simp only [Function.comp]
    rw [jget_app2]
theorem jlen_app {G ks : List jKd} {M : Nat → Int → Int} (h : jokM (G, M)) : jokM (G ++ ks, M) := by
  intro k j
  obtain ⟨h1, h2, h3⟩ := h k j
  dsimp only at h1 h2 h3 ⊢
  by_cases hk : k < G.length
  · have e : jlen (G ++ ks) k = jlen G k := by unfold jlen; rw [jget_app1 hk]
    rw [e]
    exact ⟨h1, h2, fun q => absurd hk (by rw [List.length_append] at q; omega)⟩
  · have e := h3 (Nat.not_lt.mp hk)
    rw [e]
    exact ⟨fun _ => by unfold jInL; omega, fun _ => by unfold jIn; omega, fun _ => rfl⟩
theorem jHp_new {z : Nat} {D : va_G} {aC : Nat → ClassId} {R : Room} {s : State} {a : Nat × Nat} {G ks : List jKd} {M : Nat → Int → Int} {H H1 : Heap} {locs : List Loc} {cells slots n : Nat} (h : jHp z D aC R (a.1 + ks.length, a.2 + n) s (G, M) H locs cells slots) (hE : ∀ (i : Nat) (kd : jKd), ks[i]? = some kd → va_at D vwCl (z + (G.length + i), jent z aC kd (M (G.length + i))) H1) (hz : H1.size = H.size + ks.length) (ho : ∀ q : Nat, q < H.size → H1[q]? = H[q]?) : jHp z D aC R a s (G ++ ks, M) H1 locs (cells + ks.length) (slots + n) := by
  obtain ⟨hs, hP, hS, h4, h5, hM⟩ := h
  refine ⟨?_, ?_, ⟨Nat.le_trans hS.1 (by omega), fun q g1 g2 => (ho q (Nat.lt_of_lt_of_le g1 hS.1)).trans (hS.2.1 q g1 g2), hS.2.2⟩, ?_, ?_, jlen_app hM⟩
  · rw [hz, hs]
    simp only [List.length_append]
    omega
  · rw [jws_app]
    refine (hP.kept (fun k q hk => ho q.1 (hP k q hk).lt)).app (fun k q hk => ?_)
    have hk1 := (List.getElem?_eq_some_iff.mp hk).1
    simp only [List.length_map, List.length_range] at hk1
    rw [List.getElem?_map, List.getElem?_range hk1] at hk
    have hk2 : (z + (G.length + k), jent z aC (ks.getD k (0, 0, [])) (M (G.length + k))) = q := Option.some.inj hk
    rw [← hk2]
    obtain ⟨kd, hkd⟩ : ∃ kd, ks[k]? = some kd := ⟨ks[k], List.getElem?_eq_getElem hk1⟩
    have := hE k kd hkd
    rw [List.getD_eq_getElem?_getD, hkd]
    exact this
  · have h4' : cells + (a.1 + ks.length) ≤ R.cells := h4
    omega
  · have h5' : slots + (a.2 + n) ≤ R.slots := h5
    omega
section ALLOC
variable {l : Launch} {z : Nat} {X : jX} {d : Nat} {mm : jMt} {a : Nat × Nat} {pc : Nat} {L S : List jV} {G : List jKd} {M : Nat → Int → Int} {Q : Option jV → jM → Prop}
theorem J_new {ci n index : Nat} {C : String} {T : u_T} (hcl : jCl ci C T n) (hdf : ∀ k, k < n → defaultValue (jfty ci k) = if jisref (jfty ci k) = true then .null else .int 0) (hd : decode mm.2.1 pc = .ok (.new index, 3)) (hw : Cond.classLink mm.1.cls index C ∈ jW) (hins : Cond.instantiable C n ∈ jW) (hini : Cond.initialized C ∈ jW)
    (kk : J l z X d mm a (pc + 3) L (jR G.length :: S) (G ++ [(ci + 5, n, List.replicate n none)], M) Q) : J l z X d mm (a.1 + 1, a.2 + n) pc L S (G, M) Q := by
  intro D aC p e R s m args below meth c Φ hc he H locs cells slots ls ha
  obtain ⟨hH, hl, hLn, hLo, hSo⟩ := id ha
  obtain ⟨hHs, hP, hS, hcl0, hsl0, hM⟩ := id hH
  obtain ⟨hx, hb, hml, hr, hlk, hown, hnm, hts, hkn, hdfr, hdl, hz, -⟩ := id hc
  obtain ⟨c1, c2, c3, c4, c5⟩ := hcl
  have hKn := hkn.2.1 ci _ c1
  have g4 : cells + (a.1 + 1) ≤ R.cells := hcl0
  have g5 : slots + (a.2 + n) ≤ R.slots := hsl0
  refine W.newcK hx hb hown (hts _ hw) (hts _ hins) (hts _ hini) rfl hd (by omega) (by omega) hKn.2.1 (h := z + G.length) hHs fun H1 kC hkC e1 z1 o1 => ?_
  have hE : va_at D vwCl (z + G.length, jent z aC (ci + 5, n, List.replicate n none) (M G.length)) H1 := by
    refine ⟨_, c1, (u_born (jfty ci) hts c2 hKn hkC e1 c3).to (fun k hk => ?_)⟩
    rw [hdf k hk]
    unfold vp_V
    rw [List.getD_eq_getElem?_getD, jfs_get hk]
    unfold jfv
    have e9 : M G.length (k : Int) = 0 := (hM G.length k).2.2 (Nat.le_refl _)
    rw [e9]
    by_cases hj : jisref (jfty ci k) = true
    · rw [if_pos hj, if_pos hj]
      simp [jrf, List.getD_eq_getElem?_getD, hk, va_rf]
    · rw [if_neg hj, if_neg hj]
      rfl
  have hH1 := jHp_new (ks := [(ci + 5, n, List.replicate n none)]) hH (H1 := H1) (fun i kd hi => by
    cases i with
    | zero => cases hi; exact hE
    | succ i => cases hi) (by rw [z1]; show _ = H.size + 1; rw [hHs]) (fun q hq => o1 q (by rw [← hHs]; exact hq))
  exact kk D aC p e R s m args below meth c Φ hc he H1 locs (cells + 1) (slots + n) ls ⟨hH1, hl, hLn, hLo, trivial, hSo⟩
theorem J_objInit {index h : Nat} (hd : decode mm.2.1 pc = .ok (.invokespecial index, 3)) (hw : Cond.methodLink mm.1.cls index Lib.objectInit ∈ jW) (hi : Cond.instanceMethod Lib.objectInit ∈ jW) (hcode : Cond.code Lib.objectInit ⟨#[0xb1]⟩ 1 none ∈ jW) (hd1 : 1 ≤ d) (hcat : (S.map jcat).sum ≤ 8)
    (kk : J l z X d mm a (pc + 3) L S (G, M) Q) : J l z X d mm a pc L (jR h :: S) (G, M) Q := by
  intro D aC p e R s m args below meth c Φ hc he H locs cells slots ls ha
  obtain ⟨hH, hl, hLn, hLo, hSo⟩ := id ha
  obtain ⟨hx, hb, hml, hr, hlk, hown, hnm, hts, hkn, hdfr, hdl, hz, -⟩ := id hc
  refine W.objInit hx hb hown (hts _ hw) (hts _ hi) (hts _ hcode) rfl (by rw [hml]; exact hl.1) rfl hd (Nat.le_trans hd1 hdfr) (by
    show 2 * 0 + (List.map (fun v => v.category) (S.map (jval z X))).sum + 12 ≤ _
    rw [jcats]
    omega) ?_
  exact kk D aC p e R s m args below meth c Φ hc he H locs cells slots ls ⟨hH, hl, hLn, hLo, hSo.2⟩
theorem J_newaI {n : Int} {N : Nat} (hd : decode mm.2.1 pc = .ok (.newarray .int, 2)) (hw : Cond.arrayClass .int ∈ jW) (hN : n = (N : Int)) (hb : N * 8 ≤ 536870912) (kk : J l z X d mm a (pc + 2) L (jR G.length :: S) (G ++ [(0, N, [])], M) Q) : J l z X d mm (a.1 + 1, a.2 + N) pc L (jI n :: S) (G, M) Q := by
  intro D aC p e R s m args below meth c Φ hc he H locs cells slots ls ha
  obtain ⟨hH, hl, hLn, hLo, hSo⟩ := id ha
  obtain ⟨hHs, hP, hS, hcl0, hsl0, hM⟩ := id hH
  obtain ⟨hx, hbb, hml, hr, hlk, hown, hnm, hts, hkn, hdfr, hdl, hz, -⟩ := id hc
  have g4 : cells + (a.1 + 1) ≤ R.cells := hcl0
  have g5 : slots + (a.2 + N) ≤ R.slots := hsl0
  have hni : (Int32.ofInt n).toNatClampNeg = N := by rw [j32_ix (n := N) (by omega) hSo.1, hN]; simp
  refine va_newaK hx hbb (atype := .int) (hts _ hw) rfl hd rfl (by rw [Int32.lt_iff_toInt_lt, j32 hSo.1]; show ¬ n < (0 : Int32).toInt; rw [show (0 : Int32).toInt = 0 by decide]; omega) hni (Nat.le_trans (Nat.mul_le_mul_left N (show componentBytes (newarray.typeOf .int) ≤ 8 by decide +kernel)) hb) (by omega) (by omega) (h := z + G.length) hHs fun H1 cA e1 z1 o1 hAr hNm => ?_
  have hcA : cA = aC 0 := by
    have h9 := (hkn.2.2 0 _ rfl).2
    have h8 : s.vm.findClass ("[" ++ (.int : FieldType).toString) = some (aC 0) := h9
    exact Option.some.inj (hNm.symm.trans h8)
  subst hcA
  have hE : va_at D vwCl (z + G.length, jent z aC (0, N, []) (M G.length)) H1 := by
    show H1[z + G.length]? = some (vp_cell (aC 0) (N, .inl (fun j => Int32.ofInt (M G.length j))))
    rw [e1, vp_cell_i]
    refine congrArg some (congrArg (arrV (aC 0) N) (funext fun j => ?_))
    have e9 : M G.length (j : Int) = 0 := (hM G.length j).2.2 (Nat.le_refl _)
    rw [e9]
    rfl
  have hH1 := jHp_new (ks := [(0, N, [])]) hH (H1 := H1) (fun i kd hi => by
    cases i with
    | zero => cases hi; exact hE
    | succ i => cases hi) (by rw [z1]; show _ = H.size + 1; rw [hHs]) (fun q hq => o1 q (by rw [← hHs]; exact hq))
  exact kk D aC p e R s m args below meth c Φ hc he H1 locs (cells + 1) (slots + N) ls ⟨hH1, hl, hLn, hLo, trivial, hSo.2⟩
theorem J_newaL {n : Int} {N : Nat} (hd : decode mm.2.1 pc = .ok (.newarray .long, 2)) (hw : Cond.arrayClass .long ∈ jW) (hN : n = (N : Int)) (hb : N * 8 ≤ 536870912) (kk : J l z X d mm a (pc + 2) L (jR G.length :: S) (G ++ [(1, N, [])], M) Q) : J l z X d mm (a.1 + 1, a.2 + N) pc L (jI n :: S) (G, M) Q := by
  intro D aC p e R s m args below meth c Φ hc he H locs cells slots ls ha
  obtain ⟨hH, hl, hLn, hLo, hSo⟩ := id ha
  obtain ⟨hHs, hP, hS, hcl0, hsl0, hM⟩ := id hH
  obtain ⟨hx, hbb, hml, hr, hlk, hown, hnm, hts, hkn, hdfr, hdl, hz, -⟩ := id hc
  have g4 : cells + (a.1 + 1) ≤ R.cells := hcl0
  have g5 : slots + (a.2 + N) ≤ R.slots := hsl0
  have hni : (Int32.ofInt n).toNatClampNeg = N := by rw [j32_ix (n := N) (by omega) hSo.1, hN]; simp
  refine va_newaK hx hbb (atype := .long) (hts _ hw) rfl hd rfl (by rw [Int32.lt_iff_toInt_lt, j32 hSo.1]; show ¬ n < (0 : Int32).toInt; rw [show (0 : Int32).toInt = 0 by decide]; omega) hni (Nat.le_trans (Nat.mul_le_mul_left N (show componentBytes (newarray.typeOf .long) ≤ 8 by decide +kernel)) hb) (by omega) (by omega) (h := z + G.length) hHs fun H1 cA e1 z1 o1 hAr hNm => ?_
  have hcA : cA = aC 1 := by
    have h9 := (hkn.2.2 1 _ rfl).2
    have h8 : s.vm.findClass ("[" ++ (.long : FieldType).toString) = some (aC 1) := h9
    exact Option.some.inj (hNm.symm.trans h8)
  subst hcA
  have hE : va_at D vwCl (z + G.length, jent z aC (1, N, []) (M G.length)) H1 := by
    show H1[z + G.length]? = some (vp_cell (aC 1) (N, .inr (.inl (fun j => Int64.ofInt (M G.length j)))))
    rw [e1, vp_cell_l]
    refine congrArg some (congrArg (arrV (aC 1) N) (funext fun j => ?_))
    have e9 : M G.length (j : Int) = 0 := (hM G.length j).2.2 (Nat.le_refl _)
    rw [e9]
    rfl
  have hH1 := jHp_new (ks := [(1, N, [])]) hH (H1 := H1) (fun i kd hi => by
    cases i with
    | zero => cases hi; exact hE
    | succ i => cases hi) (by rw [z1]; show _ = H.size + 1; rw [hHs]) (fun q hq => o1 q (by rw [← hHs]; exact hq))
  exact kk D aC p e R s m args below meth c Φ hc he H1 locs (cells + 1) (slots + N) ls ⟨hH1, hl, hLn, hLo, trivial, hSo.2⟩
theorem J_newaZ {n : Int} {N : Nat} (hd : decode mm.2.1 pc = .ok (.newarray .boolean, 2)) (hw : Cond.arrayClass .boolean ∈ jW) (hN : n = (N : Int)) (hb : N * 8 ≤ 536870912) (kk : J l z X d mm a (pc + 2) L (jR G.length :: S) (G ++ [(2, N, [])], M) Q) : J l z X d mm (a.1 + 1, a.2 + N) pc L (jI n :: S) (G, M) Q := by
  intro D aC p e R s m args below meth c Φ hc he H locs cells slots ls ha
  obtain ⟨hH, hl, hLn, hLo, hSo⟩ := id ha
  obtain ⟨hHs, hP, hS, hcl0, hsl0, hM⟩ := id hH
  obtain ⟨hx, hbb, hml, hr, hlk, hown, hnm, hts, hkn, hdfr, hdl, hz, -⟩ := id hc
  have g4 : cells + (a.1 + 1) ≤ R.cells := hcl0
  have g5 : slots + (a.2 + N) ≤ R.slots := hsl0
  have hni : (Int32.ofInt n).toNatClampNeg = N := by rw [j32_ix (n := N) (by omega) hSo.1, hN]; simp
  refine va_newaK hx hbb (atype := .boolean) (hts _ hw) rfl hd rfl (by rw [Int32.lt_iff_toInt_lt, j32 hSo.1]; show ¬ n < (0 : Int32).toInt; rw [show (0 : Int32).toInt = 0 by decide]; omega) hni (Nat.le_trans (Nat.mul_le_mul_left N (show componentBytes (newarray.typeOf .boolean) ≤ 8 by decide +kernel)) hb) (by omega) (by omega) (h := z + G.length) hHs fun H1 cA e1 z1 o1 hAr hNm => ?_
  have hcA : cA = aC 2 := by
    have h9 := (hkn.2.2 2 _ rfl).2
    have h8 : s.vm.findClass ("[" ++ (.boolean : FieldType).toString) = some (aC 2) := h9
    exact Option.some.inj (hNm.symm.trans h8)
  subst hcA
  have hE : va_at D vwCl (z + G.length, jent z aC (2, N, []) (M G.length)) H1 := by
    show H1[z + G.length]? = some (vp_cell (aC 2) (N, .inl (fun j => Int32.ofInt (M G.length j))))
    rw [e1, vp_cell_i]
    refine congrArg some (congrArg (arrV (aC 2) N) (funext fun j => ?_))
    have e9 : M G.length (j : Int) = 0 := (hM G.length j).2.2 (Nat.le_refl _)
    rw [e9]
    rfl
  have hH1 := jHp_new (ks := [(2, N, [])]) hH (H1 := H1) (fun i kd hi => by
    cases i with
    | zero => cases hi; exact hE
    | succ i => cases hi) (by rw [z1]; show _ = H.size + 1; rw [hHs]) (fun q hq => o1 q (by rw [← hHs]; exact hq))
  exact kk D aC p e R s m args below meth c Φ hc he H1 locs (cells + 1) (slots + N) ls ⟨hH1, hl, hLn, hLo, trivial, hSo.2⟩
theorem J_anew4 {n : Int} {N index : Nat} (hd : decode mm.2.1 pc = .ok (.anewarray index, 3)) (hw : Cond.classLink mm.1.cls index RX2 ∈ jW) (hov : Cond.arrayOver (.object RX2) ∈ jNW) (hN : n = (N : Int)) (hb : N * 4 ≤ 536870912) (kk : J l z X d mm a (pc + 3) L (jR G.length :: S) (G ++ [(4, N, List.replicate N none)], M) Q) : J l z X d mm (a.1 + 1, a.2 + N) pc L (jI n :: S) (G, M) Q := by
  intro D aC p e R s m args below meth c Φ hc he H locs cells slots ls ha
  obtain ⟨hH, hl, hLn, hLo, hSo⟩ := id ha
  obtain ⟨hHs, hP, hS, hcl0, hsl0, hM⟩ := id hH
  obtain ⟨hx, hbb, hml, hr, hlk, hown, hnm, hts, hkn, hdfr, hdl, hz, -⟩ := id hc
  have g4 : cells + (a.1 + 1) ≤ R.cells := hcl0
  have g5 : slots + (a.2 + N) ≤ R.slots := hsl0
  have hni : (Int32.ofInt n).toNatClampNeg = N := by rw [j32_ix (n := N) (by omega) hSo.1, hN]; simp
  refine W.anew hx hbb hown (hts _ hw) (va_AO.use (hkn.1 _ hov)) rfl hd rfl (by rw [Int32.lt_iff_toInt_lt, j32 hSo.1]; show ¬ n < (0 : Int32).toInt; rw [show (0 : Int32).toInt = 0 by decide]; omega) (by rw [hni]; exact hb) (by omega) (by rw [hni]; omega) fun cA kA comp f1 f2 f3 f4 => ?_
  have hcA : cA = aC 4 := by
    obtain ⟨_, _, _, _, _, h8⟩ := (hkn.2.2 4 _ rfl).2
    exact Option.some.inj (f1.symm.trans h8)
  subst hcA
  rw [hni]
  generalize hH1g : H.push ({ cls := aC 4, slots := Array.replicate N .null, vm := .none } : Cell) = H1
  have z1 : H1.size = H.size + 1 := by rw [← hH1g, Array.size_push]
  have e1 : H1[H.size]? = some (arrV (aC 4) N (fun _ => .null)) := by rw [← hH1g, Array.getElem?_push_size, ← arrV_new]
  have o1 : ∀ q : Nat, q < H.size → H1[q]? = H[q]? := fun q hq => by rw [← hH1g, Array.getElem?_push, if_neg (Nat.ne_of_lt hq)]
  rw [hHs] at e1
  have hE : va_at D vwCl (z + G.length, jent z aC (4, N, List.replicate N none) (M G.length)) H1 := by
    show H1[z + G.length]? = some (vp_cell (aC 4) (N, .inr (.inr (.inr (.inr (jrf z (List.replicate N none)))))))
    rw [e1, vp_cell_q]
    refine congrArg some (congrArg (arrV (aC 4) N) (funext fun j => ?_))
    unfold jrf
    rw [List.getD_eq_getElem?_getD]
    by_cases hj : j < N
    · simp [hj, va_rf]
    · simp [hj, va_rf]
  have hH1 := jHp_new (ks := [(4, N, List.replicate N none)]) hH (H1 := H1) (fun i kd hi => by
    cases i with
    | zero => cases hi; exact hE
    | succ i => cases hi) z1 o1
  have k1 := kk D aC p e R s m args below meth c Φ hc he H1 locs (cells + 1) (slots + N) ls ⟨hH1, hl, hLn, hLo, trivial, hSo.2⟩
  rw [hHs]
  exact k1
theorem J_aast4 {n h h' ci nf : Nat} {i : Int} {rs rs' : List (Option Nat)} {T : u_T} (hd : decode mm.2.1 pc = .ok (.aastore, 1)) (hG : G[h]? = some (4, n, rs)) (h0 : 0 ≤ i) (h1 : i < n) (hrl : rs.length = n) (hv : G[h']? = some (ci + 5, nf, rs')) (hcl : vwCl[ci]? = some (RX2, T, nf)) (kk : J l z X d mm a (pc + 1) L S (G.set h (4, n, rs.set i.toNat (some h')), M) Q) : J l z X d mm a pc L (jR h' :: jI i :: jR h :: S) (G, M) Q := by
  intro D aC p e R s m args below meth c Φ hc he H locs cells slots ls ha
  obtain ⟨hH, hl, hLn, hLo, hSo⟩ := id ha
  obtain ⟨hHs, hP, hS, hcl0, hsl0, hM⟩ := id hH
  obtain ⟨hx, hbb, hml, hr, hlk, hown, hnm, hts, hkn, hdfr, hdl, hz, -⟩ := id hc
  have hi : (Int32.ofInt i).toNatClampNeg = i.toNat := j32_ix (n := n) h0 hSo.2.1
  have hin := j32_in h0 h1 hSo.2.1
  have hlt : (Int32.ofInt i).toNatClampNeg < n := Nat.not_le.mp fun q => hin (Or.inr q)
  have hn0 : ¬ Int32.ofInt i < 0 := fun q => hin (Or.inl q)
  obtain ⟨r', hr', cellV, g1, g2, g3, -⟩ := hP h' _ (jws_get hv)
  have hcls := (hkn.2.1 ci _ hcl).2
  obtain ⟨kA, comp, k1, k2, k3, -⟩ := (hkn.2.2 4 _ rfl).2
  have hcomp : comp = D.1 ci := Option.some.inj (k3.symm.trans hcls.1)
  subst hcomp
  obtain ⟨kC, hkC, -⟩ := hcls.2
  refine W.aast hx hbb (hP h _ (jws_get hG)) (fun q h => by cases h) (fun h => by cases h) k1 k2 rfl hkC ⟨hn0, by show _ < (arrV _ _ _).slots.size; rw [arrV_size]; exact hlt⟩ g1 (fun q h => by rw [g3] at h; cases h) (by rw [g2]; exact hkC) (by rw [g2]; exact va_assign hcls) rfl rfl hd fun H1 e1 e2 e3 => ?_
  have hE : va_at D vwCl (z + h, Sum.inl (aC 4, n, .inr (.inr (.inr (.inr (jrf z (rs.set i.toNat (some h')))))))) H1 := by
    show H1[z + h]? = some (vp_cell _ _)
    rw [e1]
    show some (Cell.setSlot (arrV _ _ _) _ _) = _
    rw [vp_cell_q, arrV_store]
    congr 2
    funext q
    rw [hi]
    rw [hi] at hlt
    by_cases hq : q = i.toNat
    · subst hq
      simp [updV, jrf, va_rf, List.getD_eq_getElem?_getD, hrl, hlt]
    · simp [updV, hq, jrf, List.getD_eq_getElem?_getD, List.getElem?_set_ne (Ne.symm hq)]
  have hl0 := (List.getElem?_eq_some_iff.mp hG).1
  have hG1 : (G.set h (4, n, rs.set i.toNat (some h'))).getD h (0, 0, []) = (4, n, rs.set i.toNat (some h')) := jget0 (by rw [List.getElem?_set_self hl0])
  have hG2 : ∀ j, j ≠ h → (G.set h (4, n, rs.set i.toNat (some h'))).getD j (0, 0, []) = G.getD j (0, 0, []) := fun j hj => by rw [List.getD_eq_getElem?_getD, List.getD_eq_getElem?_getD, List.getElem?_set_ne (Ne.symm hj)]
  have hH1 := jHp_put (i := (Int32.ofInt i).toNatClampNeg) (G' := G.set h (4, n, rs.set i.toNat (some h'))) (M' := M) (kd' := (4, n, rs.set i.toNat (some h'))) hH hG hE e2 e3 (List.length_set) hG1 rfl (fun j hj => ⟨hG2 j hj, rfl⟩) (by
    intro k' j
    have h9 : jlen (G.set h (4, n, rs.set i.toNat (some h'))) k' = jlen G k' := by
      unfold jlen
      by_cases hkh : k' = h
      · subst hkh; rw [hG1, jget0 hG]
      · rw [hG2 k' hkh]
    dsimp only
    rw [h9, List.length_set]
    exact hM k' j)
  exact kk D aC p e R s m args below meth c Φ hc he H1 _ cells slots ls ⟨hH1, hl, hLn, hLo, hSo.2.2.2⟩
end ALLOC
