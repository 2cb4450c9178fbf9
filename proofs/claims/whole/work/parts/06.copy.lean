/-! ## System.arraycopy of ints from place 0 to place 0 -/
def jcpy (M : Nat → Int → Int) (h0 h1 : Nat) (n : Int) : Nat → Int → Int := fun h i => if h = h1 ∧ 0 ≤ i ∧ i < n then M h0 i else M h i
theorem jcpy_ne (M : Nat → Int → Int) {h0 h1 h : Nat} (n : Int) (e : h ≠ h1) : jcpy M h0 h1 n h = M h := funext fun _ => by simp [jcpy, e]
theorem jcpy_at (M : Nat → Int → Int) (h0 h1 : Nat) {n i : Int} (e : 0 ≤ i ∧ i < n) : jcpy M h0 h1 n h1 i = M h0 i := by simp [jcpy, e]
theorem J_acopy {l : Launch} {z : Nat} {X : jX} {d : Nat} {mm : jMt} {a : Nat × Nat} {pc : Nat} {L S : List jV} {G : List jKd} {M : Nat → Int → Int} {Q : Option jV → jM → Prop} {index n0 n1 h0 h1 : Nat} {n : Int} {rs0 rs1 : List (Option Nat)} (hd : decode mm.2.1 pc = .ok (.invokestatic index, 3)) (hw : Cond.methodLink mm.1.cls index arraycopyName ∈ jW) (hnat : Cond.native arraycopyName ∈ jW) (hstat : Cond.static arraycopyName ∈ jW) (hini : Cond.initialized "java/lang/System" ∈ jW)
    (hG0 : G[h0]? = some (0, n0, rs0)) (hG1 : G[h1]? = some (0, n1, rs1)) (hn : 0 ≤ n) (hn0 : n ≤ n0) (hn1 : n ≤ n1) (hcat : (S.map jcat).sum ≤ 8) (hd1 : 1 ≤ d)
    (kk : J l z X d mm a (pc + 3) L S (G, jcpy M h0 h1 n) Q) : J l z X d mm a pc L (jI n :: jI 0 :: jR h1 :: jI 0 :: jR h0 :: S) (G, M) Q := by
  intro D aC p e R s m args below meth c Φ hc he H locs cells slots ls ha
  obtain ⟨hH, hl, hLn, hLo, hSo⟩ := id ha
  obtain ⟨hHs, hP, hS, hcl0, hsl0, hM⟩ := id hH
  obtain ⟨hx, hb, hml, hr, hlk, hown, hnm, hts, hkn, hdf, hdl, hz, -⟩ := id hc
  intro T hT X0
  have hni : (Int32.ofInt n).toNatClampNeg = n.toNat := j32_ix (n := n0) hn hSo.1
  have h00 : (Int32.ofInt 0).toNatClampNeg = 0 := j32_ix (n := n0) (Int.le_refl 0) jIn0
  have h0i : (Int32.ofInt 0).toInt = 0 := j32 jIn0
  have hnn : (Int32.ofInt n).toInt = n := j32 hSo.1
  have hc0 : H[z + h0]? = some (vp_cell (aC 0) (n0, .inl (fun j => Int32.ofInt (M h0 j)))) := hP h0 _ (jws_get hG0)
  have hc1 : H[z + h1]? = some (vp_cell (aC 0) (n1, .inl (fun j => Int32.ofInt (M h1 j)))) := hP h1 _ (jws_get hG1)
  obtain ⟨-, k0, hk0, cm0, hkk0⟩ := (hkn.2.2 0 _ rfl).1 n0 (fun j => .int (Int32.ofInt (M h0 j)))
  obtain ⟨-, k1, hk1, cm1, hkk1⟩ := (hkn.2.2 0 _ rfl).1 n1 (fun j => .int (Int32.ofInt (M h1 j)))
  obtain ⟨vm', X', step⟩ := X0.arraycopy hx hown (hts _ hw) (hts _ hnat) (hts _ hstat) (hts _ hini) (src := z + h0) (dst := z + h1) (cs := vp_cell (aC 0) (n0, .inl (fun j => Int32.ofInt (M h0 j)))) (cd := vp_cell (aC 0) (n1, .inl (fun j => Int32.ofInt (M h1 j)))) (srcPos := Int32.ofInt 0) (destPos := Int32.ofInt 0) (n := Int32.ofInt n) (by rw [hT]; exact hc0) (by rw [hT]; exact hc1)
    (fun _ h => by cases h) (fun _ h => by cases h) (fun h => by cases h) (fun h => by cases h) hk0 hk1 hkk0 hkk1 rfl (by rw [Int32.lt_iff_toInt_lt, h0i]; decide) (by rw [Int32.lt_iff_toInt_lt, h0i]; decide) (by rw [Int32.lt_iff_toInt_lt, hnn]; simpa using hn)
    (by rw [h0i, hnn]; show ¬ _ > ((arrV (aC 0) n0 (fun j => .int (Int32.ofInt (M h0 j)))).slots.size : Int); rw [arrV_size]; omega)
    (by rw [h0i, hnn]; show ¬ _ > ((arrV (aC 0) n1 (fun j => .int (Int32.ofInt (M h1 j)))).slots.size : Int); rw [arrV_size]; omega)
    (fun vm₁ _ i hi => by
      have e9 : (vp_cell (aC 0) (n0, .inl (fun j => Int32.ofInt (M h0 j)))).slots.getD ((Int32.ofInt 0).toNatClampNeg + i) .null = .int (Int32.ofInt (M h0 (((Int32.ofInt 0).toNatClampNeg + i : Nat) : Int))) := by
        show (arrV (aC 0) n0 (fun j => .int (Int32.ofInt (M h0 j)))).slots.getD _ _ = _
        rw [Array.getD_eq_getD_getElem?, arrV_read _ _ (by rw [h00]; rw [hni] at hi; omega)]
        rfl
      exact ⟨by rw [e9]; rfl, by rw [e9]; exact trivial⟩)
    (g := F0 m pc ls ((jI n :: jI 0 :: jR h1 :: jI 0 :: jR h0 :: S).map (jval z X))) rfl (by rw [hml]; exact hl.1) (rest := S.map (jval z X)) rfl (by rw [hb]; exact hd) (Nat.le_trans hd1 hdf) (by
      show 2 * 0 + _ + _ ≤ _
      rw [jcats]
      have : nativeFrameWords "java/lang/System" "arraycopy" 5 + 11 ≤ 40 := by decide +kernel
      omega)
  have e1 := va_copied (n := (Int32.ofInt n).toNatClampNeg) (dp := (Int32.ofInt 0).toNatClampNeg) (sp := (Int32.ofInt 0).toNatClampNeg) (n1 := n1) (fun z => Value.int z) (aC 0) (aC 0) (fun j => Int32.ofInt (M h0 j)) (fun j => Int32.ofInt (M h1 j)) (n0 := n0) (by rw [h00, hni]; omega)
  have e2 : copied (vp_cell (aC 0) (n0, .inl (fun j => Int32.ofInt (M h0 j)))) (vp_cell (aC 0) (n1, .inl (fun j => Int32.ofInt (M h1 j)))) (Int32.ofInt 0) (Int32.ofInt 0) (Int32.ofInt n) = vp_cell (aC 0) (n1, .inl (fun j => Int32.ofInt (jcpy M h0 h1 n h1 j))) := by
    refine Eq.trans e1 ?_
    rw [vp_cell_i]
    refine congrArg (arrV (aC 0) n1) (funext fun j => ?_)
    unfold va_cpy jcpy
    rw [h00, hni]
    by_cases hj : j < n.toNat
    · rw [if_pos ⟨Nat.zero_le _, by omega⟩, if_pos ⟨rfl, by omega, by omega⟩]
      simp
    · rw [if_neg (by omega), if_neg (by omega)]
  rw [e2] at X' step
  have hlt : z + h1 < H.size := (Array.getElem?_eq_some_iff.mp hc1).1
  generalize hHn : H.setIfInBounds (z + h1) (vp_cell (aC 0) (n1, .inl (fun j => Int32.ofInt (jcpy M h0 h1 n h1 j)))) = H1
  have hheap : ((T.setVm vm').setCell (z + h1) (vp_cell (aC 0) (n1, .inl (fun j => Int32.ofInt (jcpy M h0 h1 n h1 j))))).heap = H1 := by rw [← hHn, ← hT]; rfl
  have oq : ∀ q : Nat, q ≠ z + h1 → H1[q]? = H[q]? := fun q hq => by rw [← hHn]; simp [Array.getElem?_setIfInBounds, Ne.symm hq]
  have oz : H1.size = H.size := by rw [← hHn]; simp
  have hat1 : H1[z + h1]? = some (vp_cell (aC 0) (n1, .inl (fun j => Int32.ofInt (jcpy M h0 h1 n h1 j)))) := by rw [← hHn]; simp [Array.getElem?_setIfInBounds, hlt]
  have hP1 := hP.set jws_D (jws_get hG1) (e := .inl (aC 0, n1, .inl (fun j => Int32.ofInt (jcpy M h0 h1 n h1 j)))) hat1 oq
  rw [jws_set (G' := G) (M' := jcpy M h0 h1 n) rfl (by rw [jget0 hG1]; rfl) (fun j hj => ⟨rfl, jcpy_ne M n hj⟩)] at hP1
  have hM1 : jokM (G, jcpy M h0 h1 n) := by
    intro k' j
    obtain ⟨g1, g2, g3⟩ := hM k' j
    dsimp only at g1 g2 g3 ⊢
    unfold jcpy
    by_cases hh : k' = h1 ∧ 0 ≤ j ∧ j < n
    · rw [if_pos hh]
      obtain ⟨r1, -, -⟩ := hh
      subst r1
      have e3 : jlen G k' = 0 := by unfold jlen; rw [jget0 hG1]
      have e4 : k' < G.length := (List.getElem?_eq_some_iff.mp hG1).1
      exact ⟨fun q => by rw [e3] at q; exact absurd q (by decide), fun _ => jokM_int hM (k := h0) hG0 (show ¬ (0 : Nat) = 1 by decide) j, fun q => absurd e4 (Nat.not_lt.mpr q)⟩
    · rw [if_neg hh]
      exact ⟨g1, g2, g3⟩
  obtain ⟨t, b1, b2⟩ := kk D aC p e R s m args below meth c Φ hc he H1 _ cells slots ls ⟨⟨by rw [oz]; exact hHs, hP1, ⟨by rw [oz]; exact hS.1, fun q g1 g2 => by
      rw [oq q (fun r => g2 (by rw [r]; exact Nat.le_add_right _ _))]
      exact hS.2.1 q g1 g2, fun q hq => by
      rcases List.mem_append.mp hq with g | g
      · exact hS.2.2 q g
      · obtain ⟨w, -, hw9⟩ := List.mem_map.mp g
        rw [← hw9]
        exact Nat.le_add_right _ _⟩, hcl0, hsl0, hM1⟩, hl, hLn, hLo, hSo.2.2.2.2.2⟩ _ hheap X'
  exact ⟨t, step t b1, b2⟩
