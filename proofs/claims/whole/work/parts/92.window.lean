/-! ## new cells behind some that stand: the rules, the cells that stand being any -/
theorem K_len {G0 K : List jKd} {b h : Nat} (hb : G0.length = b) (hh : b + K.length = h) : (G0 ++ K).length = h := by rw [List.length_append, hb, hh]
theorem K_get {G0 K : List jKd} {b i h : Nat} {kd : jKd} (hb : G0.length = b) (hh : b + i = h) (hG : K[i]? = some kd) : (G0 ++ K)[h]? = some kd := by
  rw [← hh, ← hb, List.getElem?_append_right (Nat.le_add_right _ _), Nat.add_sub_cancel_left]
  exact hG
theorem K_set {G0 K K' : List jKd} {b i h : Nat} {kd : jKd} (hb : G0.length = b) (hh : b + i = h) (hK : K.set i kd = K') : (G0 ++ K).set h kd = G0 ++ K' := by
  rw [← hh, ← hb, List.set_append_right _ _ (Nat.le_add_right _ _), Nat.add_sub_cancel_left, hK]
section WINDOW
variable {l : Launch} {z : Nat} {X : jX} {d : Nat} {mm : jMt} {a : Nat × Nat} {pc : Nat} {L S : List jV} {G0 K K' : List jKd} {b : Nat} {M : Nat → Int → Int} {Q : Option jV → jM → Prop}
theorem J_eqG {G G' : List jKd} (e : G = G') (k : J l z X d mm a pc L S (G', M) Q) : J l z X d mm a pc L S (G, M) Q := e ▸ k
theorem K_new {ci n index h : Nat} {C : String} {T : u_T} {A : Nat × Nat} (a : Nat × Nat) (hA : A = (a.1 + 1, a.2 + n)) (hb : G0.length = b) (hK : K ++ [(ci + 5, n, List.replicate n none)] = K') (hh : b + K.length = h) (hcl : jCl ci C T n) (hdf : ∀ k, k < n → defaultValue (jfty ci k) = if jisref (jfty ci k) = true then .null else .int 0) (hd : decode mm.2.1 pc = .ok (.new index, 3)) (hw : Cond.classLink mm.1.cls index C ∈ jW) (hins : Cond.instantiable C n ∈ jW) (hini : Cond.initialized C ∈ jW)
    (kk : J l z X d mm a (pc + 3) L (jR h :: S) (G0 ++ K', M) Q) : J l z X d mm A pc L S (G0 ++ K, M) Q := by
  subst hA
  refine J_new hcl hdf hd hw hins hini ?_
  rw [K_len hb hh, List.append_assoc, hK]
  exact kk
theorem K_newaI {n : Int} {N h : Nat} {A : Nat × Nat} (a : Nat × Nat) (hA : A = (a.1 + 1, a.2 + N)) (hb : G0.length = b) (hK : K ++ [(0, N, [])] = K') (hh : b + K.length = h) (hd : decode mm.2.1 pc = .ok (.newarray .int, 2)) (hw : Cond.arrayClass .int ∈ jW) (hN : n = (N : Int)) (hbd : N * 8 ≤ 536870912) (kk : J l z X d mm a (pc + 2) L (jR h :: S) (G0 ++ K', M) Q) : J l z X d mm A pc L (jI n :: S) (G0 ++ K, M) Q := by
  subst hA
  refine J_newaI hd hw hN hbd ?_
  rw [K_len hb hh, List.append_assoc, hK]
  exact kk
theorem K_newaL {n : Int} {N h : Nat} {A : Nat × Nat} (a : Nat × Nat) (hA : A = (a.1 + 1, a.2 + N)) (hb : G0.length = b) (hK : K ++ [(1, N, [])] = K') (hh : b + K.length = h) (hd : decode mm.2.1 pc = .ok (.newarray .long, 2)) (hw : Cond.arrayClass .long ∈ jW) (hN : n = (N : Int)) (hbd : N * 8 ≤ 536870912) (kk : J l z X d mm a (pc + 2) L (jR h :: S) (G0 ++ K', M) Q) : J l z X d mm A pc L (jI n :: S) (G0 ++ K, M) Q := by
  subst hA
  refine J_newaL hd hw hN hbd ?_
  rw [K_len hb hh, List.append_assoc, hK]
  exact kk
theorem K_newaZ {n : Int} {N h : Nat} {A : Nat × Nat} (a : Nat × Nat) (hA : A = (a.1 + 1, a.2 + N)) (hb : G0.length = b) (hK : K ++ [(2, N, [])] = K') (hh : b + K.length = h) (hd : decode mm.2.1 pc = .ok (.newarray .boolean, 2)) (hw : Cond.arrayClass .boolean ∈ jW) (hN : n = (N : Int)) (hbd : N * 8 ≤ 536870912) (kk : J l z X d mm a (pc + 2) L (jR h :: S) (G0 ++ K', M) Q) : J l z X d mm A pc L (jI n :: S) (G0 ++ K, M) Q := by
  subst hA
  refine J_newaZ hd hw hN hbd ?_
  rw [K_len hb hh, List.append_assoc, hK]
  exact kk
theorem K_anew4 {n : Int} {N index h : Nat} {A : Nat × Nat} (a : Nat × Nat) (hA : A = (a.1 + 1, a.2 + N)) (hb : G0.length = b) (hK : K ++ [(4, N, List.replicate N none)] = K') (hh : b + K.length = h) (hd : decode mm.2.1 pc = .ok (.anewarray index, 3)) (hw : Cond.classLink mm.1.cls index RX2 ∈ jW) (hov : Cond.arrayOver (.object RX2) ∈ jNW) (hN : n = (N : Int)) (hbd : N * 4 ≤ 536870912) (kk : J l z X d mm a (pc + 3) L (jR h :: S) (G0 ++ K', M) Q) : J l z X d mm A pc L (jI n :: S) (G0 ++ K, M) Q := by
  subst hA
  refine J_anew4 hd hw hov hN hbd ?_
  rw [K_len hb hh, List.append_assoc, hK]
  exact kk
theorem K_putF {h' : Nat} {ci n index k h i : Nat} {rs : List (Option Nat)} {C : String} {T : u_T} (hb : G0.length = b) (hh : b + i = h) (hG : K[i]? = some (ci + 5, n, rs)) (hK : K.set i (ci + 5, n, rs.set k (some h')) = K') (hcl : jCl ci C T n) (hd : decode mm.2.1 pc = .ok (.putfield index, 3)) (hw : Cond.fieldLink mm.1.cls index C (T k).2.1 (T k).2.2.1 ∈ jW) (hk : k < n) (hrl : k < rs.length) (hty : jisref (jfty ci k) = true) (hfin : (T k).2.2.2 = true) (hini : mm.1.name = "<init>") (hown : mm.1.cls = C) (kk : J l z X d mm a (pc + 3) L S (G0 ++ K', M) Q) : J l z X d mm a pc L (jR h' :: jR h :: S) (G0 ++ K, M) Q := by
  refine J_putF hcl hd hw (K_get hb hh hG) hk hrl hty hfin hini hown ?_
  rw [K_set hb hh hK]
  exact kk
theorem K_aast4 {n h h' ci nf i0 i1 : Nat} {i : Int} {rs rs' : List (Option Nat)} {T : u_T} (hb : G0.length = b) (hh : b + i0 = h) (hh' : b + i1 = h') (hG : K[i0]? = some (4, n, rs)) (hK : K.set i0 (4, n, rs.set i.toNat (some h')) = K') (hd : decode mm.2.1 pc = .ok (.aastore, 1)) (h0 : 0 ≤ i) (h1 : i < n) (hrl : rs.length = n) (hv : K[i1]? = some (ci + 5, nf, rs')) (hcl : vwCl[ci]? = some (RX2, T, nf)) (kk : J l z X d mm a (pc + 1) L S (G0 ++ K', M) Q) : J l z X d mm a pc L (jR h' :: jI i :: jR h :: S) (G0 ++ K, M) Q := by
  refine J_aast4 hd (K_get hb hh hG) h0 h1 hrl (K_get hb hh' hv) hcl ?_
  rw [K_set hb hh hK]
  exact kk
/-- a call of a constructor on the cell that was made last -/
theorem K_callIN {a1 : Nat × Nat} {mm' : jMt} {index np h : Nat} {host : String} {L0 : List jV} {M2 : Nat → Int → Int} {o : jKd} {K1 K2 : List jKd} {A : Nat × Nat} (a2 : Nat × Nat) (hA : A = (a1.1 + a2.1, a1.2 + a2.2)) (hKo : K = K1 ++ [o]) (hK : K1 ++ K2 = K') (hm : jMd mm' np) (hi : Cond.instanceMethod mm'.1 ∈ jW) (hret : mm'.2.2.2.1 = none) (hini : mm'.1.name = "<init>") (hd : decode mm.2.1 pc = .ok (.invokespecial index, 3)) (hw : Cond.methodLinkNest mm.1.cls index mm'.1 host ∈ jNW)
    (hnp : ([] : List jV).length = np) (hcat : (S.map jcat).sum ≤ 8) (hlen : (jpad (jR h :: [])).length ≤ mm'.2.2.1) (hL0 : L0 = jpad (jR h :: []) ++ List.replicate (mm'.2.2.1 - (jpad (jR h :: [])).length) jN)
    (hc : ∀ Q' : Option jV → jM → Prop, Q' none ((G0 ++ K1) ++ K2, M2) → J l z X d mm' a1 0 L0 [] ((G0 ++ K1) ++ [o], M) Q')
    (kk : J l z X (d + 1) mm a2 (pc + 3) L S (G0 ++ K', M2) Q) : J l z X (d + 1) mm A pc L (jR h :: S) (G0 ++ K, M) Q := by
  subst hA
  subst hKo
  rw [← List.append_assoc]
  refine J_callIN (S := S) [] hm hi hret hini hd hw hnp rfl hcat hlen hL0 (hc _ ?_)
  rw [List.append_assoc, hK]
  exact kk
/-- the same from another class, by name -/
theorem K_callI {a1 : Nat × Nat} {mm' : jMt} {index np h : Nat} {L0 : List jV} {M2 : Nat → Int → Int} {o : jKd} {K1 K2 : List jKd} {A : Nat × Nat} (a2 : Nat × Nat) (hA : A = (a1.1 + a2.1, a1.2 + a2.2)) (hKo : K = K1 ++ [o]) (hK : K1 ++ K2 = K') (hm : jMd mm' np) (hi : Cond.instanceMethod mm'.1 ∈ jW) (hret : mm'.2.2.2.1 = none) (hini : mm'.1.name = "<init>") (hd : decode mm.2.1 pc = .ok (.invokespecial index, 3)) (hw : Cond.methodLink mm.1.cls index mm'.1 ∈ jW)
    (hnp : ([] : List jV).length = np) (hcat : (S.map jcat).sum ≤ 8) (hlen : (jpad (jR h :: [])).length ≤ mm'.2.2.1) (hL0 : L0 = jpad (jR h :: []) ++ List.replicate (mm'.2.2.1 - (jpad (jR h :: [])).length) jN)
    (hc : ∀ Q' : Option jV → jM → Prop, Q' none ((G0 ++ K1) ++ K2, M2) → J l z X d mm' a1 0 L0 [] ((G0 ++ K1) ++ [o], M) Q')
    (kk : J l z X (d + 1) mm a2 (pc + 3) L S (G0 ++ K', M2) Q) : J l z X (d + 1) mm A pc L (jR h :: S) (G0 ++ K, M) Q := by
  subst hA
  subst hKo
  rw [← List.append_assoc]
  refine J_callI (S := S) [] hm hi hret hini hd hw hnp rfl hcat hlen hL0 (hc _ ?_)
  rw [List.append_assoc, hK]
  exact kk
end WINDOW
