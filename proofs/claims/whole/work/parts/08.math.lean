/-! ## Math.max, Math.min; a long comparison with its branch -/
section MATHR
variable {l : Launch} {z : Nat} {X : jX} {d : Nat} {mm : jMt} {a : Nat × Nat} {pc : Nat} {L S : List jV} {μ : jM} {Q : Option jV → jM → Prop}
theorem jIn_max {x y : Int} (hx : jIn x) (hy : jIn y) : jIn (max x y) := by
  have h1 := hx.1; have h2 := hx.2; have h3 := hy.1; have h4 := hy.2
  exact ⟨by omega, by omega⟩
theorem jIn_min {x y : Int} (hx : jIn x) (hy : jIn y) : jIn (min x y) := by
  have h1 := hx.1; have h2 := hx.2; have h3 := hy.1; have h4 := hy.2
  exact ⟨by omega, by omega⟩
theorem J_mmax {index : Nat} {x y : Int} (hd : decode mm.2.1 pc = .ok (.invokestatic index, 3)) (hw : Cond.methodLink mm.1.cls index Lib.Math.max.name ∈ jW) (hst : Cond.static Lib.Math.max.name ∈ jW) (hini : Cond.initialized "java/lang/Math" ∈ jW) (hcode : Cond.code Lib.Math.max.name Lib.Math.max.code 2 (some .int) ∈ jW) (hd1 : 1 ≤ d) (hcat : (S.map jcat).sum ≤ 8)
    (kk : J l z X d mm a (pc + 3) L (jI (max x y) :: S) μ Q) : J l z X d mm a pc L (jI y :: jI x :: S) μ Q := by
  intro D aC p e R s m args below meth c Φ hc he H locs cells slots ls ha
  obtain ⟨hH, hl, hLn, hLo, hSo⟩ := id ha
  obtain ⟨hHs, hP, hS, hcl0, hsl0, hM⟩ := id hH
  obtain ⟨hx, hb, hml, hr, hlk, hown, hnm, hts, hkn, hdf, hdl, hz, -⟩ := id hc
  refine va_mmax hx hb (by rw [hml]; exact hl.1.symm) hown (hts _ hw) (hts _ hst) (hts _ hini) (hts _ hcode) (Nat.le_trans hd1 hdf) (by rw [jcats]; omega) (Nat.le_trans (Nat.le_add_right _ _) hcl0) (Nat.le_trans (Nat.le_add_right _ _) hsl0) hd ?_
  have e9 : (if Int32.ofInt x < Int32.ofInt y then Int32.ofInt y else Int32.ofInt x) = Int32.ofInt (max x y) := by
    have e8 := j32_lt hSo.2.1 hSo.1
    by_cases q : x < y
    · rw [if_pos (e8.mpr q), show max x y = y by omega]
    · rw [if_neg (fun r => q (e8.mp r)), show max x y = x by omega]
  rw [e9]
  exact kk D aC p e R s m args below meth c Φ hc he H locs cells slots ls ⟨hH, hl, hLn, hLo, jIn_max hSo.2.1 hSo.1, hSo.2.2⟩
theorem J_mmin {index : Nat} {x y : Int} (hd : decode mm.2.1 pc = .ok (.invokestatic index, 3)) (hw : Cond.methodLink mm.1.cls index Lib.Math.min.name ∈ jW) (hst : Cond.static Lib.Math.min.name ∈ jW) (hini : Cond.initialized "java/lang/Math" ∈ jW) (hcode : Cond.code Lib.Math.min.name Lib.Math.min.code 2 (some .int) ∈ jW) (hd1 : 1 ≤ d) (hcat : (S.map jcat).sum ≤ 8)
    (kk : J l z X d mm a (pc + 3) L (jI (min x y) :: S) μ Q) : J l z X d mm a pc L (jI y :: jI x :: S) μ Q := by
  intro D aC p e R s m args below meth c Φ hc he H locs cells slots ls ha
  obtain ⟨hH, hl, hLn, hLo, hSo⟩ := id ha
  obtain ⟨hHs, hP, hS, hcl0, hsl0, hM⟩ := id hH
  obtain ⟨hx, hb, hml, hr, hlk, hown, hnm, hts, hkn, hdf, hdl, hz, -⟩ := id hc
  refine va_mmin hx hb (by rw [hml]; exact hl.1.symm) hown (hts _ hw) (hts _ hst) (hts _ hini) (hts _ hcode) (Nat.le_trans hd1 hdf) (by rw [jcats]; omega) (Nat.le_trans (Nat.le_add_right _ _) hcl0) (Nat.le_trans (Nat.le_add_right _ _) hsl0) hd ?_
  have e9 : (if Int32.ofInt y < Int32.ofInt x then Int32.ofInt y else Int32.ofInt x) = Int32.ofInt (min x y) := by
    have e7 := j32_lt hSo.1 hSo.2.1
    by_cases q : y < x
    · rw [if_pos (e7.mpr q), show min x y = y by omega]
    · rw [if_neg (fun r => q (e7.mp r)), show min x y = x by omega]
  rw [e9]
  exact kk D aC p e R s m args below meth c Φ hc he H locs cells slots ls ⟨hH, hl, hLn, hLo, jIn_min hSo.2.1 hSo.1, hSo.2.2⟩
theorem J_mmaxL {index : Nat} {x y : Int} (hd : decode mm.2.1 pc = .ok (.invokestatic index, 3)) (hw : Cond.methodLink mm.1.cls index Lib.MathLoose.max_long.x ∈ jW) (hst : Cond.static Lib.MathLoose.max_long.x ∈ jW) (hini : Cond.initialized "java/lang/Math" ∈ jW) (hcode : Cond.code Lib.MathLoose.max_long.x Lib.MathLoose.max_long.code 4 (some .long) ∈ jW) (hd1 : 1 ≤ d) (hcat : (S.map jcat).sum ≤ 8)
    (kk : J l z X d mm a (pc + 3) L (jL (max x y) :: S) μ Q) : J l z X d mm a pc L (jL y :: jL x :: S) μ Q := by
  intro D aC p e R s m args below meth c Φ hc he H locs cells slots ls ha
  obtain ⟨hH, hl, hLn, hLo, hSo⟩ := id ha
  obtain ⟨hHs, hP, hS, hcl0, hsl0, hM⟩ := id hH
  obtain ⟨hx, hb, hml, hr, hlk, hown, hnm, hts, hkn, hdf, hdl, hz, -⟩ := id hc
  refine va_mmax_long hx hb (by rw [hml]; exact hl.1.symm) hown (hts _ hw) (hts _ hst) (hts _ hini) (hts _ hcode) (Nat.le_trans hd1 hdf) (by rw [jcats]; omega) (Nat.le_trans (Nat.le_add_right _ _) hcl0) (Nat.le_trans (Nat.le_add_right _ _) hsl0) hd ?_
  have e9 : (if Int64.ofInt y < Int64.ofInt x then Int64.ofInt x else Int64.ofInt y) = Int64.ofInt (max x y) := by
    have e8 : Int64.ofInt y < Int64.ofInt x ↔ y < x := by rw [Int64.lt_iff_toInt_lt, j64 hSo.1, j64 hSo.2.1]
    by_cases q : y < x
    · rw [if_pos (e8.mpr q), show max x y = x by omega]
    · rw [if_neg (fun r => q (e8.mp r)), show max x y = y by omega]
  rw [e9]
  have h1 := hSo.1.1; have h2 := hSo.1.2; have h3 := hSo.2.1.1; have h4 := hSo.2.1.2
  exact kk D aC p e R s m args below meth c Φ hc he H locs cells slots ls ⟨hH, hl, hLn, hLo, ⟨by omega, by omega⟩, hSo.2.2⟩
theorem J_lif_eq {x y off : Int} {tgt : Nat} (hd : decode mm.2.1 pc = .ok (.lcmp, 1)) (hd2 : decode mm.2.1 (pc + 1) = .ok (.ifCond .eq off, 3)) (ht : ((pc + 1 : Nat) : Int) + off = (tgt : Int)) (kt : x = y → J l z X d mm a tgt L S μ Q) (kf : x ≠ y → J l z X d mm a (pc + 1 + 3) L S μ Q) : J l z X d mm a pc L (jL y :: jL x :: S) μ Q := by
  refine J_lcmp hd (J_if_eq hd2 ht (fun h => kt ?_) (fun h => kf ?_))
  all_goals (split at h <;> first | omega | (split at h <;> omega))
theorem J_lif_ne {x y off : Int} {tgt : Nat} (hd : decode mm.2.1 pc = .ok (.lcmp, 1)) (hd2 : decode mm.2.1 (pc + 1) = .ok (.ifCond .ne off, 3)) (ht : ((pc + 1 : Nat) : Int) + off = (tgt : Int)) (kt : x ≠ y → J l z X d mm a tgt L S μ Q) (kf : x = y → J l z X d mm a (pc + 1 + 3) L S μ Q) : J l z X d mm a pc L (jL y :: jL x :: S) μ Q := by
  refine J_lcmp hd (J_if_ne hd2 ht (fun h => kt ?_) (fun h => kf ?_))
  all_goals (split at h <;> first | omega | (split at h <;> omega))
theorem J_lif_lt {x y off : Int} {tgt : Nat} (hd : decode mm.2.1 pc = .ok (.lcmp, 1)) (hd2 : decode mm.2.1 (pc + 1) = .ok (.ifCond .lt off, 3)) (ht : ((pc + 1 : Nat) : Int) + off = (tgt : Int)) (kt : x < y → J l z X d mm a tgt L S μ Q) (kf : y ≤ x → J l z X d mm a (pc + 1 + 3) L S μ Q) : J l z X d mm a pc L (jL y :: jL x :: S) μ Q := by
  refine J_lcmp hd (J_if_lt hd2 ht (fun h => kt ?_) (fun h => kf ?_))
  all_goals (split at h <;> first | omega | (split at h <;> omega))
theorem J_lif_ge {x y off : Int} {tgt : Nat} (hd : decode mm.2.1 pc = .ok (.lcmp, 1)) (hd2 : decode mm.2.1 (pc + 1) = .ok (.ifCond .ge off, 3)) (ht : ((pc + 1 : Nat) : Int) + off = (tgt : Int)) (kt : y ≤ x → J l z X d mm a tgt L S μ Q) (kf : x < y → J l z X d mm a (pc + 1 + 3) L S μ Q) : J l z X d mm a pc L (jL y :: jL x :: S) μ Q := by
  refine J_lcmp hd (J_if_ge hd2 ht (fun h => kt ?_) (fun h => kf ?_))
  all_goals (split at h <;> first | omega | (split at h <;> omega))
theorem J_lif_gt {x y off : Int} {tgt : Nat} (hd : decode mm.2.1 pc = .ok (.lcmp, 1)) (hd2 : decode mm.2.1 (pc + 1) = .ok (.ifCond .gt off, 3)) (ht : ((pc + 1 : Nat) : Int) + off = (tgt : Int)) (kt : y < x → J l z X d mm a tgt L S μ Q) (kf : x ≤ y → J l z X d mm a (pc + 1 + 3) L S μ Q) : J l z X d mm a pc L (jL y :: jL x :: S) μ Q := by
  refine J_lcmp hd (J_if_gt hd2 ht (fun h => kt ?_) (fun h => kf ?_))
  all_goals (split at h <;> first | omega | (split at h <;> omega))
theorem J_lif_le {x y off : Int} {tgt : Nat} (hd : decode mm.2.1 pc = .ok (.lcmp, 1)) (hd2 : decode mm.2.1 (pc + 1) = .ok (.ifCond .le off, 3)) (ht : ((pc + 1 : Nat) : Int) + off = (tgt : Int)) (kt : x ≤ y → J l z X d mm a tgt L S μ Q) (kf : y < x → J l z X d mm a (pc + 1 + 3) L S μ Q) : J l z X d mm a pc L (jL y :: jL x :: S) μ Q := by
  refine J_lcmp hd (J_if_le hd2 ht (fun h => kt ?_) (fun h => kf ?_))
  all_goals (split at h <;> first | omega | (split at h <;> omega))
end MATHR
