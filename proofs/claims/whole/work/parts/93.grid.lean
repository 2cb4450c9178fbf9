/-! ## rows of rows -/
section GRID
variable {l : Launch} {z : Nat} {X : jX} {d : Nat} {mm : jMt} {a : Nat × Nat} {pc : Nat} {L S : List jV} {G : List jKd} {M : Nat → Int → Int} {Q : Option jV → jM → Prop}
theorem outer_arr (c : ClassId) (N h0 : Nat) : Jvm.Free.Multi.outerC c N h0 N = arrV c N (fun j => va_rf (if j < N then some (h0 + 1 + j) else none)) := by
  have h : ∀ i : Nat, Jvm.Free.Multi.outerC c N h0 i = arrV c N (fun j => va_rf (if j < i then some (h0 + 1 + j) else none)) := by
    intro i
    induction i with
    | zero =>
      refine (arrV_new c N .null).trans (congrArg (arrV c N) (funext fun j => ?_))
      rw [if_neg (Nat.not_lt_zero j)]
      rfl
    | succ i ih =>
      have e : Jvm.Free.Multi.outerC c N h0 (i + 1) = (Jvm.Free.Multi.outerC c N h0 i).setSlot i (.ref (h0 + 1 + i)) := rfl
      rw [e, ih, arrV_store]
      refine congrArg (arrV c N) (funext fun j => ?_)
      unfold updV
      by_cases g : j = i
      · rw [if_pos g, if_pos (by omega), g]
        rfl
      · rw [if_neg g]
        dsimp only
        by_cases g2 : j < i
        · rw [if_pos g2, if_pos (by omega)]
        · rw [if_neg g2, if_neg (by omega)]
  exact h N
theorem J_mna {n k : Int} {N K index : Nat} (hd : decode mm.2.1 pc = .ok (.multianewarray index 2, 4)) (hw : Cond.classLink mm.1.cls index "[[I" ∈ jW) (hov : Cond.arrayOver (.array .int) ∈ jNW) (har : Cond.arrayClass .int ∈ jW) (hN : n = (N : Int)) (hK : k = (K : Int)) (hb1 : N * 4 ≤ 536870912) (hb2 : K * 4 ≤ 536870912) (kk : J l z X d mm a (pc + 4) L (jR G.length :: S) (G ++ ((3, N, (List.range N).map (fun i => some (G.length + 1 + i))) :: List.replicate N (0, K, [])), M) Q) : J l z X d mm (a.1 + (1 + N), a.2 + (N + N * K)) pc L (jI k :: jI n :: S) (G, M) Q := by
  intro D aC p e R s m args below meth c Φ hc he H locs cells slots ls ha
  obtain ⟨hH, hl, hLn, hLo, hSo⟩ := id ha
  obtain ⟨hHs, hP, hS, hcl0, hsl0, hM⟩ := id hH
  obtain ⟨hx, hbb, hml, hr, hlk, hown, hnm, hts, hkn, hdfr, hdl, hz, -⟩ := id hc
  have g4 : cells + (a.1 + (1 + N)) ≤ R.cells := hcl0
  have g5 : slots + (a.2 + (N + N * K)) ≤ R.slots := hsl0
  have hni : (Int32.ofInt n).toNatClampNeg = N := by rw [j32_ix (n := N) (by omega) hSo.2.1, hN]; simp
  have hki : (Int32.ofInt k).toNatClampNeg = K := by rw [j32_ix (n := K) (by omega) hSo.1, hK]; simp
  have h00 : (0 : Int32).toInt = 0 := by decide
  have hn0 : ¬ Int32.ofInt n < 0 := by rw [Int32.lt_iff_toInt_lt, j32 hSo.2.1, h00]; omega
  have hk0 : ¬ Int32.ofInt k < 0 := by rw [Int32.lt_iff_toInt_lt, j32 hSo.1, h00]; omega
  intro T hT Xs
  obtain ⟨vm₁, cA, comp, -, fA, fC, -, -, X', step⟩ := Xs.multianewarray2F hx (ty := .int) hown (hts _ hw) (show (Cond.arrayOver (.array .int)).before args s = true from hkn.1 _ hov) (hts _ har) (g := F0 m pc ls (.int (Int32.ofInt k) :: .int (Int32.ofInt n) :: S.map (jval z X))) rfl (by rw [hbb]; exact hd) rfl hn0 hk0 (by rw [hni]; exact hb1) (by rw [hki]; exact hb2) (by rw [hki]; omega) (by decide +kernel) (by decide +kernel) (by rw [hni]; omega) (by rw [hni, hki]; omega)
  rw [hni, hki] at X' step
  have hcA : cA = aC 3 := by
    have h8 : s.vm.findClass ("[" ++ (FieldType.array .int).toString) = some (aC 3) := (hkn.2.2 3 _ rfl).2
    exact Option.some.inj (fA.symm.trans h8)
  have hcC : comp = aC 0 := by
    have h8 : s.vm.findClass ("[" ++ (.int : FieldType).toString) = some (aC 0) := (hkn.2.2 0 _ rfl).2
    exact Option.some.inj (fC.symm.trans h8)
  subst hcA
  subst hcC
  have hTh : (T.setVm vm₁).heap = H := hT
  obtain ⟨f1, f2, -, -⟩ := Jvm.Free.Multi.fill_facts (T.setVm vm₁) (aC 3) (aC 0) N K (defaultValue .int) N
  have hold : ∀ x : Nat, x < H.size → (Jvm.Free.Multi.fill (T.setVm vm₁) (aC 3) (aC 0) N K (defaultValue .int) N).heap[x]? = H[x]? := fun x hx => by
    have := Jvm.Free.Multi.fill_old (T.setVm vm₁) (aC 3) (aC 0) N K (defaultValue .int) (a := x) (by rw [hTh]; exact hx) N
    rw [hTh] at this
    exact this
  have hrow : ∀ j : Nat, j < N → (Jvm.Free.Multi.fill (T.setVm vm₁) (aC 3) (aC 0) N K (defaultValue .int) N).heap[H.size + 1 + j]? = some (Jvm.Free.Multi.innerC (aC 0) K (defaultValue .int)) := fun j hj => by
    have := Jvm.Free.Multi.fill_inner (T.setVm vm₁) (aC 3) (aC 0) N K (defaultValue .int) N j hj
    rw [hTh] at this
    exact this
  rw [hTh] at f1 f2
  generalize Jvm.Free.Multi.fill (T.setVm vm₁) (aC 3) (aC 0) N K (defaultValue .int) N = F at X' step f1 f2 hold hrow
  rw [outer_arr] at f2
  have hks : ((3, N, (List.range N).map (fun i => some (G.length + 1 + i))) :: List.replicate N ((0, K, []) : jKd)).length = 1 + N := by simp; omega
  have hHs' : H.size = z + G.length := hHs
  have hH1 := jHp_new (a := a) (n := N + N * K) (ks := (3, N, (List.range N).map (fun i => some (G.length + 1 + i))) :: List.replicate N ((0, K, []) : jKd)) (by rw [hks]; exact hH) (H1 := F.heap) (fun i kd hi => by
    cases i with
    | zero =>
      cases hi
      show F.heap[z + (G.length + 0)]? = some (vp_cell (aC 3) (N, .inr (.inr (.inr (.inr (jrf z ((List.range N).map (fun i => some (G.length + 1 + i)))))))))
      rw [Nat.add_zero, ← hHs', f2, vp_cell_q]
      refine congrArg some (congrArg (arrV (aC 3) N) (funext fun j => congrArg va_rf ?_))
      unfold jrf
      rw [List.getD_eq_getElem?_getD]
      by_cases hj : j < N
      · simp [hj]
        omega
      · simp [hj]
    | succ i =>
      have hi2 : (List.replicate N ((0, K, []) : jKd))[i]? = some kd := hi
      have hlt : i < N := by
        have := (List.getElem?_eq_some_iff.mp hi2).1
        simpa using this
      have hkd : kd = (0, K, []) := by
        rw [List.getElem?_replicate, if_pos hlt] at hi2
        exact (Option.some.inj hi2).symm
      subst hkd
      show F.heap[z + (G.length + (i + 1))]? = some (vp_cell (aC 0) (K, .inl (fun j => Int32.ofInt (M (G.length + (i + 1)) j))))
      have hr1 := hrow i hlt
      rw [show H.size + 1 + i = z + (G.length + (i + 1)) by omega] at hr1
      rw [hr1, vp_cell_i]
      refine congrArg some ?_
      refine (arrV_new (aC 0) K (.int 0)).trans (congrArg (arrV (aC 0) K) (funext fun j => ?_))
      have e9 : M (G.length + (i + 1)) (j : Int) = 0 := (hM (G.length + (i + 1)) j).2.2 (Nat.le_add_right _ _)
      rw [e9]
      rfl) (by rw [hks, f1]; omega) hold
  have e1 : cells + ((3, N, (List.range N).map (fun i => some (G.length + 1 + i))) :: List.replicate N ((0, K, []) : jKd)).length = cells + 1 + N := by rw [hks]; omega
  have e2 : slots + (N + N * K) = slots + N + N * K := by omega
  rw [e1, e2] at hH1
  obtain ⟨t, st, hq⟩ := kk D aC p e R s m args below meth c Φ hc he F.heap locs (cells + 1 + N) (slots + N + N * K) ls ⟨hH1, hl, hLn, hLo, trivial, hSo.2.2⟩ F rfl X'
  refine ⟨t, step t ?_, hq⟩
  have eT : T.heap.size = z + G.length := by rw [hT]; exact hHs
  rw [eT]
  exact st
theorem K_mna {G0 Kc K' : List jKd} {b h : Nat} {n k : Int} {N K index : Nat} {A : Nat × Nat} (a : Nat × Nat) (hA : A = (a.1 + (1 + N), a.2 + (N + N * K))) (hb : G0.length = b) (hK' : Kc ++ ((3, N, (List.range N).map (fun i => some (h + 1 + i))) :: List.replicate N (0, K, [])) = K') (hh : b + Kc.length = h) (hd : decode mm.2.1 pc = .ok (.multianewarray index 2, 4)) (hw : Cond.classLink mm.1.cls index "[[I" ∈ jW) (hov : Cond.arrayOver (.array .int) ∈ jNW) (har : Cond.arrayClass .int ∈ jW) (hN : n = (N : Int)) (hK : k = (K : Int)) (hb1 : N * 4 ≤ 536870912) (hb2 : K * 4 ≤ 536870912) (kk : J l z X d mm a (pc + 4) L (jR h :: S) (G0 ++ K', M) Q) : J l z X d mm A pc L (jI k :: jI n :: S) (G0 ++ Kc, M) Q := by
  subst hA
  refine J_mna hd hw hov har hN hK hb1 hb2 ?_
  rw [K_len hb hh, List.append_assoc, hK']
  exact kk
end GRID
theorem jK_arr {A : Array Value} {s : State} {ty : FieldType} (h : (Cond.arrayClass ty).before A s = true) (hty : ∀ C, ty ≠ .object C := by intro C h; cases h) : ∃ c : ClassId, ArrOfT s c ty ∧ va_RA s c ty := by
  obtain ⟨c, k, comp, h1, h2, h3⟩ := Cond.arrayClass_spec h
  refine ⟨c, fun n z => ⟨fun _ q => (by cases q), k, h2, comp, h3⟩, ?_⟩
  cases ty with
  | object C => exact absurd rfl (hty C)
  | _ => exact h1
theorem jK_arr3 {s : State} (h : va_Nw (.arrayOver (.array .int)) s) : ∃ c : ClassId, ArrOfT s c (.array .int) ∧ va_RA s c (.array .int) := by
  obtain ⟨comp, c, k, h1, h3, h4, h5⟩ := Cond.arrayOver_specA h
  exact ⟨c, fun n z => ⟨fun _ q => (by cases q), k, h3, comp, h4⟩, h5⟩
theorem jK_arr4 {s : State} (h : va_Nw (.arrayOver (.object RX2)) s) : ∃ c : ClassId, ArrOfT s c (.object RX2) ∧ va_RA s c (.object RX2) := by
  obtain ⟨comp, c, k, h1, h2, h3, h4, h5⟩ := Cond.arrayOver_spec h
  exact ⟨c, fun n z => ⟨fun _ q => (by cases q), k, h3, comp, h4⟩, k, comp, h3, h4, h1, h5⟩
