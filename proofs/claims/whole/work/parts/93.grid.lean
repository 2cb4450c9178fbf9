/-! ## rows of rows -/
section GRID
variable {l : Launch} {z : Nat} {X : jX} {d : Nat} {mm : jMt} {a : Nat × Nat} {pc : Nat} {L S : List jV} {G : List jKd} {M : Nat → Int → Int} {Q : Option jV → jM → Prop}
theorem J_mna {n k : Int} {N K index : Nat} (hd : decode mm.2.1 pc = .ok (.multianewarray index 2, 4)) (hw : Cond.classLink mm.1.cls index "[[I" ∈ jW) (hov : Cond.arrayOver (.array .int) ∈ jNW) (har : Cond.arrayClass .int ∈ jW) (hN : n = (N : Int)) (hK : k = (K : Int)) (hb1 : N * 4 ≤ 536870912) (hb2 : K * 4 ≤ 536870912) (kk : J l z X d mm a (pc + 4) L (jR G.length :: S) (G ++ ((3, N, (List.range N).map (fun i => some (G.length + 1 + i))) :: List.replicate N (0, K, [])), M) Q) : J l z X d mm (a.1 + (1 + N), a.2 + (N + N * K)) pc L (jI k :: jI n :: S) (G, M) Q := by
  sorry
theorem K_mna {G0 Kc K' : List jKd} {b h : Nat} {n k : Int} {N K index : Nat} {A : Nat × Nat} (a : Nat × Nat) (hA : A = (a.1 + (1 + N), a.2 + (N + N * K))) (hb : G0.length = b) (hK' : Kc ++ ((3, N, (List.range N).map (fun i => some (h + 1 + i))) :: List.replicate N (0, K, [])) = K') (hh : b + Kc.length = h) (hd : decode mm.2.1 pc = .ok (.multianewarray index 2, 4)) (hw : Cond.classLink mm.1.cls index "[[I" ∈ jW) (hov : Cond.arrayOver (.array .int) ∈ jNW) (har : Cond.arrayClass .int ∈ jW) (hN : n = (N : Int)) (hK : k = (K : Int)) (hb1 : N * 4 ≤ 536870912) (hb2 : K * 4 ≤ 536870912) (kk : J l z X d mm a (pc + 4) L (jR h :: S) (G0 ++ K', M) Q) : J l z X d mm A pc L (jI k :: jI n :: S) (G0 ++ Kc, M) Q := by
  subst hA
  refine J_mna hd hw hov har hN hK hb1 hb2 ?_
  rw [K_len hb hh, List.append_assoc, hK']
  exact kk
end GRID
theorem jK_arr {A : Array Value} {s : State} {ty : FieldType} (h : (Cond.arrayClass ty).before A s = true) (hty : ∀ C, ty ≠ .object C := by intro C h; cases h) : ∃ c : ClassId, ArrOfT s c ty ∧ va_RA s c ty := by
  obtain ⟨c, k, comp, h1, h2, h3⟩ := Cond.arrayClass_spec h
  refine ⟨c, fun n z => ⟨fun _ q => (by cases q), k, h2, comp, h3⟩, ?_⟩
  cases ty with
  | object C => exact absurd rfl (hty C)
  | _ => exact h1
theorem jK_arr3 {s : State} (h : va_Nw (.arrayOver (.array .int)) s) : ∃ c : ClassId, ArrOfT s c (.array .int) ∧ va_RA s c (.array .int) := by
  sorry
theorem jK_arr4 {s : State} (h : va_Nw (.arrayOver (.object RX2)) s) : ∃ c : ClassId, ArrOfT s c (.object RX2) ∧ va_RA s c (.object RX2) := by
  obtain ⟨comp, c, k, h1, h2, h3, h4, h5⟩ := Cond.arrayOver_spec h
  exact ⟨c, fun n z => ⟨fun _ q => (by cases q), k, h3, comp, h4⟩, k, comp, h3, h4, h1, h5⟩
