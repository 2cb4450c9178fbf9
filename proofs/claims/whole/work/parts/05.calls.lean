/-! ## calls: a method's J gives its contract; a contract is used at a call -/
def jpad : List jV → List jV
  | [] => []
  | .inr (.inl x) :: t => jL x :: jN :: jpad t
  | v :: t => v :: jpad t
theorem jpad_lg {z : Nat} {X : jX} : ∀ vs : List jV, (lg_sl (vs.map (jval z X))).length = (jpad vs).length
  | [] => rfl
  | .inl x :: t => congrArg (· + 1) (jpad_lg t)
  | .inr (.inl x) :: t => congrArg (· + 2) (jpad_lg t)
  | .inr (.inr none) :: t => congrArg (· + 1) (jpad_lg t)
  | .inr (.inr (some none)) :: t => congrArg (· + 1) (jpad_lg t)
  | .inr (.inr (some (some h))) :: t => congrArg (· + 1) (jpad_lg t)
theorem jlv_rep {z : Nat} {X : jX} {q : Nat × Value} : ∀ (n off : Nat), ¬ q ∈ jlv z X off (List.replicate n jN)
  | 0, off, h => by simp [jlv] at h
  | n + 1, off, h => by
    rw [List.replicate_succ] at h
    rcases jlv_cons.mp h with ⟨h, -⟩ | h
    · exact h rfl
    · exact jlv_rep n _ h
theorem jlv_pad {z : Nat} {X : jX} {q : Nat × Value} {n : Nat} : ∀ (vs : List jV) (off : Nat), q ∈ jlv z X off (jpad vs ++ List.replicate n jN) → q ∈ lv_args off (vs.map (jval z X))
  | [], off, h => absurd h (jlv_rep n off)
  | .inl x :: t, off, h => by
    rcases jlv_cons.mp (show q ∈ jlv z X off (jI x :: (jpad t ++ List.replicate n jN)) from h) with ⟨-, h⟩ | h
    · rw [h]; exact List.mem_cons_self
    · exact List.mem_cons_of_mem _ (jlv_pad t (off + 1) h)
  | .inr (.inl x) :: t, off, h => by
    rcases jlv_cons.mp (show q ∈ jlv z X off (jL x :: (jN :: (jpad t ++ List.replicate n jN))) from h) with ⟨-, h⟩ | h
    · rw [h]; exact List.mem_cons_self
    · rcases jlv_cons.mp h with ⟨h, -⟩ | h
      · exact absurd rfl h
      · exact List.mem_cons_of_mem _ (jlv_pad t (off + 2) h)
  | .inr (.inr none) :: t, off, h => by
    rcases jlv_cons.mp (show q ∈ jlv z X off (jN :: (jpad t ++ List.replicate n jN)) from h) with ⟨h, -⟩ | h
    · exact absurd rfl h
    · exact List.mem_cons_of_mem _ (jlv_pad t (off + 1) h)
  | .inr (.inr (some none)) :: t, off, h => by
    rcases jlv_cons.mp (show q ∈ jlv z X off (jS :: (jpad t ++ List.replicate n jN)) from h) with ⟨-, h⟩ | h
    · rw [h]; exact List.mem_cons_self
    · exact List.mem_cons_of_mem _ (jlv_pad t (off + 1) h)
  | .inr (.inr (some (some h0))) :: t, off, h => by
    rcases jlv_cons.mp (show q ∈ jlv z X off (jR h0 :: (jpad t ++ List.replicate n jN)) from h) with ⟨-, h⟩ | h
    · rw [h]; exact List.mem_cons_self
    · exact List.mem_cons_of_mem _ (jlv_pad t (off + 1) h)
theorem jokL_app : ∀ {A B : List jV}, jokL A → jokL B → jokL (A ++ B)
  | [], _, _, h => h
  | _ :: _, _, h1, h => ⟨h1.1, jokL_app h1.2 h⟩
theorem jokL_app1 : ∀ {A B : List jV}, jokL (A ++ B) → jokL A
  | [], _, _ => trivial
  | _ :: _, _, h1 => ⟨h1.1, jokL_app1 h1.2⟩
theorem jokL_app2 : ∀ {A B : List jV}, jokL (A ++ B) → jokL B
  | [], _, h => h
  | _ :: t, _, h1 => jokL_app2 (A := t) h1.2
theorem jokL_rep : ∀ n : Nat, jokL (List.replicate n jN)
  | 0 => trivial
  | n + 1 => ⟨trivial, jokL_rep n⟩
theorem jokL_pad : ∀ vs : List jV, jokL vs → jokL (jpad vs)
  | [], h => h
  | .inl x :: t, h => ⟨h.1, jokL_pad t h.2⟩
  | .inr (.inl x) :: t, h => ⟨h.1, trivial, jokL_pad t h.2⟩
  | .inr (.inr none) :: t, h => ⟨trivial, jokL_pad t h.2⟩
  | .inr (.inr (some none)) :: t, h => ⟨trivial, jokL_pad t h.2⟩
  | .inr (.inr (some (some h0))) :: t, h => ⟨trivial, jokL_pad t h.2⟩
theorem jokL_rev : ∀ {A : List jV}, jokL A.reverse → jokL A
  | [], _ => trivial
  | v :: t, h => by
    rw [List.reverse_cons] at h
    exact ⟨(jokL_app2 h).1, jokL_rev (jokL_app1 h)⟩
/-- what a method needs of the words -/
def jMd (mm : jMt) (np : Nat) : Prop := mm.2.2.2.2 = false ∧ plainName mm.1.cls = true ∧ Cond.code mm.1 mm.2.1 mm.2.2.1 mm.2.2.2.1 ∈ jW ∧ Cond.initialized mm.1.cls ∈ jW ∧ (mm.1.cls ≠ "java/lang/invoke/MethodHandle" ∧ mm.1.cls ≠ "java/lang/invoke/VarHandle" ∧ (parseMethodDescriptor mm.1.desc).map (fun d => d.parameters.length) = some np) ∧ mm.2.2.1 ≤ 40
abbrev jws0 (mm : jMt) : List Cond := Cond.code mm.1 mm.2.1 mm.2.2.1 mm.2.2.2.1 :: jW
abbrev jrm (d : Nat) (a : Nat × Nat) : Room := { frames := d, cells := a.1, slots := a.2, locals := 64 * d }
def jPc (z : Nat) (X : jX) (D : va_G) (aC : Nat → ClassId) (args : List jV) (μ : jM) : Array Value → State → Prop := fun av U => av = (args.map (jval z X)).toArray ∧ jKn D aC U ∧ U.heap.size = z + μ.1.length ∧ va_P D vwCl (jws z aC μ) U.heap ∧ jokM μ ∧ jokL args
def jQc (z : Nat) (X : jX) (D : va_G) (aC : Nat → ClassId) (Q : Option jV → jM → Prop) : Array Value → State → Outcome → State → Prop := fun _ st o t => ∃ (r : Option jV) (μ : jM), Q r μ ∧ o = .returned (r.map (jval z X)) ∧ t.heap.size = z + μ.1.length ∧ va_P D vwCl (jws z aC μ) t.heap ∧ jokM μ ∧ jokL r.toList ∧ st.heap.size ≤ t.heap.size ∧ ∀ q : Nat, q < st.heap.size → ¬ z ≤ q → t.heap[q]? = st.heap[q]?
theorem jPc_blind {z : Nat} {X : jX} {D : va_G} {aC : Nat → ClassId} {args : List jV} {μ : jM} : FrameBlind (jPc z X D aC args μ) := fun a U g mk h => ⟨h.1, jKn.same (s := U) (U := U.calling g mk a) rfl h.2.1, h.2.2⟩
theorem met_of_J {l : Launch} {z : Nat} {X : jX} {d : Nat} {mm : jMt} {a : Nat × Nat} {args L0 : List jV} {μ : jM} {Q : Option jV → jM → Prop} {np : Nat} (D : va_G) (aC : Nat → ClassId) (hm : jMd mm np) (hlen : (jpad args).length ≤ mm.2.2.1) (hL0 : L0 = jpad args ++ List.replicate (mm.2.2.1 - (jpad args).length) jN) (hJ : J l z X d mm a 0 L0 [] μ Q) :
    Met l mm.1 (jws0 mm) (jrm d a) (jPc z X D aC args μ) (jQc z X D aC Q) a.1 a.2 (fun q => z ≤ q) := by
  obtain ⟨hsc, hpl, hcode, -, -, -⟩ := hm
  refine Met.ofW (cc := mm.2.1) (maxL := mm.2.2.1) (ret := mm.2.2.2.1) hpl rfl ?_
  intro p e s m args' below meth c s₁ B hml hv
  obtain ⟨rfl, hkn, hsz, hP, hM, hok⟩ := hv
  rw [lg_entry_eq]
  have hts := atoms_spec (ws := jws0 mm) B.pre
  have hl := lv_entry (args.map (jval z X)) (n := mm.2.2.1) (by rw [jpad_lg]; exact hlen)
  have hl1 : lv_has ((lg_sl (args.map (jval z X)) ++ List.replicate (mm.2.2.1 - (lg_sl (args.map (jval z X))).length) Slot.unset).toArray) mm.2.2.1 (jlv z X 0 L0) := ⟨hl.1, hl.2.1, fun q hq => hl.2.2 q (jlv_pad args 0 (by rw [← hL0]; exact hq))⟩
  have hctx : jCtx z X d mm D aC p (jrm d a) s m (args.map (jval z X)).toArray meth c := ⟨B.exec, B.bytes, hml, B.returns, B.notSynchronized, findClass_of_methodNamed B.named, (name_of_methodNamed B.named B.method).1, fun w hw => hts w (List.mem_cons_of_mem _ hw), hkn, Nat.le_refl _, Nat.le_refl _, by rw [hsz]; exact Nat.le_add_right _ _, fun q => by rw [hsc] at q; exact absurd q (by decide)⟩
  have hat : jAt z X mm D aC (jrm d a) a s L0 [] μ s.heap [] 0 0 ((lg_sl (args.map (jval z X)) ++ List.replicate (mm.2.2.1 - (lg_sl (args.map (jval z X))).length) Slot.unset).toArray) := ⟨⟨hsz, hP, va_S.rf, by show 0 + a.1 ≤ a.1; omega, by show 0 + a.2 ≤ a.2; omega, hM⟩, hl1, by rw [hL0]; simp; omega, by rw [hL0]; exact jokL_app (jokL_pad _ hok) (jokL_rep _), trivial⟩
  refine hJ D aC p e (jrm d a) s m (args.map (jval z X)).toArray below meth c _ hctx ?_ s.heap [] 0 0 _ hat
  intro r μ' hq a' L H locs cells slots ls pc hat2 hret
  obtain ⟨⟨g1, g2, g3, g4, g5, g6⟩, -, -, -, gok⟩ := hat2
  have g4' : cells ≤ a.1 := Nat.le_trans (Nat.le_add_right _ _) g4
  have g5' : slots ≤ a.2 := Nat.le_trans (Nat.le_add_right _ _) g5
  have hx := B.exec
  have hb := B.bytes
  have hr := B.returns
  have hlocks := B.notSynchronized
  have hQ : ∀ t : State, t.heap = H → jQc z X D aC Q (args.map (jval z X)).toArray s (.returned (r.map (jval z X))) t := fun t ht => ⟨r, μ', hq, rfl, by rw [ht]; exact g1, by rw [ht]; exact g2, g6, gok, by rw [ht]; exact g3.1, fun q h1 h2 => by rw [ht]; exact g3.2.1 q h1 h2⟩
  refine W.widen g4' g5' ?_
  rcases r with _ | x | x | (_ | _ | x)
  · exact W.vret hx hb (hr.trans hret.1) (fun t ht _ => hQ t ht) g3.2.2 hret.2
  · obtain ⟨h1 | ⟨h1, h2⟩, h3⟩ := hret
    · exact W.iret hx hb (hr.trans h1) (fun t ht _ => hQ t ht) g3.2.2 h3
    · exact W.zret hx hb (hr.trans h1) (by rcases h2 with rfl | rfl <;> decide +kernel) (fun t ht _ => hQ t ht) g3.2.2 h3
  · exact W.lret hx hb (hr.trans hret.1) (fun t ht _ => hQ t ht) g3.2.2 hret.2
  · exact absurd hret (by simp [jRet])
  · exact absurd hret (by simp [jRet])
  · exact absurd hret (by simp [jRet])
theorem jcat_sum {z : Nat} {X : jX} {S : List jV} {n : Nat} (h : ((S.map (jval z X)).map fun v => v.category).sum = n) (hn : n ≤ 8) : ((S.map (jval z X)).map fun v => v.category).sum ≤ 8 := by rw [h]; exact hn
def jcat : jV → Nat
  | .inr (.inl _) => 2
  | _ => 1
theorem jcat_eq {z : Nat} {X : jX} (v : jV) : (jval z X v).category = jcat v := by rcases v with x | x | (_ | _ | x) <;> rfl
theorem jcats {z : Nat} {X : jX} : ∀ S : List jV, ((S.map (jval z X)).map fun v => v.category).sum = (S.map jcat).sum
  | [] => rfl
  | v :: t => by
    simp only [List.map_cons, List.sum_cons, jcat_eq]
    rw [jcats t]
section CALLR
variable {l : Launch} {z : Nat} {X : jX} {d : Nat} {mm : jMt} {pc : Nat} {L S : List jV} {μ : jM} {Q : Option jV → jM → Prop}
/-- the common end of the four kinds of call -/
theorem jgo {D : va_G} {aC : Nat → ClassId} {p : Program} {e : Env} {R : Room} {s : State} {m : MethodId} {args : Array Value} {below : List Frame} {meth : Method} {c : Code} {Φ : State → Prop} {H : Heap} {locs : List Loc} {cells slots : Nat} {ls : Array Slot} {a1 a2 : Nat × Nat} {st : List jV} {av : Array Value}
    (hc : jCtx z X d mm D aC p R s m args meth c) (he : jEnd z X mm D aC l p e R s m args below meth c Q Φ) (ha : jAt z X mm D aC R (a1.1 + a2.1, a1.2 + a2.2) s L st μ H locs cells slots ls) (hS : jokL S)
    (hrun : va_Run p l e R s m args below meth c H locs cells slots a1.1 a1.2 (F0 m pc ls (st.map (jval z X))) (S.map (jval z X)) (jQc z X D aC (fun r μ' => J l z X d mm a2 (pc + 3) L (r.toList ++ S) μ' Q) av) (fun q => z ≤ q)) :
    W p l e R s m args below meth c H locs cells slots Φ (F0 m pc ls (st.map (jval z X))) := by
  obtain ⟨⟨hs, hP, hSt, h4, h5, hM⟩, hl, hLn, hLo, hSo⟩ := ha
  intro T hT X0
  obtain ⟨v, st₀, t, T', L', h0, X', hL', e1, e2, ⟨r, μ', hq, ho, q1, q2, q3, q4, q5, q6⟩, stp⟩ := hrun T hT X0
  have hv : v = r.map (jval z X) := Outcome.returned.inj ho
  rw [h0] at q5 q6
  have hat : jAt z X mm D aC R a2 s L (r.toList ++ S) μ' T'.heap (locs ++ L') (cells + a1.1) (slots + a1.2) ls := by
    refine ⟨⟨by rw [e1]; exact q1, by rw [e1]; exact q2, ⟨Nat.le_trans hSt.1 (by rw [e1]; exact q5), fun q g1 g2 => ?_, fun q hq => ?_⟩, ?_, ?_, q3⟩, hl, hLn, hLo, jokL_app q4 hS⟩
    · rw [e1, q6 q (Nat.lt_of_lt_of_le g1 hSt.1) g2]
      exact hSt.2.1 q g1 g2
    · rcases List.mem_append.mp hq with g | g
      · exact hSt.2.2 q g
      · exact hL' q g
    · have h4' : cells + (a1.1 + a2.1) ≤ R.cells := h4
      omega
    · have h5' : slots + (a1.2 + a2.2) ≤ R.slots := h5
      omega
  obtain ⟨t2, b1, b2⟩ := hq D aC p e R s m args below meth c Φ hc he T'.heap (locs ++ L') (cells + a1.1) (slots + a1.2) ls hat T' rfl X'
  refine ⟨t2, stp t2 ?_, b2⟩
  have e9 : v.toList ++ S.map (jval z X) = (r.toList ++ S).map (jval z X) := by
    rw [hv]
    cases r <;> rfl
  rw [e9]
  exact b1
theorem jPc_at {D : va_G} {aC : Nat → ClassId} {s : State} {H : Heap} {args : List jV} (hk : jKn D aC s) (hs : H.size = z + μ.1.length) (hP : va_P D vwCl (jws z aC μ) H) (hM : jokM μ) (ho : jokL args) : ∀ U : State, U.heap = H → s.WarmedH U.vm → jPc z X D aC args μ (args.map (jval z X)).toArray U := fun U hU hW => ⟨rfl, hk.warm hW, by rw [hU]; exact hs, by rw [hU]; exact hP, hM, ho⟩
theorem J_callV {a1 a2 : Nat × Nat} {mm' : jMt} {index np h n ci : Nat} {C : String} {T : u_T} {rs : List (Option Nat)} {L0 st : List jV} (args : List jV) (hm : jMd mm' np) (hi : Cond.instanceMethod mm'.1 ∈ jW) (hse : Cond.selects mm'.1.cls mm'.1 mm'.1 ∈ jW) (hd : decode mm.2.1 pc = .ok (.invokevirtual index, 3)) (hw : Cond.methodLink mm.1.cls index mm'.1 ∈ jW)
    (hcl : vwCl[ci]? = some (C, T, n)) (hC : mm'.1.cls = C) (hG : μ.1[h]? = some (ci + 5, n, rs)) (hnp : args.length = np) (hst : st = args.reverse ++ jR h :: S) (hcat : (S.map jcat).sum ≤ 8) (hlen : (jpad (jR h :: args)).length ≤ mm'.2.2.1) (hL0 : L0 = jpad (jR h :: args) ++ List.replicate (mm'.2.2.1 - (jpad (jR h :: args)).length) jN)
    (k : J l z X d mm' a1 0 L0 [] μ (fun r μ' => J l z X (d + 1) mm a2 (pc + 3) L (r.toList ++ S) μ' Q)) : J l z X (d + 1) mm (a1.1 + a2.1, a1.2 + a2.2) pc L st μ Q := by
  subst hst
  intro D aC p e R s m args0 below meth c Φ hc he H locs cells slots ls ha
  obtain ⟨⟨hs, hP, hSt, h4, h5, hM⟩, hl, hLn, hLo, hSo⟩ := id ha
  obtain ⟨hx, hb, hml, hr, hlk, hown, hnm, hts, hkn, hdf, hdl, hz, -⟩ := id hc
  have hMet := met_of_J D aC hm hlen hL0 k
  have hA := jokL_rev (jokL_app1 hSo)
  have hS' := (jokL_app2 (A := args.reverse) hSo).2
  obtain ⟨G, M⟩ := μ
  refine jgo hc he ha hS' (av := (Value.ref (z + h) :: args.map (jval z X)).toArray) ?_
  have hG1 : GoodIn jW (jws0 mm') := fun w hw => by
    rcases List.mem_cons.mp hw with e9 | e9
    · rw [e9]; exact jW_good _ hm.2.2.1
    · exact jW_good w e9
  have hnl := hm.2.2.2.2.2
  have hcw : CallW R s args0 mm.1.cls C index mm'.1 mm'.2.1 mm'.2.2.1 mm'.2.2.2.1 (jws0 mm') (jrm d a1) a1.1 a1.2 np := by
    refine ⟨callB_of np hts hG1 rfl rfl rfl (hts _ hm.2.2.2.1) (hts _ hw) hm.2.2.2.2.1 ⟨hdf, ?_⟩, hts _ hi, ?_⟩
    · show 8 + (mm'.2.2.1 + 11) + 64 * d ≤ R.locals
      omega
    · rw [← hC]; exact hts _ hse
  exact va_runV (As := args.map (jval z X)) ⟨hx, hb, hml, hown, hts⟩ hMet hcw ⟨jPc_blind, va_recv hkn.2 hP (ci := ci) (q0 := h) hcl (jws_get hG), jPc_at (args := jR h :: args) hkn hs hP hM ⟨trivial, hA⟩⟩ rfl (by rw [List.length_map]; exact hnp) hl.1 (by simp [jval, List.map_reverse]) (lv_room (by rw [jcats]; exact hcat)) hd
    ⟨by have h4' : cells + (a1.1 + a2.1) ≤ R.cells := h4; omega, by have h5' : slots + (a1.2 + a2.2) ≤ R.slots := h5; omega⟩
theorem J_callS {a1 a2 : Nat × Nat} {mm' : jMt} {index np : Nat} {L0 st : List jV} (args : List jV) (hm : jMd mm' np) (hi : Cond.static mm'.1 ∈ jW) (hd : decode mm.2.1 pc = .ok (.invokestatic index, 3)) (hw : Cond.methodLink mm.1.cls index mm'.1 ∈ jW)
    (hnp : args.length = np) (hst : st = args.reverse ++ S) (hcat : (S.map jcat).sum ≤ 8) (hlen : (jpad args).length ≤ mm'.2.2.1) (hL0 : L0 = jpad args ++ List.replicate (mm'.2.2.1 - (jpad args).length) jN)
    (k : J l z X d mm' a1 0 L0 [] μ (fun r μ' => J l z X (d + 1) mm a2 (pc + 3) L (r.toList ++ S) μ' Q)) : J l z X (d + 1) mm (a1.1 + a2.1, a1.2 + a2.2) pc L st μ Q := by
  subst hst
  intro D aC p e R s m args0 below meth c Φ hc he H locs cells slots ls ha
  obtain ⟨⟨hs, hP, hSt, h4, h5, hM⟩, hl, hLn, hLo, hSo⟩ := id ha
  obtain ⟨hx, hb, hml, hr, hlk, hown, hnm, hts, hkn, hdf, hdl, hz, -⟩ := id hc
  have hMet := met_of_J D aC hm hlen hL0 k
  have hA := jokL_rev (jokL_app1 hSo)
  refine jgo hc he ha (jokL_app2 hSo) (av := (args.map (jval z X)).toArray) ?_
  have hG1 : GoodIn jW (jws0 mm') := fun w hw => by
    rcases List.mem_cons.mp hw with e9 | e9
    · rw [e9]; exact jW_good _ hm.2.2.1
    · exact jW_good w e9
  have hnl := hm.2.2.2.2.2
  have hcw : CallB R s args0 mm.1.cls index mm'.1 mm'.2.1 mm'.2.2.1 mm'.2.2.2.1 (jws0 mm') (jrm d a1) a1.1 a1.2 np ∧ (Cond.static mm'.1).before args0 s = true := by
    refine ⟨callB_of np hts hG1 rfl rfl rfl (hts _ hm.2.2.2.1) (hts _ hw) hm.2.2.2.2.1 ⟨hdf, ?_⟩, hts _ hi⟩
    show 8 + (mm'.2.2.1 + 11) + 64 * d ≤ R.locals
    omega
  exact va_runS (As := args.map (jval z X)) ⟨hx, hb, hml, hown, hts⟩ hMet hcw ⟨jPc_blind, jPc_at hkn hs hP hM hA⟩ rfl (by rw [List.length_map]; exact hnp) hl.1 (by simp [List.map_reverse]) (lv_room (by rw [jcats]; exact hcat)) hd
    ⟨by have h4' : cells + (a1.1 + a2.1) ≤ R.cells := h4; omega, by have h5' : slots + (a1.2 + a2.2) ≤ R.slots := h5; omega⟩
theorem J_callI {a1 a2 : Nat × Nat} {mm' : jMt} {index np h : Nat} {L0 st : List jV} (args : List jV) (hm : jMd mm' np) (hi : Cond.instanceMethod mm'.1 ∈ jW) (hret : mm'.2.2.2.1 = none) (hini : mm'.1.name = "<init>") (hd : decode mm.2.1 pc = .ok (.invokespecial index, 3)) (hw : Cond.methodLink mm.1.cls index mm'.1 ∈ jW)
    (hnp : args.length = np) (hst : st = args.reverse ++ jR h :: S) (hcat : (S.map jcat).sum ≤ 8) (hlen : (jpad (jR h :: args)).length ≤ mm'.2.2.1) (hL0 : L0 = jpad (jR h :: args) ++ List.replicate (mm'.2.2.1 - (jpad (jR h :: args)).length) jN)
    (k : J l z X d mm' a1 0 L0 [] μ (fun r μ' => J l z X (d + 1) mm a2 (pc + 3) L (r.toList ++ S) μ' Q)) : J l z X (d + 1) mm (a1.1 + a2.1, a1.2 + a2.2) pc L st μ Q := by
  subst hst
  intro D aC p e R s m args0 below meth c Φ hc he H locs cells slots ls ha
  obtain ⟨⟨hs, hP, hSt, h4, h5, hM⟩, hl, hLn, hLo, hSo⟩ := id ha
  obtain ⟨hx, hb, hml, hr, hlk, hown, hnm, hts, hkn, hdf, hdl, hz, -⟩ := id hc
  have hMet := met_of_J D aC hm hlen hL0 k
  have hA := jokL_rev (jokL_app1 hSo)
  refine jgo hc he ha (jokL_app2 (A := args.reverse) hSo).2 (av := (Value.ref (z + h) :: args.map (jval z X)).toArray) ?_
  have hG1 : GoodIn jW (jws0 mm') := fun w hw => by
    rcases List.mem_cons.mp hw with e9 | e9
    · rw [e9]; exact jW_good _ hm.2.2.1
    · exact jW_good w e9
  have hnl := hm.2.2.2.2.2
  have hcw : CallB R s args0 mm.1.cls index mm'.1 mm'.2.1 mm'.2.2.1 none (jws0 mm') (jrm d a1) a1.1 a1.2 np ∧ mm'.1.name = "<init>" ∧ (Cond.instanceMethod mm'.1).before args0 s = true := by
    refine ⟨callB_of np hts hG1 (by unfold jws0; rw [hret]) rfl rfl (hts _ hm.2.2.2.1) (hts _ hw) hm.2.2.2.2.1 ⟨hdf, ?_⟩, hini, hts _ hi⟩
    show 8 + (mm'.2.2.1 + 11) + 64 * d ≤ R.locals
    omega
  exact va_runI (b := z + h) (As := args.map (jval z X)) ⟨hx, hb, hml, hown, hts⟩ hMet hcw ⟨jPc_blind, jPc_at (args := jR h :: args) hkn hs hP hM ⟨trivial, hA⟩⟩ rfl (by rw [List.length_map]; exact hnp) hl.1 (by simp [jval, List.map_reverse]) (lv_room (by rw [jcats]; exact hcat)) hd
    ⟨by have h4' : cells + (a1.1 + a2.1) ≤ R.cells := h4; omega, by have h5' : slots + (a1.2 + a2.2) ≤ R.slots := h5; omega⟩
theorem J_callIN {a1 a2 : Nat × Nat} {mm' : jMt} {index np h : Nat} {host : String} {L0 st : List jV} (args : List jV) (hm : jMd mm' np) (hi : Cond.instanceMethod mm'.1 ∈ jW) (hret : mm'.2.2.2.1 = none) (hini : mm'.1.name = "<init>") (hd : decode mm.2.1 pc = .ok (.invokespecial index, 3)) (hw : Cond.methodLinkNest mm.1.cls index mm'.1 host ∈ jNW)
    (hnp : args.length = np) (hst : st = args.reverse ++ jR h :: S) (hcat : (S.map jcat).sum ≤ 8) (hlen : (jpad (jR h :: args)).length ≤ mm'.2.2.1) (hL0 : L0 = jpad (jR h :: args) ++ List.replicate (mm'.2.2.1 - (jpad (jR h :: args)).length) jN)
    (k : J l z X d mm' a1 0 L0 [] μ (fun r μ' => J l z X (d + 1) mm a2 (pc + 3) L (r.toList ++ S) μ' Q)) : J l z X (d + 1) mm (a1.1 + a2.1, a1.2 + a2.2) pc L st μ Q := by
  subst hst
  intro D aC p e R s m args0 below meth c Φ hc he H locs cells slots ls ha
  obtain ⟨⟨hs, hP, hSt, h4, h5, hM⟩, hl, hLn, hLo, hSo⟩ := id ha
  obtain ⟨hx, hb, hml, hr, hlk, hown, hnm, hts, hkn, hdf, hdl, hz, -⟩ := id hc
  have hMet := met_of_J D aC hm hlen hL0 k
  have hA := jokL_rev (jokL_app1 hSo)
  refine jgo hc he ha (jokL_app2 (A := args.reverse) hSo).2 (av := (Value.ref (z + h) :: args.map (jval z X)).toArray) ?_
  have hG1 : GoodIn jW (jws0 mm') := fun w hw => by
    rcases List.mem_cons.mp hw with e9 | e9
    · rw [e9]; exact jW_good _ hm.2.2.1
    · exact jW_good w e9
  have hnl := hm.2.2.2.2.2
  have hcw : va_CN R s args0 mm.1.cls index mm'.1 host mm'.2.1 mm'.2.2.1 none (jws0 mm') (jrm d a1) a1.1 a1.2 np ∧ mm'.1.name = "<init>" ∧ (Cond.instanceMethod mm'.1).before args0 s = true := by
    refine ⟨va_cnB np hts hG1 (by unfold jws0; rw [hret]) rfl rfl (hkn.1 _ hw) (hts _ hm.2.2.2.1) hm.2.2.2.2.1 ⟨hdf, ?_⟩, hini, hts _ hi⟩
    show 8 + (mm'.2.2.1 + 11) + 64 * d ≤ R.locals
    omega
  exact va_runIN (b := z + h) (As := args.map (jval z X)) ⟨hx, hb, hml, hown, hts⟩ hMet hcw ⟨jPc_blind, jPc_at (args := jR h :: args) hkn hs hP hM ⟨trivial, hA⟩⟩ rfl (by rw [List.length_map]; exact hnp) hl.1 (by simp [jval, List.map_reverse]) (lv_room (by rw [jcats]; exact hcat)) hd
    ⟨by have h4' : cells + (a1.1 + a2.1) ≤ R.cells := h4; omega, by have h5' : slots + (a1.2 + a2.2) ≤ R.slots := h5; omega⟩
end CALLR
