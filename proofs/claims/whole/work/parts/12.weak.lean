/-! ## fewer known locals -/
def jle : List jV → List jV → Prop
  | [], [] => True
  | v' :: t', v :: t => (v' = jN ∨ v' = v) ∧ jle t' t
  | _, _ => False
theorem jle_len : ∀ {L' L : List jV}, jle L' L → L'.length = L.length
  | [], [], _ => rfl
  | _ :: _, _ :: _, h => congrArg (· + 1) (jle_len h.2)
theorem jle_ok : ∀ {L' L : List jV}, jle L' L → jokL L → jokL L'
  | [], [], _, h => h
  | v' :: _, v :: _, h, g => ⟨by
    rcases h.1 with e | e
    · rw [e]; trivial
    · rw [e]; exact g.1, jle_ok h.2 g.2⟩
theorem jle_mem {z : Nat} {X : jX} {q : Nat × Value} : ∀ {L' L : List jV} {off : Nat}, jle L' L → q ∈ jlv z X off L' → q ∈ jlv z X off L
  | [], [], _, _, h => h
  | v' :: _, v :: _, off, h, g => by
    rcases jlv_cons.mp g with ⟨g1, g2⟩ | g
    · rcases h.1 with e | e
      · exact absurd e g1
      · subst e
        exact jlv_cons.mpr (Or.inl ⟨g1, g2⟩)
    · exact jlv_cons.mpr (Or.inr (jle_mem h.2 g))
theorem J_weak {l : Launch} {z : Nat} {X : jX} {d : Nat} {mm : jMt} {a : Nat × Nat} {pc : Nat} {L S : List jV} {μ : jM} {Q : Option jV → jM → Prop} (L' : List jV) (h : jle L' L) (k : J l z X d mm a pc L' S μ Q) : J l z X d mm a pc L S μ Q := fun D aC p e R s m args below meth c Φ hc he H locs cells slots ls ha => k D aC p e R s m args below meth c Φ hc he H locs cells slots ls ⟨ha.1, ⟨ha.2.1.1, ha.2.1.2.1, fun q hq => ha.2.1.2.2 q (jle_mem h hq)⟩, (jle_len h).trans ha.2.2.1, jle_ok h ha.2.2.2.1, ha.2.2.2.2⟩
theorem J_deep {l : Launch} {z : Nat} {X : jX} {d d' : Nat} {mm : jMt} {a : Nat × Nat} {pc : Nat} {L S : List jV} {μ : jM} {Q : Option jV → jM → Prop} (h : d ≤ d') (k : J l z X d mm a pc L S μ Q) : J l z X d' mm a pc L S μ Q := fun D aC p e R s m args below meth c Φ hc he H locs cells slots ls ha => by
  obtain ⟨h1, h2, h3, h4, h5, h6, h7, h8, h9, h10, h11, h12, h13⟩ := hc
  exact k D aC p e R s m args below meth c Φ ⟨h1, h2, h3, h4, h5, h6, h7, h8, h9, by omega, by omega, h12, h13⟩ he H locs cells slots ls ha
