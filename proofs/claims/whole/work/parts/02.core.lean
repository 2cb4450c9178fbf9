/-! A small machine over whole numbers, and its rows out of the kit's: the world's cells are numbered 0, 1, .. in the order in which they are made, from the address z on. -/
abbrev jV : Type := Int ⊕ (Int ⊕ Option (Option Nat))
abbrev jI (x : Int) : jV := .inl x
abbrev jL (x : Int) : jV := .inr (.inl x)
abbrev jR (h : Nat) : jV := .inr (.inr (some (some h)))
abbrev jS : jV := .inr (.inr (some none))
abbrev jN : jV := .inr (.inr none)
/-- the script: its address, its length, what it holds -/
abbrev jX : Type := Nat × Nat × (Nat → Int)
def jval (z : Nat) (X : jX) : jV → Value
  | .inl x => .int (Int32.ofInt x)
  | .inr (.inl x) => .long (Int64.ofInt x)
  | .inr (.inr (some (some h))) => .ref (z + h)
  | .inr (.inr (some none)) => .ref X.1
  | .inr (.inr none) => .null
/-- a cell's kind: 0 int[], 1 long[], 2 boolean[], 3 int[][], 4 Image[], 5 + c an object of class c; how many places; the references that it holds -/
abbrev jKd : Type := Nat × Nat × List (Option Nat)
abbrev jM : Type := List jKd × (Nat → Int → Int)
def jIn (x : Int) : Prop := -2147483648 ≤ x ∧ x ≤ 2147483647
def jInL (x : Int) : Prop := -9223372036854775808 ≤ x ∧ x ≤ 9223372036854775807
def jok : jV → Prop
  | .inl x => jIn x
  | .inr (.inl x) => jInL x
  | _ => True
def jokL : List jV → Prop
  | [] => True
  | v :: t => jok v ∧ jokL t
def jlen : List jKd → Nat → Nat := fun G k => (G.getD k (0, 0, [])).1
def jokM (μ : jM) : Prop := ∀ (k : Nat) (j : Int), (jlen μ.1 k = 1 → jInL (μ.2 k j)) ∧ (jlen μ.1 k ≠ 1 → jIn (μ.2 k j)) ∧ (μ.1.length ≤ k → μ.2 k j = 0)
def jfty (ci : Nat) : Nat → FieldType := match ci with
  | 0 => tyX0
  | 1 => tyX1
  | 2 => tyX2
  | 3 => tyX3
  | 4 => tyX4
  | 5 => tyX5
  | 6 => tyX6
  | 7 => tyX8
  | 8 => tyX9
  | _ => tyX10
def jisref : FieldType → Bool
  | .object _ => true
  | .array _ => true
  | _ => false
def jrf (z : Nat) (rs : List (Option Nat)) : Nat → Option Nat := fun j => (rs.getD j none).map (fun h => z + h)
def jfv (z ci : Nat) (rs : List (Option Nat)) (f : Int → Int) (j : Nat) : Value := if jisref (jfty ci j) = true then va_rf (jrf z rs j) else .int (Int32.ofInt (f j))
def jent (z : Nat) (aC : Nat → ClassId) (kd : jKd) (f : Int → Int) : va_E :=
  match kd with
  | (0, n, _) => .inl (aC 0, n, .inl (fun j => Int32.ofInt (f j)))
  | (1, n, _) => .inl (aC 1, n, .inr (.inl (fun j => Int64.ofInt (f j))))
  | (2, n, _) => .inl (aC 2, n, .inl (fun j => Int32.ofInt (f j)))
  | (3, n, rs) => .inl (aC 3, n, .inr (.inr (.inr (.inr (jrf z rs)))))
  | (4, n, rs) => .inl (aC 4, n, .inr (.inr (.inr (.inr (jrf z rs)))))
  | (ci + 5, n, rs) => .inr (ci, (List.range n).map (jfv z ci rs f))
def jws (z : Nat) (aC : Nat → ClassId) (μ : jM) : va_W := (List.range μ.1.length).map (fun k => (z + k, jent z aC (μ.1.getD k (0, 0, [])) (μ.2 k)))
theorem jws_get {z : Nat} {aC : Nat → ClassId} {G : List jKd} {M : Nat → Int → Int} {k : Nat} {kd : jKd} (h : G[k]? = some kd) : (jws z aC (G, M))[k]? = some (z + k, jent z aC kd (M k)) := by
  have hl := (List.getElem?_eq_some_iff.mp h).1
  unfold jws
  rw [List.getElem?_map, List.getElem?_range hl]
  simp [List.getD_eq_getElem?_getD, h]
theorem jws_at {z : Nat} {aC : Nat → ClassId} {μ : jM} {k : Nat} {q : Nat × va_E} (h : (jws z aC μ)[k]? = some q) : k < μ.1.length ∧ q = (z + k, jent z aC (μ.1.getD k (0, 0, [])) (μ.2 k)) := by
  have hl := (List.getElem?_eq_some_iff.mp h).1
  simp only [jws, List.length_map, List.length_range] at hl
  refine ⟨hl, ?_⟩
  simp only [jws, List.getElem?_map, List.getElem?_range hl, Option.map_some] at h
  exact (Option.some.inj h).symm
theorem jws_D {z : Nat} {aC : Nat → ClassId} {μ : jM} : va_D (fun q => z ≤ q) (jws z aC μ) := by
  refine ⟨fun i j p q hi hj e => ?_, fun k q hk => ?_⟩
  · rw [(jws_at hi).2, (jws_at hj).2] at e
    exact Nat.add_left_cancel e
  · rw [(jws_at hk).2]
    exact Nat.le_add_right _ _
theorem jws_set {z : Nat} {aC : Nat → ClassId} {G G' : List jKd} {M M' : Nat → Int → Int} {k : Nat} {E : va_E} (hl : G'.length = G.length) (h1 : E = jent z aC (G'.getD k (0, 0, [])) (M' k)) (h2 : ∀ j, j ≠ k → G'.getD j (0, 0, []) = G.getD j (0, 0, []) ∧ M' j = M j) :
    (jws z aC (G, M)).set k (z + k, E) = jws z aC (G', M') := by
  apply List.ext_getElem?
  intro j
  unfold jws
  rw [List.getElem?_set]
  simp only [List.length_map, List.length_range, List.getElem?_map, hl]
  by_cases hjk : k = j
  · subst hjk
    by_cases hk : k < G.length
    · simp [hk, h1]
    · simp [hk]
  · rw [if_neg hjk]
    by_cases hj : j < G.length
    · rw [List.getElem?_range hj]
      have e := (h2 j (fun e => hjk e.symm)).1
      rw [List.getD_eq_getElem?_getD, List.getD_eq_getElem?_getD] at e
      simp [e, (h2 j (fun e => hjk e.symm)).2]
    · simp [hj]
def jupd (M : Nat → Int → Int) (h : Nat) (i x : Int) : Nat → Int → Int := fun h' i' => if h' = h ∧ i' = i then x else M h' i'
theorem jupd_s (M : Nat → Int → Int) (h : Nat) (i x : Int) : jupd M h i x h i = x := by simp [jupd]
theorem jupd_h (M : Nat → Int → Int) {h h' : Nat} (i i' x : Int) (e : h' ≠ h) : jupd M h i x h' i' = M h' i' := by simp [jupd, e]
theorem jupd_i (M : Nat → Int → Int) (h h' : Nat) {i i' : Int} (x : Int) (e : i' ≠ i) : jupd M h i x h' i' = M h' i' := by simp [jupd, e]
theorem jupd_ne (M : Nat → Int → Int) {h h' : Nat} (i x : Int) (e : h' ≠ h) : jupd M h i x h' = M h' := funext fun _ => jupd_h M i _ x e
/-! ## the words -/
def jW : List Cond := lw_tbl.filter goodWord
def jisNw : Cond → Bool
  | .fieldLinkNest .. => true
  | .methodLinkNest .. => true
  | .arrayOver _ => true
  | _ => false
def jNW : List Cond := lw_tbl.filter jisNw
theorem jW_good : GoodIn jW jW := fun w hw => ⟨hw, good_of_word (by have := (List.mem_filter.mp hw).2; simpa using this)⟩
theorem jW_mem {w : Cond} (h : w ∈ lw_tbl) (hg : goodWord w = true) : w ∈ jW := List.mem_filter.mpr ⟨h, hg⟩
theorem jNW_mem {w : Cond} (h : w ∈ lw_tbl) (hg : jisNw w = true) : w ∈ jNW := List.mem_filter.mpr ⟨h, hg⟩
def jtys (aC : Nat → ClassId) : List (ClassId × FieldType) := [(aC 0, .int), (aC 1, .long), (aC 2, .boolean), (aC 3, .array .int), (aC 4, .object RX2)]
theorem jao {ty : FieldType} {s U : State} (hW : s.vm.Alike U.vm) (h : va_Nw (.arrayOver ty) s) : va_Nw (.arrayOver ty) U := by
  have h2 := (Cond.arrayOver_setVmC (args := #[]) (s := s) hW ty).trans h
  exact h2
/-- what stands of the tables in every frame -/
def jKn (D : va_G) (aC : Nat → ClassId) (s : State) : Prop := (∀ w ∈ jNW, va_Nw w s) ∧ va_K D vwCl (jtys aC) s
theorem jKn.warm {D : va_G} {aC : Nat → ClassId} {s U : State} (hW : s.WarmedH U.vm) (h : jKn D aC s) : jKn D aC U := by
  refine ⟨fun w hw => ?_, h.2.moved hW.alike⟩
  have h1 := h.1 w hw
  have h2 := (List.mem_filter.mp hw).2
  cases w <;> first | exact va_Nw.warmF hW h1 | exact va_Nw.warmM hW h1 | exact jao hW.alike h1 | (exfalso; revert h2; simp [jisNw])
theorem jKn.same {D : va_G} {aC : Nat → ClassId} {s U : State} (hv : s.vm = U.vm) (h : jKn D aC s) : jKn D aC U := by
  refine ⟨fun w hw => ?_, h.2.moved (by rw [hv]; exact Vm.Alike.refl U.vm)⟩
  have h1 := h.1 w hw
  have h2 := (List.mem_filter.mp hw).2
  cases w <;> first | exact va_Nw.same rfl hv h1 | exact jao (by rw [hv]; exact Vm.Alike.refl U.vm) h1 | (exfalso; revert h2; simp [jisNw])
/-! ## a method: name, code, locals, what it answers; whether it is the law, which has the script -/
abbrev jMt : Type := MethodName × ByteArray × Nat × Option FieldType × Bool
def jlv (z : Nat) (X : jX) : Nat → List jV → List (Nat × Value)
  | _, [] => []
  | i, .inr (.inr none) :: t => jlv z X (i + 1) t
  | i, v :: t => (i, jval z X v) :: jlv z X (i + 1) t
def jCtx (z : Nat) (X : jX) (d : Nat) (mm : jMt) (D : va_G) (aC : Nat → ClassId) (p : Program) (R : Room) (s : State) (m : MethodId) (args : Array Value) (meth : Method) (c : Code) : Prop :=
  p.tables.exec = Jvm.exec ∧ c.code = mm.2.1 ∧ c.maxLocals = mm.2.2.1 ∧ meth.sig.returnType = mm.2.2.2.1 ∧ meth.locks = false ∧ s.vm.findClass mm.1.cls = some m.cls ∧ meth.name = mm.1.name ∧ (∀ w ∈ jW, w.before args s = true) ∧ jKn D aC s ∧ d ≤ R.frames ∧ 64 * d ≤ R.locals ∧ z ≤ s.heap.size ∧ (mm.2.2.2.2 = true → va_X X.1 X.2.1 (fun j => Int32.ofInt (X.2.2 j)) s s.heap ∧ X.1 < z ∧ X.2.1 < 2147483648)
def jHp (z : Nat) (D : va_G) (aC : Nat → ClassId) (R : Room) (a : Nat × Nat) (s : State) (μ : jM) (H : Heap) (locs : List Loc) (cells slots : Nat) : Prop :=
  H.size = z + μ.1.length ∧ va_P D vwCl (jws z aC μ) H ∧ va_S (fun q => z ≤ q) s.heap H locs ∧ cells + a.1 ≤ R.cells ∧ slots + a.2 ≤ R.slots ∧ jokM μ
def jAt (z : Nat) (X : jX) (mm : jMt) (D : va_G) (aC : Nat → ClassId) (R : Room) (a : Nat × Nat) (s : State) (L S : List jV) (μ : jM) (H : Heap) (locs : List Loc) (cells slots : Nat) (ls : Array Slot) : Prop :=
  jHp z D aC R a s μ H locs cells slots ∧ lv_has ls mm.2.2.1 (jlv z X 0 L) ∧ L.length = mm.2.2.1 ∧ jokL L ∧ jokL S
def jRet (mm : jMt) (pc : Nat) : Option jV → Prop
  | none => mm.2.2.2.1 = none ∧ decode mm.2.1 pc = .ok (.return_, 1)
  | some (.inl x) => (mm.2.2.2.1 = some .int ∨ (mm.2.2.2.1 = some .boolean ∧ (x = 0 ∨ x = 1))) ∧ decode mm.2.1 pc = .ok (.ireturn, 1)
  | some (.inr (.inl _)) => mm.2.2.2.1 = some .long ∧ decode mm.2.1 pc = .ok (.lreturn, 1)
  | _ => False
def jEnd (z : Nat) (X : jX) (mm : jMt) (D : va_G) (aC : Nat → ClassId) (l : Launch) (p : Program) (e : Env) (R : Room) (s : State) (m : MethodId) (args : Array Value) (below : List Frame) (meth : Method) (c : Code) (Q : Option jV → jM → Prop) (Φ : State → Prop) : Prop :=
  ∀ (r : Option jV) (μ : jM), Q r μ → ∀ (a : Nat × Nat) (L : List jV) (H : Heap) (locs : List Loc) (cells slots : Nat) (ls : Array Slot) (pc : Nat), jAt z X mm D aC R a s L r.toList μ H locs cells slots ls → jRet mm pc r →
    W p l e R s m args below meth c H locs cells slots Φ (F0 m pc ls (r.toList.map (jval z X)))
/-- from here, with these locals, this stack, these cells, the method comes to its end, and Q holds of its answer and the cells -/
def J (l : Launch) (z : Nat) (X : jX) (d : Nat) (mm : jMt) (a : Nat × Nat) (pc : Nat) (L S : List jV) (μ : jM) (Q : Option jV → jM → Prop) : Prop :=
  ∀ (D : va_G) (aC : Nat → ClassId) (p : Program) (e : Env) (R : Room) (s : State) (m : MethodId) (args : Array Value) (below : List Frame) (meth : Method) (c : Code) (Φ : State → Prop),
    jCtx z X d mm D aC p R s m args meth c → jEnd z X mm D aC l p e R s m args below meth c Q Φ → ∀ (H : Heap) (locs : List Loc) (cells slots : Nat) (ls : Array Slot), jAt z X mm D aC R a s L S μ H locs cells slots ls →
      W p l e R s m args below meth c H locs cells slots Φ (F0 m pc ls (S.map (jval z X)))
/-! ## numbers -/
theorem j32 {x : Int} (h : jIn x) : (Int32.ofInt x).toInt = x := by
  have h1 := h.1; have h2 := h.2
  exact Int32.toInt_ofInt_of_le (by omega) (by omega)
theorem j64 {x : Int} (h : jInL x) : (Int64.ofInt x).toInt = x := by
  have h1 := h.1; have h2 := h.2
  exact Int64.toInt_ofInt_of_le (by omega) (by omega)
theorem j32_lt {x y : Int} (hx : jIn x) (hy : jIn y) : Int32.ofInt x < Int32.ofInt y ↔ x < y := by rw [Int32.lt_iff_toInt_lt, j32 hx, j32 hy]
theorem j32_le {x y : Int} (hx : jIn x) (hy : jIn y) : Int32.ofInt x ≤ Int32.ofInt y ↔ x ≤ y := by rw [Int32.le_iff_toInt_le, j32 hx, j32 hy]
theorem j32_eq {x y : Int} (hx : jIn x) (hy : jIn y) : Int32.ofInt x = Int32.ofInt y ↔ x = y := by rw [← Int32.toInt_inj, j32 hx, j32 hy]
theorem j32_0 : (0 : Int32) = Int32.ofInt 0 := by decide +kernel
theorem jIn0 : jIn 0 := by unfold jIn; omega
theorem j32_add {x y : Int} (hx : jIn x) (hy : jIn y) (h : jIn (x + y)) : Int32.ofInt x + Int32.ofInt y = Int32.ofInt (x + y) := by
  apply Int32.toInt_inj.mp
  have h1 := h.1; have h2 := h.2
  rw [Int32.toInt_add, j32 hx, j32 hy, j32 h, Int.bmod_eq_of_le (by omega) (by omega)]
theorem j32_sub {x y : Int} (hx : jIn x) (hy : jIn y) (h : jIn (x - y)) : Int32.ofInt x - Int32.ofInt y = Int32.ofInt (x - y) := by
  apply Int32.toInt_inj.mp
  have h1 := h.1; have h2 := h.2
  rw [Int32.toInt_sub, j32 hx, j32 hy, j32 h, Int.bmod_eq_of_le (by omega) (by omega)]
theorem j32_mul {x y : Int} (hx : jIn x) (hy : jIn y) (h : jIn (x * y)) : Int32.ofInt x * Int32.ofInt y = Int32.ofInt (x * y) := by
  apply Int32.toInt_inj.mp
  have h1 := h.1; have h2 := h.2
  rw [Int32.toInt_mul, j32 hx, j32 hy, j32 h, Int.bmod_eq_of_le (by omega) (by omega)]
theorem j64_add {x y : Int} (hx : jInL x) (hy : jInL y) (h : jInL (x + y)) : Int64.ofInt x + Int64.ofInt y = Int64.ofInt (x + y) := by
  apply Int64.toInt_inj.mp
  have h1 := h.1; have h2 := h.2
  rw [Int64.toInt_add, j64 hx, j64 hy, j64 h, Int.bmod_eq_of_le (by omega) (by omega)]
theorem j64_sub {x y : Int} (hx : jInL x) (hy : jInL y) (h : jInL (x - y)) : Int64.ofInt x - Int64.ofInt y = Int64.ofInt (x - y) := by
  apply Int64.toInt_inj.mp
  have h1 := h.1; have h2 := h.2
  rw [Int64.toInt_sub, j64 hx, j64 hy, j64 h, Int.bmod_eq_of_le (by omega) (by omega)]
theorem j64_mul {x y : Int} (hx : jInL x) (hy : jInL y) (h : jInL (x * y)) : Int64.ofInt x * Int64.ofInt y = Int64.ofInt (x * y) := by
  apply Int64.toInt_inj.mp
  have h1 := h.1; have h2 := h.2
  rw [Int64.toInt_mul, j64 hx, j64 hy, j64 h, Int.bmod_eq_of_le (by omega) (by omega)]
theorem jdiv_le {x y : Int} (h0 : 0 ≤ x) (hy : 0 < y) : 0 ≤ x / y ∧ x / y ≤ x := ⟨Int.ediv_nonneg h0 (by omega), Int.ediv_le_self y h0⟩
theorem jmod_le {x y : Int} (h0 : 0 ≤ x) (hy : 0 < y) : 0 ≤ x % y ∧ x % y ≤ x ∧ x % y < y := by
  refine ⟨Int.emod_nonneg x (by omega), ?_, Int.emod_lt_of_pos x hy⟩
  have h1 := Int.mul_ediv_add_emod x y
  have h2 := Int.mul_nonneg (a := y) (b := x / y) (by omega) (jdiv_le h0 hy).1
  omega
theorem j32_div {x y : Int} (hx : jIn x) (hy : jIn y) (h0 : 0 ≤ x) (h : 0 < y) : Int32.ofInt x / Int32.ofInt y = Int32.ofInt (x / y) ∧ jIn (x / y) := by
  have h1 := hx.2
  have h2 := jdiv_le h0 h
  have h3 : jIn (x / y) := ⟨by omega, by omega⟩
  refine ⟨?_, h3⟩
  apply Int32.toInt_inj.mp
  rw [Int32.toInt_div, j32 hx, j32 hy, j32 h3, Int.tdiv_eq_ediv_of_nonneg h0, Int.bmod_eq_of_le (by omega) (by omega)]
theorem j32_mod {x y : Int} (hx : jIn x) (hy : jIn y) (h0 : 0 ≤ x) (h : 0 < y) : Int32.ofInt x - Int32.ofInt x / Int32.ofInt y * Int32.ofInt y = Int32.ofInt (x % y) ∧ jIn (x % y) := by
  have h1 := hx.2
  have h2 := jmod_le h0 h
  have h3 : jIn (x % y) := ⟨by omega, by omega⟩
  refine ⟨?_, h3⟩
  apply Int32.toInt_inj.mp
  rw [irem_eq_mod, Int32.toInt_mod, j32 hx, j32 hy, j32 h3, Int.tmod_eq_emod_of_nonneg h0]
theorem j64_div {x y : Int} (hx : jInL x) (hy : jInL y) (h0 : 0 ≤ x) (h : 0 < y) : Int64.ofInt x / Int64.ofInt y = Int64.ofInt (x / y) ∧ jInL (x / y) := by
  have h1 := hx.2
  have h2 := jdiv_le h0 h
  have h3 : jInL (x / y) := ⟨by omega, by omega⟩
  refine ⟨?_, h3⟩
  apply Int64.toInt_inj.mp
  rw [Int64.toInt_div, j64 hx, j64 hy, j64 h3, Int.tdiv_eq_ediv_of_nonneg h0, Int.bmod_eq_of_le (by omega) (by omega)]
theorem j64_mod {x y : Int} (hx : jInL x) (hy : jInL y) (h0 : 0 ≤ x) (h : 0 < y) : Int64.ofInt x - Int64.ofInt x / Int64.ofInt y * Int64.ofInt y = Int64.ofInt (x % y) ∧ jInL (x % y) := by
  have h1 := hx.2
  have h2 := jmod_le h0 h
  have h3 : jInL (x % y) := ⟨by omega, by omega⟩
  refine ⟨?_, h3⟩
  have e : ∀ a b : Int64, (a - a / b * b).toInt = a.toInt.tmod b.toInt := fun a b => by
    have h5 : a - a / b * b = a % b := by
      apply Int64.toInt_inj.mp
      have h6 := Int64.le_toInt (a % b)
      have h7 := Int64.toInt_lt (a % b)
      rw [Int64.toInt_sub, Int64.toInt_mul, Int64.toInt_div, Int.bmod_mul_bmod, Int.sub_bmod_bmod, Int.mul_comm (a.toInt.tdiv b.toInt), ← Int.tmod_def, ← Int64.toInt_mod]
      exact Int.bmod_eq_of_le_mul_two (by omega) (by omega)
    rw [h5, Int64.toInt_mod]
  apply Int64.toInt_inj.mp
  rw [e, j64 hx, j64 hy, j64 h3, Int.tmod_eq_emod_of_nonneg h0]
theorem j32_64 {x : Int} (h : jIn x) : (Int32.ofInt x).toInt64 = Int64.ofInt x := by
  have h1 := h.1; have h2 := h.2
  exact Int32.toInt64_ofInt (Int.le_trans (by decide +kernel) h1) (Int.le_trans h2 (by decide +kernel))
theorem j32_ix {i : Int} {n : Nat} (h0 : 0 ≤ i) (h : jIn i) : (Int32.ofInt i).toNatClampNeg = i.toNat := by
  rw [Int32.toNatClampNeg, j32 h]
theorem j32_in {i : Int} {n : Nat} (h0 : 0 ≤ i) (h1 : i < n) (h : jIn i) : vp_in (Int32.ofInt i) n := vp_in_iff.mpr (by rw [j32 h]; exact ⟨h0, h1⟩)
/-! ## locals -/
def jlong : jV → Bool
  | .inr (.inl _) => true
  | _ => false
def jset1 : List jV → Nat → jV → List jV
  | [], _, _ => []
  | _ :: t, 0, v => v :: t
  | w :: t, i + 1, v => (bif (i == 0) && jlong w then jN else w) :: jset1 t i v
def jset2 : List jV → Nat → jV → List jV
  | [], _, _ => []
  | w :: t, 0, v => v :: jset1 t 0 jN
  | w :: t, i + 1, v => (bif (i == 0) && jlong w then jN else w) :: jset2 t i v
theorem jlv_cons {z : Nat} {X : jX} {off : Nat} {w : jV} {t : List jV} {q : Nat × Value} : q ∈ jlv z X off (w :: t) ↔ (w ≠ jN ∧ q = (off, jval z X w)) ∨ q ∈ jlv z X (off + 1) t := by
  rcases w with x | x | (_ | x)
  · simp [jlv]
  · simp [jlv]
  · simp [jlv]
  · simp [jlv]
theorem jlv_ge {z : Nat} {X : jX} {q : Nat × Value} : ∀ (L : List jV) (off : Nat), q ∈ jlv z X off L → off ≤ q.1
  | [], off, h => by simp [jlv] at h
  | w :: t, off, h => by
    rcases jlv_cons.mp h with ⟨-, h⟩ | h
    · rw [h]; exact Nat.le_refl _
    · have := jlv_ge t (off + 1) h
      omega
theorem jlv_mem {z : Nat} {X : jX} {v : jV} (hv : v ≠ jN) : ∀ (L : List jV) (off i : Nat), L[i]? = some v → (off + i, jval z X v) ∈ jlv z X off L
  | [], off, i, h => by simp at h
  | w :: t, off, 0, h => by
    have e : w = v := by simpa using h
    subst e
    exact jlv_cons.mpr (Or.inl ⟨hv, rfl⟩)
  | w :: t, off, i + 1, h => by
    have h1 := jlv_mem (z := z) (X := X) hv t (off + 1) i (by simpa using h)
    rw [Nat.add_right_comm, Nat.add_assoc] at h1
    exact jlv_cons.mpr (Or.inr h1)
theorem jlv_at {z : Nat} {X : jX} {ls : Array Slot} {n : Nat} {L : List jV} {i : Nat} {v : jV} (h : lv_has ls n (jlv z X 0 L)) (hi : L[i]? = some v) (hv : v ≠ jN) : ls[i]? = some (.val (jval z X v)) := by
  have h1 := jlv_mem (z := z) (X := X) hv L 0 i hi
  rw [Nat.zero_add] at h1
  exact h.2.2 _ h1
theorem jcat2 {z : Nat} {X : jX} {w : jV} (h : (jval z X w).category = 2) : jlong w = true := by
  rcases w with x | x | (_ | _ | x)
  · simp [jval, Value.category] at h
  · rfl
  · simp [jval, Value.category] at h
  · simp [jval, Value.category] at h
  · simp [jval, Value.category] at h
theorem jkill {z : Nat} {X : jX} {off i : Nat} {w : jV} {q : Nat × Value} (h : (bif (i == 0) && jlong w then jN else w) ≠ jN) (hq : q = (off, jval z X (bif (i == 0) && jlong w then jN else w))) : (w ≠ jN ∧ q = (off, jval z X w)) ∧ ¬ (q.1 + 1 = off + (i + 1) ∧ q.2.category = 2) := by
  cases hb : (i == 0) && jlong w with
  | true => rw [hb] at h; exact absurd rfl h
  | false =>
    rw [hb] at h hq
    refine ⟨⟨h, hq⟩, fun g => ?_⟩
    rw [hq] at g
    have g1 : off + 1 = off + (i + 1) := g.1
    have g2 := jcat2 g.2
    rw [show i = 0 by omega, show jlong w = true from g2] at hb
    exact absurd hb (by decide)
theorem jset1_mem {z : Nat} {X : jX} {v : jV} {q : Nat × Value} : ∀ (L : List jV) (off i : Nat), q ∈ jlv z X off (jset1 L i v) → q = (off + i, jval z X v) ∨ (q ∈ jlv z X off L ∧ q.1 ≠ off + i ∧ ¬ (q.1 + 1 = off + i ∧ q.2.category = 2))
  | [], off, i, h => by simp [jset1, jlv] at h
  | w :: t, off, 0, h => by
    rcases jlv_cons.mp (show q ∈ jlv z X off (v :: t) from h) with ⟨-, h⟩ | h
    · exact Or.inl h
    · have := jlv_ge t (off + 1) h
      exact Or.inr ⟨jlv_cons.mpr (Or.inr h), by omega, by omega⟩
  | w :: t, off, i + 1, h => by
    rcases jlv_cons.mp (show q ∈ jlv z X off ((bif (i == 0) && jlong w then jN else w) :: jset1 t i v) from h) with ⟨h1, h2⟩ | h
    · obtain ⟨g1, g2⟩ := jkill h1 h2
      refine Or.inr ⟨jlv_cons.mpr (Or.inl g1), ?_, g2⟩
      rw [h2]
      show off ≠ off + (i + 1)
      omega
    · rcases jset1_mem t (off + 1) i h with h | ⟨h1, h2, h3⟩
      · exact Or.inl (by rw [h]; congr 1; omega)
      · exact Or.inr ⟨jlv_cons.mpr (Or.inr h1), by omega, fun g => h3 ⟨by omega, g.2⟩⟩
theorem jset2_mem {z : Nat} {X : jX} {v : jV} {q : Nat × Value} : ∀ (L : List jV) (off i : Nat), q ∈ jlv z X off (jset2 L i v) → q = (off + i, jval z X v) ∨ (q ∈ jlv z X off L ∧ q.1 ≠ off + i ∧ q.1 ≠ off + i + 1 ∧ ¬ (q.1 + 1 = off + i ∧ q.2.category = 2))
  | [], off, i, h => by simp [jset2, jlv] at h
  | w :: t, off, 0, h => by
    rcases jlv_cons.mp (show q ∈ jlv z X off (v :: jset1 t 0 jN) from h) with ⟨-, h⟩ | h
    · exact Or.inl h
    · have := jlv_ge _ (off + 1) h
      cases t with
      | nil => simp [jset1, jlv] at h
      | cons u t =>
        rcases jlv_cons.mp (show q ∈ jlv z X (off + 1) (jN :: t) from h) with ⟨h, -⟩ | h
        · exact absurd rfl h
        · have := jlv_ge t (off + 1 + 1) h
          exact Or.inr ⟨jlv_cons.mpr (Or.inr (jlv_cons.mpr (Or.inr h))), by omega, by omega, by omega⟩
  | w :: t, off, i + 1, h => by
    rcases jlv_cons.mp (show q ∈ jlv z X off ((bif (i == 0) && jlong w then jN else w) :: jset2 t i v) from h) with ⟨h1, h2⟩ | h
    · obtain ⟨g1, g2⟩ := jkill h1 h2
      refine Or.inr ⟨jlv_cons.mpr (Or.inl g1), ?_, ?_, g2⟩
      · rw [h2]
        show off ≠ off + (i + 1)
        omega
      · rw [h2]
        show off ≠ off + (i + 1) + 1
        omega
    · rcases jset2_mem t (off + 1) i h with h | ⟨h1, h2, h4, h3⟩
      · exact Or.inl (by rw [h]; congr 1; omega)
      · exact Or.inr ⟨jlv_cons.mpr (Or.inr h1), by omega, by omega, fun g => h3 ⟨by omega, g.2⟩⟩
theorem jst1 {z : Nat} {X : jX} {ls : Array Slot} {n : Nat} {L : List jV} {i : Nat} {v : jV} (h : lv_has ls n ((i, jval z X v) :: (jlv z X 0 L).filter (fun q => !(q.1 == i) && !(q.1 + 1 == i && q.2.category == 2)))) : lv_has ls n (jlv z X 0 (jset1 L i v)) := by
  refine ⟨h.1, h.2.1, fun q hq => h.2.2 q ?_⟩
  rcases jset1_mem L 0 i hq with e | ⟨h1, h2, h3⟩
  · rw [e, Nat.zero_add]; exact List.mem_cons_self
  · refine List.mem_cons_of_mem _ (List.mem_filter.mpr ⟨h1, ?_⟩)
    rw [Nat.zero_add] at h2 h3
    by_cases hc : q.2.category = 2
    · have : ¬ q.1 + 1 = i := fun e => h3 ⟨e, hc⟩
      simp [h2, this]
    · simp [h2, hc]
theorem jst2 {z : Nat} {X : jX} {ls : Array Slot} {n : Nat} {L : List jV} {i : Nat} {v : jV} (h : lv_has ls n ((i, jval z X v) :: (jlv z X 0 L).filter (fun q => !(q.1 == i) && (!(q.1 == i + 1) && !(q.1 + 1 == i && q.2.category == 2))))) : lv_has ls n (jlv z X 0 (jset2 L i v)) := by
  refine ⟨h.1, h.2.1, fun q hq => h.2.2 q ?_⟩
  rcases jset2_mem L 0 i hq with e | ⟨h1, h2, h4, h3⟩
  · rw [e, Nat.zero_add]; exact List.mem_cons_self
  · refine List.mem_cons_of_mem _ (List.mem_filter.mpr ⟨h1, ?_⟩)
    rw [Nat.zero_add] at h2 h3 h4
    by_cases hc : q.2.category = 2
    · have : ¬ q.1 + 1 = i := fun e => h3 ⟨e, hc⟩
      simp [h2, h4, this]
    · simp [h2, h4, hc]
theorem jset1_len {v : jV} : ∀ (L : List jV) (i : Nat), (jset1 L i v).length = L.length
  | [], i => rfl
  | w :: t, 0 => rfl
  | w :: t, i + 1 => congrArg (· + 1) (jset1_len t i)
theorem jset2_len {v : jV} : ∀ (L : List jV) (i : Nat), (jset2 L i v).length = L.length
  | [], i => rfl
  | w :: t, 0 => congrArg (· + 1) (jset1_len t 0)
  | w :: t, i + 1 => congrArg (· + 1) (jset2_len t i)
theorem jok_kill {b : Bool} {w : jV} (h : jok w) : jok (bif b then jN else w) := by cases b <;> first | exact h | trivial
theorem jset1_ok {v : jV} (hv : jok v) : ∀ (L : List jV) (i : Nat), jokL L → jokL (jset1 L i v)
  | [], i, h => h
  | w :: t, 0, h => ⟨hv, h.2⟩
  | w :: t, i + 1, h => ⟨jok_kill h.1, jset1_ok hv t i h.2⟩
theorem jset2_ok {v : jV} (hv : jok v) : ∀ (L : List jV) (i : Nat), jokL L → jokL (jset2 L i v)
  | [], i, h => h
  | w :: t, 0, h => ⟨hv, jset1_ok (v := jN) trivial t 0 h.2⟩
  | w :: t, i + 1, h => ⟨jok_kill h.1, jset2_ok hv t i h.2⟩
theorem jokL_at : ∀ {L : List jV} {i : Nat} {v : jV}, jokL L → L[i]? = some v → jok v
  | [], i, v, h, e => by simp at e
  | w :: t, 0, v, h, e => by
    have e1 : w = v := by simpa using e
    subst e1
    exact h.1
  | w :: t, i + 1, v, h, e => jokL_at h.2 (by simpa using e)
theorem jokM_int {μ : jM} (h : jokM μ) {k : Nat} {kd : jKd} (hk : μ.1[k]? = some kd) (h1 : kd.1 ≠ 1) (j : Int) : jIn (μ.2 k j) := (h k j).2.1 (by unfold jlen; rw [List.getD_eq_getElem?_getD, hk]; exact h1)
theorem jokM_long {μ : jM} (h : jokM μ) {k : Nat} {kd : jKd} (hk : μ.1[k]? = some kd) (h1 : kd.1 = 1) (j : Int) : jInL (μ.2 k j) := (h k j).1 (by unfold jlen; rw [List.getD_eq_getElem?_getD, hk]; exact h1)
theorem jokM_upd {G : List jKd} {M : Nat → Int → Int} (h : jokM (G, M)) {k : Nat} {kd : jKd} (hk : G[k]? = some kd) {i x : Int} (hx : (kd.1 = 1 → jInL x) ∧ (kd.1 ≠ 1 → jIn x)) : jokM (G, jupd M k i x) := by
  intro k' j
  have hl := (List.getElem?_eq_some_iff.mp hk).1
  obtain ⟨h1, h2, h3⟩ := h k' j
  dsimp only at h1 h2 h3 ⊢
  unfold jupd
  by_cases e : k' = k ∧ j = i
  · rw [if_pos e]
    obtain ⟨e1, e2⟩ := e
    subst e1
    have e3 : jlen G k' = kd.1 := by unfold jlen; rw [List.getD_eq_getElem?_getD, hk]; rfl
    rw [e3]
    exact ⟨hx.1, hx.2, fun h => absurd hl (Nat.not_lt.mpr h)⟩
  · rw [if_neg e]
    exact ⟨h1, h2, h3⟩
