/-- the bit operations, on whole numbers, by the machine's own -/
def jand (x y : Int) : Int := (Int32.ofInt x &&& Int32.ofInt y).toInt
def jor (x y : Int) : Int := (Int32.ofInt x ||| Int32.ofInt y).toInt
def jxor (x y : Int) : Int := (Int32.ofInt x ^^^ Int32.ofInt y).toInt
def jshl (x y : Int) : Int := (Int32.ofInt x <<< (Int32.ofInt y &&& 31)).toInt
def jshr (x y : Int) : Int := (Int32.ofInt x >>> (Int32.ofInt y &&& 31)).toInt
def jushr (x y : Int) : Int := (((Int32.ofInt x).toUInt32 >>> ((Int32.ofInt y).toUInt32 &&& Int32.toUInt32 31)).toInt32).toInt
theorem jIn_toInt (x : Int32) : jIn x.toInt := by
  have h1 := Int32.le_toInt x
  have h2 := Int32.toInt_lt x
  exact ⟨by omega, by omega⟩
section RULES
variable {l : Launch} {z : Nat} {X : jX} {d : Nat} {mm : jMt} {a : Nat × Nat} {pc : Nat} {L S : List jV} {μ : jM} {Q : Option jV → jM → Prop}
theorem J_iconst {n : Int} (hd : decode mm.2.1 pc = .ok (.iconst n, 1)) (hr : jIn n) (k : J l z X d mm a (pc + 1) L (jI n :: S) μ Q) : J l z X d mm a pc L (S) μ Q := by
  intro D aC p e R s m args below meth c Φ hc he H locs cells slots ls ha
  obtain ⟨hH, hl, hLn, hLo, hSo⟩ := id ha
  refine lv_iconst (v := Int32.ofInt n) hc.1 hc.2.1 hd rfl ?_
  exact k D aC p e R s m args below meth c Φ hc he H locs cells slots ls ⟨hH, hl, hLn, hLo, ⟨hr, hSo⟩⟩
theorem J_bipush {n : Int} (hd : decode mm.2.1 pc = .ok (.bipush n, 2)) (hr : jIn n) (hv : (Int8.ofInt n).toInt32 = Int32.ofInt n) (k : J l z X d mm a (pc + 2) L (jI n :: S) μ Q) : J l z X d mm a pc L (S) μ Q := by
  intro D aC p e R s m args below meth c Φ hc he H locs cells slots ls ha
  obtain ⟨hH, hl, hLn, hLo, hSo⟩ := id ha
  refine lv_bipush (v := Int32.ofInt n) hc.1 hc.2.1 hd hv ?_
  exact k D aC p e R s m args below meth c Φ hc he H locs cells slots ls ⟨hH, hl, hLn, hLo, ⟨hr, hSo⟩⟩
theorem J_sipush {n : Int} (hd : decode mm.2.1 pc = .ok (.sipush n, 3)) (hr : jIn n) (hv : (Int16.ofInt n).toInt32 = Int32.ofInt n) (k : J l z X d mm a (pc + 3) L (jI n :: S) μ Q) : J l z X d mm a pc L (S) μ Q := by
  intro D aC p e R s m args below meth c Φ hc he H locs cells slots ls ha
  obtain ⟨hH, hl, hLn, hLo, hSo⟩ := id ha
  refine lv_sipush (v := Int32.ofInt n) hc.1 hc.2.1 hd hv ?_
  exact k D aC p e R s m args below meth c Φ hc he H locs cells slots ls ⟨hH, hl, hLn, hLo, ⟨hr, hSo⟩⟩
theorem J_lconst {n : Fin 2} {x : Int} (hd : decode mm.2.1 pc = .ok (.lconst n, 1)) (hr : jInL x) (hv : Int64.ofNat (n : Nat) = Int64.ofInt x) (k : J l z X d mm a (pc + 1) L (jL x :: S) μ Q) : J l z X d mm a pc L (S) μ Q := by
  intro D aC p e R s m args below meth c Φ hc he H locs cells slots ls ha
  obtain ⟨hH, hl, hLn, hLo, hSo⟩ := id ha
  refine lv_lconst (v := Int64.ofInt x) hc.1 hc.2.1 hd hv ?_
  exact k D aC p e R s m args below meth c Φ hc he H locs cells slots ls ⟨hH, hl, hLn, hLo, ⟨hr, hSo⟩⟩
theorem J_ldc {index : Nat} {v : Int32} {x : Int} (hd : decode mm.2.1 pc = .ok (.ldc index, 2)) (hw : Jvm.Cond.constant mm.1.cls index v ∈ jW) (hr : jIn x) (hv : v = Int32.ofInt x) (k : J l z X d mm a (pc + 2) L (jI x :: S) μ Q) : J l z X d mm a pc L (S) μ Q := by
  intro D aC p e R s m args below meth c Φ hc he H locs cells slots ls ha
  obtain ⟨hH, hl, hLn, hLo, hSo⟩ := id ha
  refine lv_ldc hc.1 hc.2.1 hc.2.2.2.2.2.1 (hc.2.2.2.2.2.2.2.1 _ hw) hd ?_
  rw [hv]
  exact k D aC p e R s m args below meth c Φ hc he H locs cells slots ls ⟨hH, hl, hLn, hLo, ⟨hr, hSo⟩⟩
theorem J_ldcw {index : Nat} {v : Int32} {x : Int} (hd : decode mm.2.1 pc = .ok (.ldc_w index, 3)) (hw : Jvm.Cond.constant mm.1.cls index v ∈ jW) (hr : jIn x) (hv : v = Int32.ofInt x) (k : J l z X d mm a (pc + 3) L (jI x :: S) μ Q) : J l z X d mm a pc L (S) μ Q := by
  intro D aC p e R s m args below meth c Φ hc he H locs cells slots ls ha
  obtain ⟨hH, hl, hLn, hLo, hSo⟩ := id ha
  refine lv_ldcw hc.1 hc.2.1 hc.2.2.2.2.2.1 (hc.2.2.2.2.2.2.2.1 _ hw) hd ?_
  rw [hv]
  exact k D aC p e R s m args below meth c Φ hc he H locs cells slots ls ⟨hH, hl, hLn, hLo, ⟨hr, hSo⟩⟩
theorem J_ldc2 {index : Nat} {v : Int64} {x : Int} (hd : decode mm.2.1 pc = .ok (.ldc2_w index, 3)) (hw : Jvm.Cond.constantLong mm.1.cls index v ∈ jW) (hr : jInL x) (hv : v = Int64.ofInt x) (k : J l z X d mm a (pc + 3) L (jL x :: S) μ Q) : J l z X d mm a pc L (S) μ Q := by
  intro D aC p e R s m args below meth c Φ hc he H locs cells slots ls ha
  obtain ⟨hH, hl, hLn, hLo, hSo⟩ := id ha
  refine lv_ldc2 hc.1 hc.2.1 hc.2.2.2.2.2.1 (hc.2.2.2.2.2.2.2.1 _ hw) hd ?_
  rw [hv]
  exact k D aC p e R s m args below meth c Φ hc he H locs cells slots ls ⟨hH, hl, hLn, hLo, ⟨hr, hSo⟩⟩
theorem J_iload_n {k0 : Fin 4} {x : Int} (hd : decode mm.2.1 pc = .ok (.iload_n k0, 1)) (hk : L[(k0 : Nat)]? = some (jI x)) (k : J l z X d mm a (pc + 1) L (jI x :: S) μ Q) : J l z X d mm a pc L (S) μ Q := by
  intro D aC p e R s m args below meth c Φ hc he H locs cells slots ls ha
  obtain ⟨hH, hl, hLn, hLo, hSo⟩ := id ha
  refine lv_iload_n hc.1 hc.2.1 hd rfl (jlv_at hl hk (by simp)) ?_
  exact k D aC p e R s m args below meth c Φ hc he H locs cells slots ls ⟨hH, hl, hLn, hLo, ⟨jokL_at hLo hk, hSo⟩⟩
theorem J_iload {i : Nat} {x : Int} (hd : decode mm.2.1 pc = .ok (.iload i, 2)) (hk : L[i]? = some (jI x)) (k : J l z X d mm a (pc + 2) L (jI x :: S) μ Q) : J l z X d mm a pc L (S) μ Q := by
  intro D aC p e R s m args below meth c Φ hc he H locs cells slots ls ha
  obtain ⟨hH, hl, hLn, hLo, hSo⟩ := id ha
  refine lv_iload hc.1 hc.2.1 hd (jlv_at hl hk (by simp)) ?_
  exact k D aC p e R s m args below meth c Φ hc he H locs cells slots ls ⟨hH, hl, hLn, hLo, ⟨jokL_at hLo hk, hSo⟩⟩
theorem J_lload_n {k0 : Fin 4} {x : Int} (hd : decode mm.2.1 pc = .ok (.lload_n k0, 1)) (hk : L[(k0 : Nat)]? = some (jL x)) (k : J l z X d mm a (pc + 1) L (jL x :: S) μ Q) : J l z X d mm a pc L (S) μ Q := by
  intro D aC p e R s m args below meth c Φ hc he H locs cells slots ls ha
  obtain ⟨hH, hl, hLn, hLo, hSo⟩ := id ha
  refine lv_lload_n hc.1 hc.2.1 hd rfl (jlv_at hl hk (by simp)) ?_
  exact k D aC p e R s m args below meth c Φ hc he H locs cells slots ls ⟨hH, hl, hLn, hLo, ⟨jokL_at hLo hk, hSo⟩⟩
theorem J_lload {i : Nat} {x : Int} (hd : decode mm.2.1 pc = .ok (.lload i, 2)) (hk : L[i]? = some (jL x)) (k : J l z X d mm a (pc + 2) L (jL x :: S) μ Q) : J l z X d mm a pc L (S) μ Q := by
  intro D aC p e R s m args below meth c Φ hc he H locs cells slots ls ha
  obtain ⟨hH, hl, hLn, hLo, hSo⟩ := id ha
  refine lv_lload hc.1 hc.2.1 hd (jlv_at hl hk (by simp)) ?_
  exact k D aC p e R s m args below meth c Φ hc he H locs cells slots ls ⟨hH, hl, hLn, hLo, ⟨jokL_at hLo hk, hSo⟩⟩
theorem J_aload_n {k0 : Fin 4} {h : Nat} (hd : decode mm.2.1 pc = .ok (.aload_n k0, 1)) (hk : L[(k0 : Nat)]? = some (jR h)) (k : J l z X d mm a (pc + 1) L (jR h :: S) μ Q) : J l z X d mm a pc L (S) μ Q := by
  intro D aC p e R s m args below meth c Φ hc he H locs cells slots ls ha
  obtain ⟨hH, hl, hLn, hLo, hSo⟩ := id ha
  refine lv_aload_n hc.1 hc.2.1 hd rfl (jlv_at hl hk (by simp)) ?_
  exact k D aC p e R s m args below meth c Φ hc he H locs cells slots ls ⟨hH, hl, hLn, hLo, ⟨trivial, hSo⟩⟩
theorem J_aload {i : Nat} {h : Nat} (hd : decode mm.2.1 pc = .ok (.aload i, 2)) (hk : L[i]? = some (jR h)) (k : J l z X d mm a (pc + 2) L (jR h :: S) μ Q) : J l z X d mm a pc L (S) μ Q := by
  intro D aC p e R s m args below meth c Φ hc he H locs cells slots ls ha
  obtain ⟨hH, hl, hLn, hLo, hSo⟩ := id ha
  refine lv_aload hc.1 hc.2.1 hd (jlv_at hl hk (by simp)) ?_
  exact k D aC p e R s m args below meth c Φ hc he H locs cells slots ls ⟨hH, hl, hLn, hLo, ⟨trivial, hSo⟩⟩
theorem J_aload_nS {k0 : Fin 4}  (hd : decode mm.2.1 pc = .ok (.aload_n k0, 1)) (hk : L[(k0 : Nat)]? = some (jS)) (k : J l z X d mm a (pc + 1) L (jS :: S) μ Q) : J l z X d mm a pc L (S) μ Q := by
  intro D aC p e R s m args below meth c Φ hc he H locs cells slots ls ha
  obtain ⟨hH, hl, hLn, hLo, hSo⟩ := id ha
  refine lv_aload_n hc.1 hc.2.1 hd rfl (jlv_at hl hk (by simp)) ?_
  exact k D aC p e R s m args below meth c Φ hc he H locs cells slots ls ⟨hH, hl, hLn, hLo, ⟨trivial, hSo⟩⟩
theorem J_aloadS {i : Nat}  (hd : decode mm.2.1 pc = .ok (.aload i, 2)) (hk : L[i]? = some (jS)) (k : J l z X d mm a (pc + 2) L (jS :: S) μ Q) : J l z X d mm a pc L (S) μ Q := by
  intro D aC p e R s m args below meth c Φ hc he H locs cells slots ls ha
  obtain ⟨hH, hl, hLn, hLo, hSo⟩ := id ha
  refine lv_aload hc.1 hc.2.1 hd (jlv_at hl hk (by simp)) ?_
  exact k D aC p e R s m args below meth c Φ hc he H locs cells slots ls ⟨hH, hl, hLn, hLo, ⟨trivial, hSo⟩⟩
theorem J_istore_n {k0 : Fin 4} {x : Int} (hd : decode mm.2.1 pc = .ok (.istore_n k0, 1)) (hi : (k0 : Nat) < L.length) (k : J l z X d mm a (pc + 1) (jset1 L (k0 : Nat) (jI x)) S μ Q) : J l z X d mm a pc L (jI x :: S) μ Q := by
  intro D aC p e R s m args below meth c Φ hc he H locs cells slots ls ha
  obtain ⟨hH, hl, hLn, hLo, hSo⟩ := id ha
  refine lv_istore_n hc.1 hc.2.1 hd rfl hl (by rw [← hLn]; exact hi) rfl (fun ls' h' => ?_)
  exact k D aC p e R s m args below meth c Φ hc he H locs cells slots ls' ⟨hH, jst1 (v := jI x) h', (jset1_len L _).trans hLn, jset1_ok (v := jI x) hSo.1 L _ hLo, hSo.2⟩
theorem J_istore {i : Nat} {x : Int} (hd : decode mm.2.1 pc = .ok (.istore i, 2)) (hi : i < L.length) (k : J l z X d mm a (pc + 2) (jset1 L i (jI x)) S μ Q) : J l z X d mm a pc L (jI x :: S) μ Q := by
  intro D aC p e R s m args below meth c Φ hc he H locs cells slots ls ha
  obtain ⟨hH, hl, hLn, hLo, hSo⟩ := id ha
  refine lv_istore hc.1 hc.2.1 hd hl (by rw [← hLn]; exact hi) rfl (fun ls' h' => ?_)
  exact k D aC p e R s m args below meth c Φ hc he H locs cells slots ls' ⟨hH, jst1 (v := jI x) h', (jset1_len L _).trans hLn, jset1_ok (v := jI x) hSo.1 L _ hLo, hSo.2⟩
theorem J_lstore_n {k0 : Fin 4} {x : Int} (hd : decode mm.2.1 pc = .ok (.lstore_n k0, 1)) (hi : (k0 : Nat) + 1 < L.length) (k : J l z X d mm a (pc + 1) (jset2 L (k0 : Nat) (jL x)) S μ Q) : J l z X d mm a pc L (jL x :: S) μ Q := by
  intro D aC p e R s m args below meth c Φ hc he H locs cells slots ls ha
  obtain ⟨hH, hl, hLn, hLo, hSo⟩ := id ha
  refine lv_lstore_n hc.1 hc.2.1 hd rfl hl (by rw [← hLn]; exact hi) rfl (fun ls' h' => ?_)
  exact k D aC p e R s m args below meth c Φ hc he H locs cells slots ls' ⟨hH, jst2 (v := jL x) h', (jset2_len L _).trans hLn, jset2_ok (v := jL x) hSo.1 L _ hLo, hSo.2⟩
theorem J_lstore {i : Nat} {x : Int} (hd : decode mm.2.1 pc = .ok (.lstore i, 2)) (hi : i + 1 < L.length) (k : J l z X d mm a (pc + 2) (jset2 L i (jL x)) S μ Q) : J l z X d mm a pc L (jL x :: S) μ Q := by
  intro D aC p e R s m args below meth c Φ hc he H locs cells slots ls ha
  obtain ⟨hH, hl, hLn, hLo, hSo⟩ := id ha
  refine lv_lstore hc.1 hc.2.1 hd hl (by rw [← hLn]; exact hi) rfl (fun ls' h' => ?_)
  exact k D aC p e R s m args below meth c Φ hc he H locs cells slots ls' ⟨hH, jst2 (v := jL x) h', (jset2_len L _).trans hLn, jset2_ok (v := jL x) hSo.1 L _ hLo, hSo.2⟩
theorem J_astore_n {k0 : Fin 4} {x : Nat} (hd : decode mm.2.1 pc = .ok (.astore_n k0, 1)) (hi : (k0 : Nat) < L.length) (k : J l z X d mm a (pc + 1) (jset1 L (k0 : Nat) (jR x)) S μ Q) : J l z X d mm a pc L (jR x :: S) μ Q := by
  intro D aC p e R s m args below meth c Φ hc he H locs cells slots ls ha
  obtain ⟨hH, hl, hLn, hLo, hSo⟩ := id ha
  refine lv_astore_n hc.1 hc.2.1 hd rfl hl (by rw [← hLn]; exact hi) rfl (fun ls' h' => ?_)
  exact k D aC p e R s m args below meth c Φ hc he H locs cells slots ls' ⟨hH, jst1 (v := jR x) h', (jset1_len L _).trans hLn, jset1_ok (v := jR x) trivial L _ hLo, hSo.2⟩
theorem J_astore {i : Nat} {x : Nat} (hd : decode mm.2.1 pc = .ok (.astore i, 2)) (hi : i < L.length) (k : J l z X d mm a (pc + 2) (jset1 L i (jR x)) S μ Q) : J l z X d mm a pc L (jR x :: S) μ Q := by
  intro D aC p e R s m args below meth c Φ hc he H locs cells slots ls ha
  obtain ⟨hH, hl, hLn, hLo, hSo⟩ := id ha
  refine lv_astore hc.1 hc.2.1 hd hl (by rw [← hLn]; exact hi) rfl (fun ls' h' => ?_)
  exact k D aC p e R s m args below meth c Φ hc he H locs cells slots ls' ⟨hH, jst1 (v := jR x) h', (jset1_len L _).trans hLn, jset1_ok (v := jR x) trivial L _ hLo, hSo.2⟩
theorem J_iinc {i : Nat} {n x : Int} (hd : decode mm.2.1 pc = .ok (.iinc i n, 3)) (hk : L[i]? = some (jI x)) (hn : jIn n) (hr : jIn (x + n)) (k : J l z X d mm a (pc + 3) (jset1 L i (jI (x + n))) S μ Q) : J l z X d mm a pc L S μ Q := by
  intro D aC p e R s m args below meth c Φ hc he H locs cells slots ls ha
  obtain ⟨hH, hl, hLn, hLo, hSo⟩ := id ha
  obtain ⟨q, hq⟩ := List.getElem?_of_mem (jlv_mem (z := z) (X := X) (v := jI x) (by simp) L 0 i hk)
  rw [Nat.zero_add] at hq
  refine lv_iinc (v := Int32.ofInt (x + n)) hc.1 hc.2.1 hd hl hq (j32_add (jokL_at hLo hk) hn hr) (by rw [← hLn]; exact (List.getElem?_eq_some_iff.mp hk).1) rfl (fun ls' h' => ?_)
  exact k D aC p e R s m args below meth c Φ hc he H locs cells slots ls' ⟨hH, jst1 (v := jI (x + n)) h', (jset1_len L _).trans hLn, jset1_ok (v := jI (x + n)) hr L _ hLo, hSo⟩
theorem J_iadd {x y : Int} (hd : decode mm.2.1 pc = .ok (.iadd, 1)) (hr : jIn (x + y)) (k : J l z X d mm a (pc + 1) L (jI (x + y) :: S) μ Q) : J l z X d mm a pc L (jI y :: jI x :: S) μ Q := by
  intro D aC p e R s m args below meth c Φ hc he H locs cells slots ls ha
  obtain ⟨hH, hl, hLn, hLo, hSo⟩ := id ha
  refine lv_iadd hc.1 hc.2.1 hd ?_
  rw [j32_add hSo.2.1 hSo.1 hr]
  exact k D aC p e R s m args below meth c Φ hc he H locs cells slots ls ⟨hH, hl, hLn, hLo, ⟨hr, hSo.2.2⟩⟩
theorem J_ladd {x y : Int} (hd : decode mm.2.1 pc = .ok (.ladd, 1)) (hr : jInL (x + y)) (k : J l z X d mm a (pc + 1) L (jL (x + y) :: S) μ Q) : J l z X d mm a pc L (jL y :: jL x :: S) μ Q := by
  intro D aC p e R s m args below meth c Φ hc he H locs cells slots ls ha
  obtain ⟨hH, hl, hLn, hLo, hSo⟩ := id ha
  refine lv_ladd hc.1 hc.2.1 hd ?_
  rw [j64_add hSo.2.1 hSo.1 hr]
  exact k D aC p e R s m args below meth c Φ hc he H locs cells slots ls ⟨hH, hl, hLn, hLo, ⟨hr, hSo.2.2⟩⟩
theorem J_isub {x y : Int} (hd : decode mm.2.1 pc = .ok (.isub, 1)) (hr : jIn (x - y)) (k : J l z X d mm a (pc + 1) L (jI (x - y) :: S) μ Q) : J l z X d mm a pc L (jI y :: jI x :: S) μ Q := by
  intro D aC p e R s m args below meth c Φ hc he H locs cells slots ls ha
  obtain ⟨hH, hl, hLn, hLo, hSo⟩ := id ha
  refine lv_isub hc.1 hc.2.1 hd ?_
  rw [j32_sub hSo.2.1 hSo.1 hr]
  exact k D aC p e R s m args below meth c Φ hc he H locs cells slots ls ⟨hH, hl, hLn, hLo, ⟨hr, hSo.2.2⟩⟩
theorem J_lsub {x y : Int} (hd : decode mm.2.1 pc = .ok (.lsub, 1)) (hr : jInL (x - y)) (k : J l z X d mm a (pc + 1) L (jL (x - y) :: S) μ Q) : J l z X d mm a pc L (jL y :: jL x :: S) μ Q := by
  intro D aC p e R s m args below meth c Φ hc he H locs cells slots ls ha
  obtain ⟨hH, hl, hLn, hLo, hSo⟩ := id ha
  refine lv_lsub hc.1 hc.2.1 hd ?_
  rw [j64_sub hSo.2.1 hSo.1 hr]
  exact k D aC p e R s m args below meth c Φ hc he H locs cells slots ls ⟨hH, hl, hLn, hLo, ⟨hr, hSo.2.2⟩⟩
theorem J_imul {x y : Int} (hd : decode mm.2.1 pc = .ok (.imul, 1)) (hr : jIn (x * y)) (k : J l z X d mm a (pc + 1) L (jI (x * y) :: S) μ Q) : J l z X d mm a pc L (jI y :: jI x :: S) μ Q := by
  intro D aC p e R s m args below meth c Φ hc he H locs cells slots ls ha
  obtain ⟨hH, hl, hLn, hLo, hSo⟩ := id ha
  refine lv_imul hc.1 hc.2.1 hd ?_
  rw [j32_mul hSo.2.1 hSo.1 hr]
  exact k D aC p e R s m args below meth c Φ hc he H locs cells slots ls ⟨hH, hl, hLn, hLo, ⟨hr, hSo.2.2⟩⟩
theorem J_lmul {x y : Int} (hd : decode mm.2.1 pc = .ok (.lmul, 1)) (hr : jInL (x * y)) (k : J l z X d mm a (pc + 1) L (jL (x * y) :: S) μ Q) : J l z X d mm a pc L (jL y :: jL x :: S) μ Q := by
  intro D aC p e R s m args below meth c Φ hc he H locs cells slots ls ha
  obtain ⟨hH, hl, hLn, hLo, hSo⟩ := id ha
  refine lv_lmul hc.1 hc.2.1 hd ?_
  rw [j64_mul hSo.2.1 hSo.1 hr]
  exact k D aC p e R s m args below meth c Φ hc he H locs cells slots ls ⟨hH, hl, hLn, hLo, ⟨hr, hSo.2.2⟩⟩
theorem J_idiv {x y : Int} (hd : decode mm.2.1 pc = .ok (.idiv, 1)) (h0 : 0 ≤ x) (h1 : 0 < y) (k : J l z X d mm a (pc + 1) L (jI (x / y) :: S) μ Q) : J l z X d mm a pc L (jI y :: jI x :: S) μ Q := by
  intro D aC p e R s m args below meth c Φ hc he H locs cells slots ls ha
  obtain ⟨hH, hl, hLn, hLo, hSo⟩ := id ha
  refine lv_idiv hc.1 hc.2.1 hd (fun q => by rw [j32_0, j32_eq hSo.1 jIn0] at q; omega) ?_
  rw [(j32_div hSo.2.1 hSo.1 h0 h1).1]
  exact k D aC p e R s m args below meth c Φ hc he H locs cells slots ls ⟨hH, hl, hLn, hLo, ⟨(j32_div hSo.2.1 hSo.1 h0 h1).2, hSo.2.2⟩⟩
theorem J_ldiv {x y : Int} (hd : decode mm.2.1 pc = .ok (.ldiv, 1)) (h0 : 0 ≤ x) (h1 : 0 < y) (k : J l z X d mm a (pc + 1) L (jL (x / y) :: S) μ Q) : J l z X d mm a pc L (jL y :: jL x :: S) μ Q := by
  intro D aC p e R s m args below meth c Φ hc he H locs cells slots ls ha
  obtain ⟨hH, hl, hLn, hLo, hSo⟩ := id ha
  refine lv_ldiv hc.1 hc.2.1 hd (fun q => by rw [show (0 : Int64) = Int64.ofInt 0 by decide +kernel, ← Int64.toInt_inj, j64 hSo.1, j64 (by unfold jInL; omega)] at q; omega) ?_
  rw [(j64_div hSo.2.1 hSo.1 h0 h1).1]
  exact k D aC p e R s m args below meth c Φ hc he H locs cells slots ls ⟨hH, hl, hLn, hLo, ⟨(j64_div hSo.2.1 hSo.1 h0 h1).2, hSo.2.2⟩⟩
theorem J_irem {x y : Int} (hd : decode mm.2.1 pc = .ok (.irem, 1)) (h0 : 0 ≤ x) (h1 : 0 < y) (k : J l z X d mm a (pc + 1) L (jI (x % y) :: S) μ Q) : J l z X d mm a pc L (jI y :: jI x :: S) μ Q := by
  intro D aC p e R s m args below meth c Φ hc he H locs cells slots ls ha
  obtain ⟨hH, hl, hLn, hLo, hSo⟩ := id ha
  refine lv_irem hc.1 hc.2.1 hd (fun q => by rw [j32_0, j32_eq hSo.1 jIn0] at q; omega) ?_
  rw [(j32_mod hSo.2.1 hSo.1 h0 h1).1]
  exact k D aC p e R s m args below meth c Φ hc he H locs cells slots ls ⟨hH, hl, hLn, hLo, ⟨(j32_mod hSo.2.1 hSo.1 h0 h1).2, hSo.2.2⟩⟩
theorem J_lrem {x y : Int} (hd : decode mm.2.1 pc = .ok (.lrem, 1)) (h0 : 0 ≤ x) (h1 : 0 < y) (k : J l z X d mm a (pc + 1) L (jL (x % y) :: S) μ Q) : J l z X d mm a pc L (jL y :: jL x :: S) μ Q := by
  intro D aC p e R s m args below meth c Φ hc he H locs cells slots ls ha
  obtain ⟨hH, hl, hLn, hLo, hSo⟩ := id ha
  refine lv_lrem hc.1 hc.2.1 hd (fun q => by rw [show (0 : Int64) = Int64.ofInt 0 by decide +kernel, ← Int64.toInt_inj, j64 hSo.1, j64 (by unfold jInL; omega)] at q; omega) ?_
  rw [(j64_mod hSo.2.1 hSo.1 h0 h1).1]
  exact k D aC p e R s m args below meth c Φ hc he H locs cells slots ls ⟨hH, hl, hLn, hLo, ⟨(j64_mod hSo.2.1 hSo.1 h0 h1).2, hSo.2.2⟩⟩
theorem J_iand {x y : Int} (hd : decode mm.2.1 pc = .ok (.iand, 1)) (k : J l z X d mm a (pc + 1) L (jI (jand x y) :: S) μ Q) : J l z X d mm a pc L (jI y :: jI x :: S) μ Q := by
  intro D aC p e R s m args below meth c Φ hc he H locs cells slots ls ha
  obtain ⟨hH, hl, hLn, hLo, hSo⟩ := id ha
  refine lv_iand hc.1 hc.2.1 hd ?_
  have k1 := k D aC p e R s m args below meth c Φ hc he H locs cells slots ls ⟨hH, hl, hLn, hLo, ⟨jIn_toInt _, hSo.2.2⟩⟩
  simp only [List.map_cons, jval, jand, Int32.ofInt_toInt] at k1
  exact k1
theorem J_ior {x y : Int} (hd : decode mm.2.1 pc = .ok (.ior, 1)) (k : J l z X d mm a (pc + 1) L (jI (jor x y) :: S) μ Q) : J l z X d mm a pc L (jI y :: jI x :: S) μ Q := by
  intro D aC p e R s m args below meth c Φ hc he H locs cells slots ls ha
  obtain ⟨hH, hl, hLn, hLo, hSo⟩ := id ha
  refine lv_ior hc.1 hc.2.1 hd ?_
  have k1 := k D aC p e R s m args below meth c Φ hc he H locs cells slots ls ⟨hH, hl, hLn, hLo, ⟨jIn_toInt _, hSo.2.2⟩⟩
  simp only [List.map_cons, jval, jor, Int32.ofInt_toInt] at k1
  exact k1
theorem J_ixor {x y : Int} (hd : decode mm.2.1 pc = .ok (.ixor, 1)) (k : J l z X d mm a (pc + 1) L (jI (jxor x y) :: S) μ Q) : J l z X d mm a pc L (jI y :: jI x :: S) μ Q := by
  intro D aC p e R s m args below meth c Φ hc he H locs cells slots ls ha
  obtain ⟨hH, hl, hLn, hLo, hSo⟩ := id ha
  refine lv_ixor hc.1 hc.2.1 hd ?_
  have k1 := k D aC p e R s m args below meth c Φ hc he H locs cells slots ls ⟨hH, hl, hLn, hLo, ⟨jIn_toInt _, hSo.2.2⟩⟩
  simp only [List.map_cons, jval, jxor, Int32.ofInt_toInt] at k1
  exact k1
theorem J_ishl {x y : Int} (hd : decode mm.2.1 pc = .ok (.ishl, 1)) (k : J l z X d mm a (pc + 1) L (jI (jshl x y) :: S) μ Q) : J l z X d mm a pc L (jI y :: jI x :: S) μ Q := by
  intro D aC p e R s m args below meth c Φ hc he H locs cells slots ls ha
  obtain ⟨hH, hl, hLn, hLo, hSo⟩ := id ha
  refine lv_ishl hc.1 hc.2.1 hd ?_
  have k1 := k D aC p e R s m args below meth c Φ hc he H locs cells slots ls ⟨hH, hl, hLn, hLo, ⟨jIn_toInt _, hSo.2.2⟩⟩
  simp only [List.map_cons, jval, jshl, Int32.ofInt_toInt] at k1
  exact k1
theorem J_ishr {x y : Int} (hd : decode mm.2.1 pc = .ok (.ishr, 1)) (k : J l z X d mm a (pc + 1) L (jI (jshr x y) :: S) μ Q) : J l z X d mm a pc L (jI y :: jI x :: S) μ Q := by
  intro D aC p e R s m args below meth c Φ hc he H locs cells slots ls ha
  obtain ⟨hH, hl, hLn, hLo, hSo⟩ := id ha
  refine lv_ishr hc.1 hc.2.1 hd ?_
  have k1 := k D aC p e R s m args below meth c Φ hc he H locs cells slots ls ⟨hH, hl, hLn, hLo, ⟨jIn_toInt _, hSo.2.2⟩⟩
  simp only [List.map_cons, jval, jshr, Int32.ofInt_toInt] at k1
  exact k1
theorem J_iushr {x y : Int} (hd : decode mm.2.1 pc = .ok (.iushr, 1)) (k : J l z X d mm a (pc + 1) L (jI (jushr x y) :: S) μ Q) : J l z X d mm a pc L (jI y :: jI x :: S) μ Q := by
  intro D aC p e R s m args below meth c Φ hc he H locs cells slots ls ha
  obtain ⟨hH, hl, hLn, hLo, hSo⟩ := id ha
  refine lv_iushr hc.1 hc.2.1 hd rfl ?_
  have k1 := k D aC p e R s m args below meth c Φ hc he H locs cells slots ls ⟨hH, hl, hLn, hLo, ⟨jIn_toInt _, hSo.2.2⟩⟩
  simp only [List.map_cons, jval, jushr, Int32.ofInt_toInt] at k1
  exact k1
theorem J_i2l {x : Int} (hd : decode mm.2.1 pc = .ok (.i2l, 1)) (k : J l z X d mm a (pc + 1) L (jL x :: S) μ Q) : J l z X d mm a pc L (jI x :: S) μ Q := by
  intro D aC p e R s m args below meth c Φ hc he H locs cells slots ls ha
  obtain ⟨hH, hl, hLn, hLo, hSo⟩ := id ha
  refine lv_i2l (v := Int64.ofInt x) hc.1 hc.2.1 hd (j32_64 hSo.1) ?_
  exact k D aC p e R s m args below meth c Φ hc he H locs cells slots ls ⟨hH, hl, hLn, hLo, ⟨⟨by have := hSo.1.1; omega, by have := hSo.1.2; omega⟩, hSo.2⟩⟩
theorem J_l2i {x : Int} (hd : decode mm.2.1 pc = .ok (.l2i, 1)) (hr : jIn x) (k : J l z X d mm a (pc + 1) L (jI x :: S) μ Q) : J l z X d mm a pc L (jL x :: S) μ Q := by
  intro D aC p e R s m args below meth c Φ hc he H locs cells slots ls ha
  obtain ⟨hH, hl, hLn, hLo, hSo⟩ := id ha
  refine lv_l2i (v := Int32.ofInt x) hc.1 hc.2.1 hd (Int64.toInt32_ofInt) ?_
  exact k D aC p e R s m args below meth c Φ hc he H locs cells slots ls ⟨hH, hl, hLn, hLo, ⟨hr, hSo.2⟩⟩
theorem J_lcmp {x y : Int} (hd : decode mm.2.1 pc = .ok (.lcmp, 1)) (k : J l z X d mm a (pc + 1) L (jI (if y < x then 1 else if x = y then 0 else -1) :: S) μ Q) : J l z X d mm a pc L (jL y :: jL x :: S) μ Q := by
  intro D aC p e R s m args below meth c Φ hc he H locs cells slots ls ha
  obtain ⟨hH, hl, hLn, hLo, hSo⟩ := id ha
  refine W.lcmp hc.1 hc.2.1 hd ?_
  have e9 : lg_cmp (Int64.ofInt x) (Int64.ofInt y) = Int32.ofInt (if y < x then 1 else if x = y then 0 else -1) := by
    have e1 : (Int64.ofInt x > Int64.ofInt y) ↔ y < x := by
      show Int64.ofInt y < Int64.ofInt x ↔ _
      rw [Int64.lt_iff_toInt_lt, j64 hSo.1, j64 hSo.2.1]
    have e2 : (Int64.ofInt x = Int64.ofInt y) ↔ x = y := by rw [← Int64.toInt_inj, j64 hSo.1, j64 hSo.2.1]
    unfold lg_cmp
    simp only [e1, e2]
    by_cases h1 : y < x
    · rw [if_pos h1, if_pos h1]; decide +kernel
    · rw [if_neg h1, if_neg h1]
      by_cases h2 : x = y
      · rw [if_pos h2, if_pos h2]; decide +kernel
      · rw [if_neg h2, if_neg h2]; decide +kernel
  rw [e9]
  refine k D aC p e R s m args below meth c Φ hc he H locs cells slots ls ⟨hH, hl, hLn, hLo, ⟨?_, hSo.2.2⟩⟩
  show jIn _
  unfold jIn
  by_cases h1 : y < x
  · rw [if_pos h1]; omega
  · rw [if_neg h1]
    by_cases h2 : x = y
    · rw [if_pos h2]; omega
    · rw [if_neg h2]; omega
theorem J_dup2_II {x : Int} {y : Int} (hd : decode mm.2.1 pc = .ok (.dup2, 1)) (k : J l z X d mm a (pc + 1) L (jI y :: jI x :: jI y :: jI x :: S) μ Q) : J l z X d mm a pc L (jI y :: jI x :: S) μ Q := by
  intro D aC p e R s m args below meth c Φ hc he H locs cells slots ls ha
  obtain ⟨hH, hl, hLn, hLo, hSo⟩ := id ha
  refine lv_dup2_11 hc.1 hc.2.1 hd rfl rfl ?_
  exact k D aC p e R s m args below meth c Φ hc he H locs cells slots ls ⟨hH, hl, hLn, hLo, ⟨hSo.1, hSo.2.1, hSo⟩⟩
theorem J_dup2_RI {x : Nat} {y : Int} (hd : decode mm.2.1 pc = .ok (.dup2, 1)) (k : J l z X d mm a (pc + 1) L (jI y :: jR x :: jI y :: jR x :: S) μ Q) : J l z X d mm a pc L (jI y :: jR x :: S) μ Q := by
  intro D aC p e R s m args below meth c Φ hc he H locs cells slots ls ha
  obtain ⟨hH, hl, hLn, hLo, hSo⟩ := id ha
  refine lv_dup2_11 hc.1 hc.2.1 hd rfl rfl ?_
  exact k D aC p e R s m args below meth c Φ hc he H locs cells slots ls ⟨hH, hl, hLn, hLo, ⟨hSo.1, hSo.2.1, hSo⟩⟩
theorem J_dup2_RR {x : Nat} {y : Nat} (hd : decode mm.2.1 pc = .ok (.dup2, 1)) (k : J l z X d mm a (pc + 1) L (jR y :: jR x :: jR y :: jR x :: S) μ Q) : J l z X d mm a pc L (jR y :: jR x :: S) μ Q := by
  intro D aC p e R s m args below meth c Φ hc he H locs cells slots ls ha
  obtain ⟨hH, hl, hLn, hLo, hSo⟩ := id ha
  refine lv_dup2_11 hc.1 hc.2.1 hd rfl rfl ?_
  exact k D aC p e R s m args below meth c Φ hc he H locs cells slots ls ⟨hH, hl, hLn, hLo, ⟨hSo.1, hSo.2.1, hSo⟩⟩
theorem J_dupI {x : Int} (hd : decode mm.2.1 pc = .ok (.dup, 1)) (k : J l z X d mm a (pc + 1) L (jI x :: jI x :: S) μ Q) : J l z X d mm a pc L (jI x :: S) μ Q := by
  intro D aC p e R s m args below meth c Φ hc he H locs cells slots ls ha
  obtain ⟨hH, hl, hLn, hLo, hSo⟩ := id ha
  refine lv_dup hc.1 hc.2.1 hd rfl ?_
  exact k D aC p e R s m args below meth c Φ hc he H locs cells slots ls ⟨hH, hl, hLn, hLo, ⟨hSo.1, hSo⟩⟩
theorem J_dupR {x : Nat} (hd : decode mm.2.1 pc = .ok (.dup, 1)) (k : J l z X d mm a (pc + 1) L (jR x :: jR x :: S) μ Q) : J l z X d mm a pc L (jR x :: S) μ Q := by
  intro D aC p e R s m args below meth c Φ hc he H locs cells slots ls ha
  obtain ⟨hH, hl, hLn, hLo, hSo⟩ := id ha
  refine lv_dup hc.1 hc.2.1 hd rfl ?_
  exact k D aC p e R s m args below meth c Φ hc he H locs cells slots ls ⟨hH, hl, hLn, hLo, ⟨hSo.1, hSo⟩⟩
theorem J_if_eq {x off : Int} {tgt : Nat} (hd : decode mm.2.1 pc = .ok (.ifCond .eq off, 3)) (ht : (pc : Int) + off = (tgt : Int)) (kt : x = 0 → J l z X d mm a tgt L S μ Q) (kf : x ≠ 0 → J l z X d mm a (pc + 3) L S μ Q) : J l z X d mm a pc L (jI x :: S) μ Q := by
  intro D aC p e R s m args below meth c Φ hc he H locs cells slots ls ha
  obtain ⟨hH, hl, hLn, hLo, hSo⟩ := id ha
  have e9 := (j32_eq hSo.1 jIn0)
  rw [← j32_0] at e9
  refine lv_if_eq hc.1 hc.2.1 hd ht (fun q => kt (by rw [e9] at q; omega) D aC p e R s m args below meth c Φ hc he H locs cells slots ls ⟨hH, hl, hLn, hLo, hSo.2⟩) (fun q => kf (by rw [e9] at q; omega) D aC p e R s m args below meth c Φ hc he H locs cells slots ls ⟨hH, hl, hLn, hLo, hSo.2⟩)
theorem J_if_ne {x off : Int} {tgt : Nat} (hd : decode mm.2.1 pc = .ok (.ifCond .ne off, 3)) (ht : (pc : Int) + off = (tgt : Int)) (kt : x ≠ 0 → J l z X d mm a tgt L S μ Q) (kf : x = 0 → J l z X d mm a (pc + 3) L S μ Q) : J l z X d mm a pc L (jI x :: S) μ Q := by
  intro D aC p e R s m args below meth c Φ hc he H locs cells slots ls ha
  obtain ⟨hH, hl, hLn, hLo, hSo⟩ := id ha
  have e9 := (j32_eq hSo.1 jIn0)
  rw [← j32_0] at e9
  refine lv_if_ne hc.1 hc.2.1 hd ht (fun q => kt (by rw [e9] at q; omega) D aC p e R s m args below meth c Φ hc he H locs cells slots ls ⟨hH, hl, hLn, hLo, hSo.2⟩) (fun q => kf (by rw [e9] at q; omega) D aC p e R s m args below meth c Φ hc he H locs cells slots ls ⟨hH, hl, hLn, hLo, hSo.2⟩)
theorem J_if_lt {x off : Int} {tgt : Nat} (hd : decode mm.2.1 pc = .ok (.ifCond .lt off, 3)) (ht : (pc : Int) + off = (tgt : Int)) (kt : x < 0 → J l z X d mm a tgt L S μ Q) (kf : 0 ≤ x → J l z X d mm a (pc + 3) L S μ Q) : J l z X d mm a pc L (jI x :: S) μ Q := by
  intro D aC p e R s m args below meth c Φ hc he H locs cells slots ls ha
  obtain ⟨hH, hl, hLn, hLo, hSo⟩ := id ha
  have e9 := (j32_lt hSo.1 jIn0)
  rw [← j32_0] at e9
  refine lv_if_lt hc.1 hc.2.1 hd ht (fun q => kt (by rw [e9] at q; omega) D aC p e R s m args below meth c Φ hc he H locs cells slots ls ⟨hH, hl, hLn, hLo, hSo.2⟩) (fun q => kf (by rw [e9] at q; omega) D aC p e R s m args below meth c Φ hc he H locs cells slots ls ⟨hH, hl, hLn, hLo, hSo.2⟩)
theorem J_if_ge {x off : Int} {tgt : Nat} (hd : decode mm.2.1 pc = .ok (.ifCond .ge off, 3)) (ht : (pc : Int) + off = (tgt : Int)) (kt : 0 ≤ x → J l z X d mm a tgt L S μ Q) (kf : x < 0 → J l z X d mm a (pc + 3) L S μ Q) : J l z X d mm a pc L (jI x :: S) μ Q := by
  intro D aC p e R s m args below meth c Φ hc he H locs cells slots ls ha
  obtain ⟨hH, hl, hLn, hLo, hSo⟩ := id ha
  have e9 := (j32_le jIn0 hSo.1)
  rw [← j32_0] at e9
  refine lv_if_ge hc.1 hc.2.1 hd ht (fun q => kt (by rw [e9] at q; omega) D aC p e R s m args below meth c Φ hc he H locs cells slots ls ⟨hH, hl, hLn, hLo, hSo.2⟩) (fun q => kf (by rw [e9] at q; omega) D aC p e R s m args below meth c Φ hc he H locs cells slots ls ⟨hH, hl, hLn, hLo, hSo.2⟩)
theorem J_if_gt {x off : Int} {tgt : Nat} (hd : decode mm.2.1 pc = .ok (.ifCond .gt off, 3)) (ht : (pc : Int) + off = (tgt : Int)) (kt : 0 < x → J l z X d mm a tgt L S μ Q) (kf : x ≤ 0 → J l z X d mm a (pc + 3) L S μ Q) : J l z X d mm a pc L (jI x :: S) μ Q := by
  intro D aC p e R s m args below meth c Φ hc he H locs cells slots ls ha
  obtain ⟨hH, hl, hLn, hLo, hSo⟩ := id ha
  have e9 := (j32_lt jIn0 hSo.1)
  rw [← j32_0] at e9
  refine lv_if_gt hc.1 hc.2.1 hd ht (fun q => kt (by rw [e9] at q; omega) D aC p e R s m args below meth c Φ hc he H locs cells slots ls ⟨hH, hl, hLn, hLo, hSo.2⟩) (fun q => kf (by rw [e9] at q; omega) D aC p e R s m args below meth c Φ hc he H locs cells slots ls ⟨hH, hl, hLn, hLo, hSo.2⟩)
theorem J_if_le {x off : Int} {tgt : Nat} (hd : decode mm.2.1 pc = .ok (.ifCond .le off, 3)) (ht : (pc : Int) + off = (tgt : Int)) (kt : x ≤ 0 → J l z X d mm a tgt L S μ Q) (kf : 0 < x → J l z X d mm a (pc + 3) L S μ Q) : J l z X d mm a pc L (jI x :: S) μ Q := by
  intro D aC p e R s m args below meth c Φ hc he H locs cells slots ls ha
  obtain ⟨hH, hl, hLn, hLo, hSo⟩ := id ha
  have e9 := (j32_le hSo.1 jIn0)
  rw [← j32_0] at e9
  refine lv_if_le hc.1 hc.2.1 hd ht (fun q => kt (by rw [e9] at q; omega) D aC p e R s m args below meth c Φ hc he H locs cells slots ls ⟨hH, hl, hLn, hLo, hSo.2⟩) (fun q => kf (by rw [e9] at q; omega) D aC p e R s m args below meth c Φ hc he H locs cells slots ls ⟨hH, hl, hLn, hLo, hSo.2⟩)
theorem J_icmp_eq {x y off : Int} {tgt : Nat} (hd : decode mm.2.1 pc = .ok (.if_icmp .eq off, 3)) (ht : (pc : Int) + off = (tgt : Int)) (kt : x = y → J l z X d mm a tgt L S μ Q) (kf : x ≠ y → J l z X d mm a (pc + 3) L S μ Q) : J l z X d mm a pc L (jI y :: jI x :: S) μ Q := by
  intro D aC p e R s m args below meth c Φ hc he H locs cells slots ls ha
  obtain ⟨hH, hl, hLn, hLo, hSo⟩ := id ha
  have e9 := (j32_eq hSo.2.1 hSo.1)
  refine lv_icmp_eq hc.1 hc.2.1 hd ht (fun q => kt (by rw [e9] at q; omega) D aC p e R s m args below meth c Φ hc he H locs cells slots ls ⟨hH, hl, hLn, hLo, hSo.2.2⟩) (fun q => kf (by rw [e9] at q; omega) D aC p e R s m args below meth c Φ hc he H locs cells slots ls ⟨hH, hl, hLn, hLo, hSo.2.2⟩)
theorem J_icmp_ne {x y off : Int} {tgt : Nat} (hd : decode mm.2.1 pc = .ok (.if_icmp .ne off, 3)) (ht : (pc : Int) + off = (tgt : Int)) (kt : x ≠ y → J l z X d mm a tgt L S μ Q) (kf : x = y → J l z X d mm a (pc + 3) L S μ Q) : J l z X d mm a pc L (jI y :: jI x :: S) μ Q := by
  intro D aC p e R s m args below meth c Φ hc he H locs cells slots ls ha
  obtain ⟨hH, hl, hLn, hLo, hSo⟩ := id ha
  have e9 := (j32_eq hSo.2.1 hSo.1)
  refine lv_icmp_ne hc.1 hc.2.1 hd ht (fun q => kt (by rw [e9] at q; omega) D aC p e R s m args below meth c Φ hc he H locs cells slots ls ⟨hH, hl, hLn, hLo, hSo.2.2⟩) (fun q => kf (by rw [e9] at q; omega) D aC p e R s m args below meth c Φ hc he H locs cells slots ls ⟨hH, hl, hLn, hLo, hSo.2.2⟩)
theorem J_icmp_lt {x y off : Int} {tgt : Nat} (hd : decode mm.2.1 pc = .ok (.if_icmp .lt off, 3)) (ht : (pc : Int) + off = (tgt : Int)) (kt : x < y → J l z X d mm a tgt L S μ Q) (kf : y ≤ x → J l z X d mm a (pc + 3) L S μ Q) : J l z X d mm a pc L (jI y :: jI x :: S) μ Q := by
  intro D aC p e R s m args below meth c Φ hc he H locs cells slots ls ha
  obtain ⟨hH, hl, hLn, hLo, hSo⟩ := id ha
  have e9 := (j32_lt hSo.2.1 hSo.1)
  refine lv_icmp_lt hc.1 hc.2.1 hd ht (fun q => kt (by rw [e9] at q; omega) D aC p e R s m args below meth c Φ hc he H locs cells slots ls ⟨hH, hl, hLn, hLo, hSo.2.2⟩) (fun q => kf (by rw [e9] at q; omega) D aC p e R s m args below meth c Φ hc he H locs cells slots ls ⟨hH, hl, hLn, hLo, hSo.2.2⟩)
theorem J_icmp_ge {x y off : Int} {tgt : Nat} (hd : decode mm.2.1 pc = .ok (.if_icmp .ge off, 3)) (ht : (pc : Int) + off = (tgt : Int)) (kt : y ≤ x → J l z X d mm a tgt L S μ Q) (kf : x < y → J l z X d mm a (pc + 3) L S μ Q) : J l z X d mm a pc L (jI y :: jI x :: S) μ Q := by
  intro D aC p e R s m args below meth c Φ hc he H locs cells slots ls ha
  obtain ⟨hH, hl, hLn, hLo, hSo⟩ := id ha
  have e9 := (j32_le hSo.1 hSo.2.1)
  refine lv_icmp_ge hc.1 hc.2.1 hd ht (fun q => kt (by rw [e9] at q; omega) D aC p e R s m args below meth c Φ hc he H locs cells slots ls ⟨hH, hl, hLn, hLo, hSo.2.2⟩) (fun q => kf (by rw [e9] at q; omega) D aC p e R s m args below meth c Φ hc he H locs cells slots ls ⟨hH, hl, hLn, hLo, hSo.2.2⟩)
theorem J_icmp_gt {x y off : Int} {tgt : Nat} (hd : decode mm.2.1 pc = .ok (.if_icmp .gt off, 3)) (ht : (pc : Int) + off = (tgt : Int)) (kt : y < x → J l z X d mm a tgt L S μ Q) (kf : x ≤ y → J l z X d mm a (pc + 3) L S μ Q) : J l z X d mm a pc L (jI y :: jI x :: S) μ Q := by
  intro D aC p e R s m args below meth c Φ hc he H locs cells slots ls ha
  obtain ⟨hH, hl, hLn, hLo, hSo⟩ := id ha
  have e9 := (j32_lt hSo.1 hSo.2.1)
  refine lv_icmp_gt hc.1 hc.2.1 hd ht (fun q => kt (by rw [e9] at q; omega) D aC p e R s m args below meth c Φ hc he H locs cells slots ls ⟨hH, hl, hLn, hLo, hSo.2.2⟩) (fun q => kf (by rw [e9] at q; omega) D aC p e R s m args below meth c Φ hc he H locs cells slots ls ⟨hH, hl, hLn, hLo, hSo.2.2⟩)
theorem J_icmp_le {x y off : Int} {tgt : Nat} (hd : decode mm.2.1 pc = .ok (.if_icmp .le off, 3)) (ht : (pc : Int) + off = (tgt : Int)) (kt : x ≤ y → J l z X d mm a tgt L S μ Q) (kf : y < x → J l z X d mm a (pc + 3) L S μ Q) : J l z X d mm a pc L (jI y :: jI x :: S) μ Q := by
  intro D aC p e R s m args below meth c Φ hc he H locs cells slots ls ha
  obtain ⟨hH, hl, hLn, hLo, hSo⟩ := id ha
  have e9 := (j32_le hSo.2.1 hSo.1)
  refine lv_icmp_le hc.1 hc.2.1 hd ht (fun q => kt (by rw [e9] at q; omega) D aC p e R s m args below meth c Φ hc he H locs cells slots ls ⟨hH, hl, hLn, hLo, hSo.2.2⟩) (fun q => kf (by rw [e9] at q; omega) D aC p e R s m args below meth c Φ hc he H locs cells slots ls ⟨hH, hl, hLn, hLo, hSo.2.2⟩)
theorem J_goto {off : Int} {tgt : Nat} (hd : decode mm.2.1 pc = .ok (.goto off, 3)) (ht : (pc : Int) + off = (tgt : Int)) (k : J l z X d mm a tgt L S μ Q) : J l z X d mm a pc L S μ Q := by
  intro D aC p e R s m args below meth c Φ hc he H locs cells slots ls ha
  obtain ⟨hH, hl, hLn, hLo, hSo⟩ := id ha
  exact lv_goto hc.1 hc.2.1 hd ht (k D aC p e R s m args below meth c Φ hc he H locs cells slots ls ⟨hH, hl, hLn, hLo, hSo⟩)
theorem J_switch {dflt lo hi x : Int} {offs : Array Int} {len : Nat} {T : Nat → Nat} {tgt : Nat} (hd : decode mm.2.1 pc = .ok (.tableswitch dflt lo hi offs, len)) (ht : (pc : Int) + dflt = (tgt : Int)) (hT : ∀ k : Nat, lo + (k : Int) ≤ hi → ∃ off : Int, offs[k]? = some off ∧ (pc : Int) + off = (T k : Int))
    (kd : (x < lo ∨ hi < x) → J l z X d mm a tgt L S μ Q) (ki : ∀ k : Nat, lo + (k : Int) ≤ hi → x = lo + (k : Int) → J l z X d mm a (T k) L S μ Q) : J l z X d mm a pc L (jI x :: S) μ Q := by
  intro D aC p e R s m args below meth c Φ hc he H locs cells slots ls ha
  obtain ⟨hH, hl, hLn, hLo, hSo⟩ := id ha
  by_cases q : x < lo ∨ hi < x
  · exact lv_tableOut hc.1 hc.2.1 hd (by rw [j32 hSo.1]; exact q) ht (kd q D aC p e R s m args below meth c Φ hc he H locs cells slots ls ⟨hH, hl, hLn, hLo, hSo.2⟩)
  · have e9 : x = lo + ((x - lo).toNat : Int) := by omega
    obtain ⟨off, h1, h2⟩ := hT (x - lo).toNat (by omega)
    exact lv_tableIn hc.1 hc.2.1 hd (by rw [j32 hSo.1]; omega) (by rw [j32 hSo.1]; omega) (by rw [j32 hSo.1]; exact h1) h2 (ki (x - lo).toNat (by omega) e9 D aC p e R s m args below meth c Φ hc he H locs cells slots ls ⟨hH, hl, hLn, hLo, hSo.2⟩)
theorem J_vret (hd : decode mm.2.1 pc = .ok (.return_, 1)) (hr : mm.2.2.2.1 = none) (k : Q none μ) : J l z X d mm a pc L [] μ Q := fun D aC p e R s m args below meth c Φ hc he H locs cells slots ls ha => he none μ k a L H locs cells slots ls pc ha ⟨hr, hd⟩
theorem J_iret {x : Int} (hd : decode mm.2.1 pc = .ok (.ireturn, 1)) (hr : mm.2.2.2.1 = some .int) (k : Q (some (jI x)) μ) : J l z X d mm a pc L [jI x] μ Q := fun D aC p e R s m args below meth c Φ hc he H locs cells slots ls ha => he (some (jI x)) μ k a L H locs cells slots ls pc ha ⟨Or.inl hr, hd⟩
theorem J_zret {x : Int} (hd : decode mm.2.1 pc = .ok (.ireturn, 1)) (hr : mm.2.2.2.1 = some .boolean) (hx : x = 0 ∨ x = 1) (k : Q (some (jI x)) μ) : J l z X d mm a pc L [jI x] μ Q := fun D aC p e R s m args below meth c Φ hc he H locs cells slots ls ha => he (some (jI x)) μ k a L H locs cells slots ls pc ha ⟨Or.inr ⟨hr, hx⟩, hd⟩
theorem J_lret {x : Int} (hd : decode mm.2.1 pc = .ok (.lreturn, 1)) (hr : mm.2.2.2.1 = some .long) (k : Q (some (jL x)) μ) : J l z X d mm a pc L [jL x] μ Q := fun D aC p e R s m args below meth c Φ hc he H locs cells slots ls ha => he (some (jL x)) μ k a L H locs cells slots ls pc ha ⟨hr, hd⟩
/-- what the ranges say, for a proof that wants it -/
theorem J_known (k : jokL L → jokL S → jokM μ → J l z X d mm a pc L S μ Q) : J l z X d mm a pc L S μ Q := fun D aC p e R s m args below meth c Φ hc he H locs cells slots ls ha => k ha.2.2.2.1 ha.2.2.2.2 ha.1.2.2.2.2.2 D aC p e R s m args below meth c Φ hc he H locs cells slots ls ha
theorem J_mono {Q' : Option jV → jM → Prop} (h : ∀ r μ, Q' r μ → Q r μ) (k : J l z X d mm a pc L S μ Q') : J l z X d mm a pc L S μ Q := fun D aC p e R s m args below meth c Φ hc he H locs cells slots ls ha => k D aC p e R s m args below meth c Φ hc (fun r μ q => he r μ (h r μ q)) H locs cells slots ls ha
end RULES
