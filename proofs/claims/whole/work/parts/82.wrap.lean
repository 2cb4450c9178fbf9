/-! ## an addition that may run over -/
section WRAP
variable {l : Launch} {z : Nat} {X : jX} {d : Nat} {mm : jMt} {a : Nat × Nat} {pc : Nat} {L S : List jV} {μ : jM} {Q : Option jV → jM → Prop}
theorem J_iaddW {x y : Int} (hd : decode mm.2.1 pc = .ok (.iadd, 1)) (k : ∀ w : Int, jIn w → (jIn (x + y) → w = x + y) → J l z X d mm a (pc + 1) L (jI w :: S) μ Q) : J l z X d mm a pc L (jI y :: jI x :: S) μ Q := by
  intro D aC p e R s m args below meth c Φ hc he H locs cells slots ls ha
  obtain ⟨hH, hl, hLn, hLo, hSo⟩ := id ha
  refine lv_iadd hc.1 hc.2.1 hd ?_
  have hw : jIn (Int32.ofInt x + Int32.ofInt y).toInt := by
    have h1 := Int32.le_toInt (Int32.ofInt x + Int32.ofInt y)
    have h2 := Int32.toInt_lt (Int32.ofInt x + Int32.ofInt y)
    exact ⟨by omega, by omega⟩
  have he2 : Int32.ofInt x + Int32.ofInt y = Int32.ofInt (Int32.ofInt x + Int32.ofInt y).toInt := (Int32.ofInt_toInt _).symm
  rw [he2]
  exact k _ hw (fun g => by rw [j32_add hSo.2.1 hSo.1 g, j32 g]) D aC p e R s m args below meth c Φ hc he H locs cells slots ls ⟨hH, hl, hLn, hLo, ⟨hw, hSo.2.2⟩⟩
end WRAP
theorem b2_X10_halvesBy_24 {l : Launch} {z d : Nat} {X : jX} {M : Nat → Int → Int} {Q : Option jV → jM → Prop} {x1 : Int} {x2 : Int} {x3 : Int} {x4 : Int} {x5 : Int} {x6 : Int} {t0 : Int}  (s1 : 0 ≤ t0 → 0 ≤ x4 ∧ x4 < 27) (s2 : 0 ≤ t0 → jIn (x6 - 1)) (s3 : 0 ≤ t0 → jIn (17576 * (x6 - 1))) (s4 : 0 ≤ t0 → jIn ((17576 * (x6 - 1)) + t0)) (s5 : 0 ≤ t0 → 0 ≤ ((17576 * (x6 - 1)) + t0)) (s6 : 0 ≤ t0 → ((17576 * (x6 - 1)) + t0) < 123032) (k1 : 0 ≤ t0 → ∀ w : Int, jIn w → (jIn ((x4 / 9 + x4 / 3 % 3 + x4 % 3) + (M 114 ((17576 * (x6 - 1)) + t0))) → w = (x4 / 9 + x4 / 3 % 3 + x4 % 3) + (M 114 ((17576 * (x6 - 1)) + t0))) → Q (some (jI w)) (jG, M)) (k2 : t0 < 0 → Q (some (jI 1000)) (jG, M)) : J l z X (d + 2) mX10_halvesBy (0, 0) 24 [jR 96, jI x1, jI x2, jI x3, jI x4, jI x5, jI x6, jN] [jI t0] (jG, M) Q :=
  (J_istore dX10_halvesBy_24 (Nat.le_of_ble_eq_true rfl) (J_iload dX10_halvesBy_26 rfl (J_if_ge dX10_halvesBy_28 (tgt := 37) (by decide) (fun c1 => (J_iload dX10_halvesBy_37 rfl (J_callS (a1 := (0, 0)) (a2 := (0, 0)) (mm' := mX10_halvesOf) (S := []) [jI x4] md_X10_halvesOf is_X10_halvesOf dX10_halvesBy_39 wm_X10_215 rfl rfl (Nat.le_of_ble_eq_true rfl) (Nat.le_of_ble_eq_true rfl) rfl (c_X10_halvesOf  (s1 c1) (J_aload_n dX10_halvesBy_42 rfl (J_getR (k := 29) jcl_X10 dX10_halvesBy_43 wf_X10_62 g_96 (Nat.le_of_ble_eq_true rfl) rfl rfl (J_sipush dX10_halvesBy_46 jc_17576 jsp_17576 (J_iload dX10_halvesBy_49 rfl (J_iconst dX10_halvesBy_51 jc_1 (J_isub dX10_halvesBy_52 (s2 c1) (J_imul dX10_halvesBy_53 (s3 c1) (J_iload dX10_halvesBy_54 rfl (J_iadd dX10_halvesBy_56 (s4 c1) (J_iald dX10_halvesBy_57 g_114 (s5 c1) (s6 c1) (J_iaddW dX10_halvesBy_58 (fun w w1 w2 => (J_iret dX10_halvesBy_59 rfl (k1 c1 w w1 w2)))))))))))))))))) (fun c1 => (J_sipush dX10_halvesBy_31 jc_1000 jsp_1000 (J_goto dX10_halvesBy_34 (tgt := 59) (by decide) (J_iret dX10_halvesBy_59 rfl (k2 c1))))))))
