set_option maxRecDepth 100000 in
theorem mi_J_nanD : MI yJxe99ae_isNaN_b9ae7 cJxe99ae_isNaN_b9ae7 2 (some .boolean) 1 := ⟨in_at 91 (by decide +kernel) (by decide +kernel), in_at 1457 (by decide +kernel) (by decide +kernel), by decide, by decide, by decide +kernel⟩
set_option maxRecDepth 100000 in
theorem ss_J_nanD : Cond.static yJxe99ae_isNaN_b9ae7 ∈ wAll := in_at 1456 (by decide +kernel) (by decide +kernel)
set_option maxRecDepth 100000 in
theorem mi_J_dbits : MI yJxe99ae_doubleToLongBits_ccdee cJxe99ae_doubleToLongBits_ccdee 2 (some .long) 1 := ⟨in_at 91 (by decide +kernel) (by decide +kernel), in_at 1454 (by decide +kernel) (by decide +kernel), by decide, by decide, by decide +kernel⟩
set_option maxRecDepth 100000 in
theorem ss_J_dbits : Cond.static yJxe99ae_doubleToLongBits_ccdee ∈ wAll := in_at 1453 (by decide +kernel) (by decide +kernel)
set_option maxRecDepth 100000 in
theorem mi_J_nanF : MI yJxf58ca_isNaN_12338 cJxf58ca_isNaN_12338 1 (some .boolean) 1 := ⟨in_at 92 (by decide +kernel) (by decide +kernel), in_at 1467 (by decide +kernel) (by decide +kernel), by decide, by decide, by decide +kernel⟩
set_option maxRecDepth 100000 in
theorem ss_J_nanF : Cond.static yJxf58ca_isNaN_12338 ∈ wAll := in_at 1466 (by decide +kernel) (by decide +kernel)
set_option maxRecDepth 100000 in
theorem mi_J_fbits : MI yJxf58ca_floatToIntBits_5c35a cJxf58ca_floatToIntBits_5c35a 1 (some .int) 1 := ⟨in_at 92 (by decide +kernel) (by decide +kernel), in_at 1464 (by decide +kernel) (by decide +kernel), by decide, by decide, by decide +kernel⟩
set_option maxRecDepth 100000 in
theorem ss_J_fbits : Cond.static yJxf58ca_floatToIntBits_5c35a ∈ wAll := in_at 1463 (by decide +kernel) (by decide +kernel)
set_option maxRecDepth 100000 in
theorem ml_X8_286 : Cond.methodLink RX8 286 yJxe99ae_doubleToLongBits_ccdee ∈ wAll := in_at 1452 (by decide +kernel) (by decide +kernel)
set_option maxRecDepth 100000 in
theorem ml_JD_122 : Cond.methodLink RJxe99ae 122 yJxe99ae_isNaN_b9ae7 ∈ wAll := in_at 1455 (by decide +kernel) (by decide +kernel)
set_option maxRecDepth 100000 in
theorem ml_X8_292 : Cond.methodLink RX8 292 yJxf58ca_floatToIntBits_5c35a ∈ wAll := in_at 1462 (by decide +kernel) (by decide +kernel)
set_option maxRecDepth 100000 in
theorem ml_JF_59 : Cond.methodLink RJxf58ca 59 yJxf58ca_isNaN_12338 ∈ wAll := in_at 1465 (by decide +kernel) (by decide +kernel)
set_option maxRecDepth 100000 in
theorem nn_rawD : Cond.native ⟨"java/lang/Double", "doubleToRawLongBits", "(D)J"⟩ ∈ wAll := in_at 1460 (by decide +kernel) (by decide +kernel)
set_option maxRecDepth 100000 in
theorem ns_rawD : Cond.static ⟨"java/lang/Double", "doubleToRawLongBits", "(D)J"⟩ ∈ wAll := in_at 1459 (by decide +kernel) (by decide +kernel)
set_option maxRecDepth 100000 in
theorem ni_rawD : Cond.initialized "java/lang/Double" ∈ wAll := in_at 91 (by decide +kernel) (by decide +kernel)
set_option maxRecDepth 100000 in
theorem nl_JD_134 : Cond.methodLink RJxe99ae 134 ⟨"java/lang/Double", "doubleToRawLongBits", "(D)J"⟩ ∈ wAll := in_at 1458 (by decide +kernel) (by decide +kernel)
set_option maxRecDepth 100000 in
theorem nn_rawF : Cond.native ⟨"java/lang/Float", "floatToRawIntBits", "(F)I"⟩ ∈ wAll := in_at 1470 (by decide +kernel) (by decide +kernel)
set_option maxRecDepth 100000 in
theorem ns_rawF : Cond.static ⟨"java/lang/Float", "floatToRawIntBits", "(F)I"⟩ ∈ wAll := in_at 1469 (by decide +kernel) (by decide +kernel)
set_option maxRecDepth 100000 in
theorem ni_rawF : Cond.initialized "java/lang/Float" ∈ wAll := in_at 92 (by decide +kernel) (by decide +kernel)
set_option maxRecDepth 100000 in
theorem nl_JF_74 : Cond.methodLink RJxf58ca 74 ⟨"java/lang/Float", "floatToRawIntBits", "(F)I"⟩ ∈ wAll := in_at 1468 (by decide +kernel) (by decide +kernel)
set_option maxRecDepth 100000 in
theorem nn_cpy : Cond.native arraycopyName ∈ wAll := in_at 408 (by decide +kernel) (by decide +kernel)
set_option maxRecDepth 100000 in
theorem ns_cpy : Cond.static arraycopyName ∈ wAll := in_at 407 (by decide +kernel) (by decide +kernel)
set_option maxRecDepth 100000 in
theorem ni_cpy : Cond.initialized "java/lang/System" ∈ wAll := in_at 88 (by decide +kernel) (by decide +kernel)
set_option maxRecDepth 100000 in
theorem nl_X5_58 : Cond.methodLink RX5 58 arraycopyName ∈ wAll := in_at 406 (by decide +kernel) (by decide +kernel)
set_option maxRecDepth 100000 in
theorem nl_X6_29 : Cond.methodLink RX6 29 arraycopyName ∈ wAll := in_at 413 (by decide +kernel) (by decide +kernel)
set_option maxRecDepth 100000 in
theorem nl_X4_43 : Cond.methodLink RX4 43 arraycopyName ∈ wAll := in_at 418 (by decide +kernel) (by decide +kernel)
set_option maxRecDepth 100000 in
theorem nl_X3_56 : Cond.methodLink RX3 56 arraycopyName ∈ wAll := in_at 423 (by decide +kernel) (by decide +kernel)
set_option maxRecDepth 100000 in
theorem nl_X1_32 : Cond.methodLink RX1 32 arraycopyName ∈ wAll := in_at 432 (by decide +kernel) (by decide +kernel)
section RJDK
variable {C : Cx} {cc : ByteArray} {own : String} {R : Room} {nL : Nat} {pc : Nat} {lv : LV} {st : List SV} {u : Mem} {c z : Nat}
theorem cat_sum (st : List SV) : ((st.map toV).map fun v => v.category).sum = (st.map ca_t).sum := by
  congr 1
  rw [List.map_map]
  exact List.map_congr_left fun v _ => toV_cat v
theorem r_fcmp (hC : CxOK C cc own R nL) {i j : UInt32} {op : CmpOp} (hd : decode cc pc = .ok (.fcmp op, 1)) (kk : VW C (pc + 1) lv (xI (Op.cmpValue (FP.fcmp i j) op).toInt :: st) u c z) : VW C pc lv (xF j :: xF i :: st) u c z := by
  obtain ⟨p, l, e, R, s, m, args, below, meth, cd, Q, D⟩ := C
  obtain ⟨hx, hb, hml, hown, hts, ⟨hK, hKX⟩, hR, hbs, hfl, hlk⟩ := hC
  intro H locs ls hu hS hl
  refine lv_fcmp hx hb hd ?_
  have h := kk H locs ls hu hS hl
  rw [show (xI (Op.cmpValue (FP.fcmp i j) op).toInt :: st).map toV = .int (Int32.ofInt (Op.cmpValue (FP.fcmp i j) op).toInt) :: st.map toV from rfl, Int32.ofInt_toInt] at h
  exact h
theorem r_natD (hC : CxOK C cc own R nL) {index : Nat} {b : UInt64} (hd : decode cc pc = .ok (.invokestatic index, 3)) (hlk1 : Cond.methodLink own index ⟨"java/lang/Double", "doubleToRawLongBits", "(D)J"⟩ ∈ wAll) (hfr : 1 ≤ R.frames) (hlo : (st.map ca_t).sum + 15 ≤ R.locals) (kk : VW C (pc + 3) lv (xJ b.toInt64 :: st) u c z) : VW C pc lv (xD b :: st) u c z := by
  obtain ⟨p, l, e, R0, s, m, args, below, meth, cd, Q, D⟩ := C
  obtain ⟨hx, hb, hml, hown, hts, ⟨hK, hKX⟩, hR, hbs, hfl, hlk⟩ := hC
  intro H locs ls hu hS hl
  subst hR
  exact vn_d2l hx hb hl.1.symm hown (hts _ hlk1) (hts _ nn_rawD) (hts _ ns_rawD) (hts _ ni_rawD) hfr (by rw [cat_sum]; exact hlo) hd (kk H locs ls hu hS hl)
theorem r_natF (hC : CxOK C cc own R nL) {index : Nat} {b : UInt32} (hd : decode cc pc = .ok (.invokestatic index, 3)) (hlk1 : Cond.methodLink own index ⟨"java/lang/Float", "floatToRawIntBits", "(F)I"⟩ ∈ wAll) (hfr : 1 ≤ R.frames) (hlo : (st.map ca_t).sum + 15 ≤ R.locals) (kk : VW C (pc + 3) lv (xI b.toInt32.toInt :: st) u c z) : VW C pc lv (xF b :: st) u c z := by
  obtain ⟨p, l, e, R0, s, m, args, below, meth, cd, Q, D⟩ := C
  obtain ⟨hx, hb, hml, hown, hts, ⟨hK, hKX⟩, hR, hbs, hfl, hlk⟩ := hC
  intro H locs ls hu hS hl
  subst hR
  refine vn_f2i hx hb hl.1.symm hown (hts _ hlk1) (hts _ nn_rawF) (hts _ ns_rawF) (hts _ ni_rawF) hfr (by rw [cat_sum]; exact hlo) hd ?_
  have h := kk H locs ls hu hS hl
  rw [show (xI b.toInt32.toInt :: st).map toV = .int (Int32.ofInt b.toInt32.toInt) :: st.map toV from rfl, Int32.ofInt_toInt] at h
  exact h
end RJDK
abbrev rmJ_nanD : Room := { frames := 0, cells := 0, slots := 0, locals := 0 }
theorem k_nanD {l : Launch} {D : DD} (hfl : l.stackTraces = false) {u : Mem} {x : UInt64} (hx : (Op.cmpValue (FP.dcmp x x) .l).toInt = 0) : CT l D yJxe99ae_isNaN_b9ae7 cJxe99ae_isNaN_b9ae7 2 (some .boolean) rmJ_nanD [xD x] u (RT (xI 0) u) := by
  refine CT.of hfl (by decide) (le_b rfl) ?_
  intro C hC hR hL hDD hN
  show VW C 0 [some (xD x), none] [] u 0 0
  refine r_dload_n hC dJxe99ae_isNaN_b9ae7_0 rfl ?_
  refine r_dload_n hC dJxe99ae_isNaN_b9ae7_1 rfl ?_
  refine r_dcmp hC dJxe99ae_isNaN_b9ae7_2 ?_
  rw [hx]
  refine r_if_eq (t := 10) hC dJxe99ae_isNaN_b9ae7_3 (by rfl) rg_0 (fun _ => ?_) (fun h => absurd rfl h)
  refine r_iconst hC dJxe99ae_isNaN_b9ae7_10 ?_
  exact r_zret hC hR dJxe99ae_isNaN_b9ae7_11 (Or.inl rfl) (le_b rfl) (le_b rfl) ⟨rfl, rfl⟩
abbrev rmJ_dbits : Room := { frames := 1, cells := 0, slots := 0, locals := 40 }
theorem k_dbits {l : Launch} {D : DD} (hfl : l.stackTraces = false) {u : Mem} {x : UInt64} (hx : (Op.cmpValue (FP.dcmp x x) .l).toInt = 0) : CT l D yJxe99ae_doubleToLongBits_ccdee cJxe99ae_doubleToLongBits_ccdee 2 (some .long) rmJ_dbits [xD x] u (RT (xJ x.toInt64) u) := by
  refine CT.of hfl (by decide) (le_b rfl) ?_
  intro C hC hR hL hDD hN
  have hfC : (cxL C).stackTraces = false := by rw [hL]; exact hfl
  show VW C 0 [some (xD x), none] [] u 0 0
  refine r_dload_n hC dJxe99ae_doubleToLongBits_ccdee_0 rfl ?_
  refine r_S0 hC dJxe99ae_doubleToLongBits_ccdee_1 mi_J_nanD ss_J_nanD ml_JD_122 (rm := rmJ_nanD) rfl rfl rfl ⟨le_b rfl, le_b rfl⟩ (k_nanD hfC hx) ?_ rfl
  refine r_if_ne (t := 12) hC dJxe99ae_doubleToLongBits_ccdee_4 (by rfl) rg_0 (fun h => absurd rfl h) (fun _ => ?_)
  refine r_dload_n hC dJxe99ae_doubleToLongBits_ccdee_7 rfl ?_
  refine r_natD hC dJxe99ae_doubleToLongBits_ccdee_8 nl_JD_134 (le_b rfl) (le_b rfl) ?_
  exact r_lret hC hR dJxe99ae_doubleToLongBits_ccdee_11 (le_b rfl) (le_b rfl) ⟨rfl, rfl⟩
/-- the call of Float.floatToIntBits on a number that is no NaN, as one step (the model keeps java/lang/Float among the classes whose methods may be run by a table: no CT of its methods by CT.of) -/
def FBits : Prop := ∀ (C : Cx) (cc : ByteArray) (own : String) (R : Room) (nL pc : Nat) (lv : LV) (st : List SV) (u : Mem) (c z idx : Nat) (b : UInt32), CxOK C cc own R nL → decode cc pc = .ok (.invokestatic idx, 3) → Cond.methodLink own idx yJxf58ca_floatToIntBits_5c35a ∈ wAll → 2 ≤ R.frames → (st.map ca_t).sum + 60 ≤ R.locals → c ≤ R.cells → z ≤ R.slots → (Op.cmpValue (FP.fcmp b b) .l).toInt = 0 → VW C (pc + 3) lv (xI b.toInt32.toInt :: st) u c z → VW C pc lv (xF b :: st) u c z
