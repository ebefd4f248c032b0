set_option maxRecDepth 100000 in
theorem mi_J_nanD : MI yJxe99ae_isNaN_b9ae7 cJxe99ae_isNaN_b9ae7 2 (some .boolean) 1 := ⟨in_at 91 (by decide +kernel) (by decide +kernel), in_at 1457 (by decide +kernel) (by decide +kernel), by decide, by decide, by decide +kernel⟩
set_option maxRecDepth 100000 in
theorem ss_J_nanD : Cond.static yJxe99ae_isNaN_b9ae7 ∈ wAll := in_at 1456 (by decide +kernel) (by decide +kernel)
set_option maxRecDepth 100000 in
theorem mi_J_dbits : MI yJxe99ae_doubleToLongBits_ccdee cJxe99ae_doubleToLongBits_ccdee 2 (some .long) 1 := ⟨in_at 91 (by decide +kernel) (by decide +kernel), in_at 1454 (by decide +kernel) (by decide +kernel), by decide, by decide, by decide +kernel⟩
set_option maxRecDepth 100000 in
theorem ss_J_dbits : Cond.static yJxe99ae_doubleToLongBits_ccdee ∈ wAll := in_at 1453 (by decide +kernel) (by decide +kernel)
set_option maxRecDepth 100000 in
theorem mi_J_nanF : MI yJxf58ca_isNaN_12338 cJxf58ca_isNaN_12338 1 (some .boolean) 1 := ⟨in_at 92 (by decide +kernel) (by decide +kernel), in_at 1467 (by decide +kernel) (by decide +kernel), by decide, by decide, by decide +kernel⟩
set_option maxRecDepth 100000 in
theorem ss_J_nanF : Cond.static yJxf58ca_isNaN_12338 ∈ wAll := in_at 1466 (by decide +kernel) (by decide +kernel)
set_option maxRecDepth 100000 in
theorem mi_J_fbits : MI yJxf58ca_floatToIntBits_5c35a cJxf58ca_floatToIntBits_5c35a 1 (some .int) 1 := ⟨in_at 92 (by decide +kernel) (by decide +kernel), in_at 1464 (by decide +kernel) (by decide +kernel), by decide, by decide, by decide +kernel⟩
set_option maxRecDepth 100000 in
theorem ss_J_fbits : Cond.static yJxf58ca_floatToIntBits_5c35a ∈ wAll := in_at 1463 (by decide +kernel) (by decide +kernel)
set_option maxRecDepth 100000 in
theorem ml_X8_286 : Cond.methodLink RX8 286 yJxe99ae_doubleToLongBits_ccdee ∈ wAll := in_at 1452 (by decide +kernel) (by decide +kernel)
set_option maxRecDepth 100000 in
theorem ml_JD_122 : Cond.methodLink RJxe99ae 122 yJxe99ae_isNaN_b9ae7 ∈ wAll := in_at 1455 (by decide +kernel) (by decide +kernel)
set_option maxRecDepth 100000 in
theorem ml_X8_292 : Cond.methodLink RX8 292 yJxf58ca_floatToIntBits_5c35a ∈ wAll := in_at 1462 (by decide +kernel) (by decide +kernel)
set_option maxRecDepth 100000 in
theorem ml_JF_59 : Cond.methodLink RJxf58ca 59 yJxf58ca_isNaN_12338 ∈ wAll := in_at 1465 (by decide +kernel) (by decide +kernel)
set_option maxRecDepth 100000 in
theorem nn_rawD : Cond.native ⟨"java/lang/Double", "doubleToRawLongBits", "(D)J"⟩ ∈ wAll := in_at 1460 (by decide +kernel) (by decide +kernel)
set_option maxRecDepth 100000 in
theorem ns_rawD : Cond.static ⟨"java/lang/Double", "doubleToRawLongBits", "(D)J"⟩ ∈ wAll := in_at 1459 (by decide +kernel) (by decide +kernel)
set_option maxRecDepth 100000 in
theorem ni_rawD : Cond.initialized "java/lang/Double" ∈ wAll := in_at 91 (by decide +kernel) (by decide +kernel)
set_option maxRecDepth 100000 in
theorem nl_JD_134 : Cond.methodLink RJxe99ae 134 ⟨"java/lang/Double", "doubleToRawLongBits", "(D)J"⟩ ∈ wAll := in_at 1458 (by decide +kernel) (by decide +kernel)
set_option maxRecDepth 100000 in
theorem nn_rawF : Cond.native ⟨"java/lang/Float", "floatToRawIntBits", "(F)I"⟩ ∈ wAll := in_at 1470 (by decide +kernel) (by decide +kernel)
set_option maxRecDepth 100000 in
theorem ns_rawF : Cond.static ⟨"java/lang/Float", "floatToRawIntBits", "(F)I"⟩ ∈ wAll := in_at 1469 (by decide +kernel) (by decide +kernel)
set_option maxRecDepth 100000 in
theorem ni_rawF : Cond.initialized "java/lang/Float" ∈ wAll := in_at 92 (by decide +kernel) (by decide +kernel)
set_option maxRecDepth 100000 in
theorem nl_JF_74 : Cond.methodLink RJxf58ca 74 ⟨"java/lang/Float", "floatToRawIntBits", "(F)I"⟩ ∈ wAll := in_at 1468 (by decide +kernel) (by decide +kernel)
set_option maxRecDepth 100000 in
theorem nn_cpy : Cond.native arraycopyName ∈ wAll := in_at 408 (by decide +kernel) (by decide +kernel)
set_option maxRecDepth 100000 in
theorem ns_cpy : Cond.static arraycopyName ∈ wAll := in_at 407 (by decide +kernel) (by decide +kernel)
set_option maxRecDepth 100000 in
theorem ni_cpy : Cond.initialized "java/lang/System" ∈ wAll := in_at 88 (by decide +kernel) (by decide +kernel)
set_option maxRecDepth 100000 in
theorem nl_X5_58 : Cond.methodLink RX5 58 arraycopyName ∈ wAll := in_at 406 (by decide +kernel) (by decide +kernel)
set_option maxRecDepth 100000 in
theorem nl_X6_29 : Cond.methodLink RX6 29 arraycopyName ∈ wAll := in_at 413 (by decide +kernel) (by decide +kernel)
set_option maxRecDepth 100000 in
theorem nl_X4_43 : Cond.methodLink RX4 43 arraycopyName ∈ wAll := in_at 418 (by decide +kernel) (by decide +kernel)
set_option maxRecDepth 100000 in
theorem nl_X3_56 : Cond.methodLink RX3 56 arraycopyName ∈ wAll := in_at 423 (by decide +kernel) (by decide +kernel)
set_option maxRecDepth 100000 in
theorem nl_X1_32 : Cond.methodLink RX1 32 arraycopyName ∈ wAll := in_at 432 (by decide +kernel) (by decide +kernel)
section RJDK
variable {C : Cx} {cc : ByteArray} {own : String} {R : Room} {nL : Nat} {pc : Nat} {lv : LV} {st : List SV} {u : Mem} {c z : Nat}
theorem cat_sum (st : List SV) : ((st.map toV).map fun v => v.category).sum = (st.map ca_t).sum := by
  congr 1
  rw [List.map_map]
  exact List.map_congr_left fun v _ => toV_cat v
theorem r_fcmp (hC : CxOK C cc own R nL) {i j : UInt32} {op : CmpOp} (hd : decode cc pc = .ok (.fcmp op, 1)) (kk : VW C (pc + 1) lv (xI (Op.cmpValue (FP.fcmp i j) op).toInt :: st) u c z) : VW C pc lv (xF j :: xF i :: st) u c z := by
  obtain ⟨p, l, e, R, s, m, args, below, meth, cd, Q, D⟩ := C
  obtain ⟨hx, hb, hml, hown, hts, ⟨hK, hKX⟩, hR, hbs, hfl, hlk⟩ := hC
  intro H locs ls hu hS hl
  refine lv_fcmp hx hb hd ?_
  have h := kk H locs ls hu hS hl
  rw [show (xI (Op.cmpValue (FP.fcmp i j) op).toInt :: st).map toV = .int (Int32.ofInt (Op.cmpValue (FP.fcmp i j) op).toInt) :: st.map toV from rfl, Int32.ofInt_toInt] at h
  exact h
theorem r_natD (hC : CxOK C cc own R nL) {index : Nat} {b : UInt64} (hd : decode cc pc = .ok (.invokestatic index, 3)) (hlk1 : Cond.methodLink own index ⟨"java/lang/Double", "doubleToRawLongBits", "(D)J"⟩ ∈ wAll) (hfr : 1 ≤ R.frames) (hlo : (st.map ca_t).sum + 15 ≤ R.locals) (kk : VW C (pc + 3) lv (xJ b.toInt64 :: st) u c z) : VW C pc lv (xD b :: st) u c z := by
  obtain ⟨p, l, e, R0, s, m, args, below, meth, cd, Q, D⟩ := C
  obtain ⟨hx, hb, hml, hown, hts, ⟨hK, hKX⟩, hR, hbs, hfl, hlk⟩ := hC
  intro H locs ls hu hS hl
  subst hR
  exact vn_d2l hx hb hl.1.symm hown (hts _ hlk1) (hts _ nn_rawD) (hts _ ns_rawD) (hts _ ni_rawD) hfr (by rw [cat_sum]; exact hlo) hd (kk H locs ls hu hS hl)
theorem r_natF (hC : CxOK C cc own R nL) {index : Nat} {b : UInt32} (hd : decode cc pc = .ok (.invokestatic index, 3)) (hlk1 : Cond.methodLink own index ⟨"java/lang/Float", "floatToRawIntBits", "(F)I"⟩ ∈ wAll) (hfr : 1 ≤ R.frames) (hlo : (st.map ca_t).sum + 15 ≤ R.locals) (kk : VW C (pc + 3) lv (xI b.toInt32.toInt :: st) u c z) : VW C pc lv (xF b :: st) u c z := by
  obtain ⟨p, l, e, R0, s, m, args, below, meth, cd, Q, D⟩ := C
  obtain ⟨hx, hb, hml, hown, hts, ⟨hK, hKX⟩, hR, hbs, hfl, hlk⟩ := hC
  intro H locs ls hu hS hl
  subst hR
  refine vn_f2i hx hb hl.1.symm hown (hts _ hlk1) (hts _ nn_rawF) (hts _ ns_rawF) (hts _ ni_rawF) hfr (by rw [cat_sum]; exact hlo) hd ?_
  have h := kk H locs ls hu hS hl
  rw [show (xI b.toInt32.toInt :: st).map toV = .int (Int32.ofInt b.toInt32.toInt) :: st.map toV from rfl, Int32.ofInt_toInt] at h
  exact h
end RJDK
abbrev rmJ_nanD : Room := { frames := 0, cells := 0, slots := 0, locals := 0 }
theorem k_nanD {l : Launch} {D : DD} (hfl : l.stackTraces = false) {u : Mem} {x : UInt64} (hx : (Op.cmpValue (FP.dcmp x x) .l).toInt = 0) : CT l D yJxe99ae_isNaN_b9ae7 cJxe99ae_isNaN_b9ae7 2 (some .boolean) rmJ_nanD [xD x] u (RT (xI 0) u) := by
  refine CT.of hfl (by decide) (le_b rfl) ?_
  intro C hC hR hL hDD hN
  show VW C 0 [some (xD x), none] [] u 0 0
  refine r_dload_n hC dJxe99ae_isNaN_b9ae7_0 rfl ?_
  refine r_dload_n hC dJxe99ae_isNaN_b9ae7_1 rfl ?_
  refine r_dcmp hC dJxe99ae_isNaN_b9ae7_2 ?_
  rw [hx]
  refine r_if_eq (t := 10) hC dJxe99ae_isNaN_b9ae7_3 (by rfl) rg_0 (fun _ => ?_) (fun h => absurd rfl h)
  refine r_iconst hC dJxe99ae_isNaN_b9ae7_10 ?_
  exact r_zret hC hR dJxe99ae_isNaN_b9ae7_11 (Or.inl rfl) (le_b rfl) (le_b rfl) ⟨rfl, rfl⟩
abbrev rmJ_dbits : Room := { frames := 1, cells := 0, slots := 0, locals := 40 }
theorem k_dbits {l : Launch} {D : DD} (hfl : l.stackTraces = false) {u : Mem} {x : UInt64} (hx : (Op.cmpValue (FP.dcmp x x) .l).toInt = 0) : CT l D yJxe99ae_doubleToLongBits_ccdee cJxe99ae_doubleToLongBits_ccdee 2 (some .long) rmJ_dbits [xD x] u (RT (xJ x.toInt64) u) := by
  refine CT.of hfl (by decide) (le_b rfl) ?_
  intro C hC hR hL hDD hN
  have hfC : (cxL C).stackTraces = false := by rw [hL]; exact hfl
  show VW C 0 [some (xD x), none] [] u 0 0
  refine r_dload_n hC dJxe99ae_doubleToLongBits_ccdee_0 rfl ?_
  refine r_S0 hC dJxe99ae_doubleToLongBits_ccdee_1 mi_J_nanD ss_J_nanD ml_JD_122 (rm := rmJ_nanD) rfl rfl rfl ⟨le_b rfl, le_b rfl⟩ (k_nanD hfC hx) ?_ rfl
  refine r_if_ne (t := 12) hC dJxe99ae_doubleToLongBits_ccdee_4 (by rfl) rg_0 (fun h => absurd rfl h) (fun _ => ?_)
  refine r_dload_n hC dJxe99ae_doubleToLongBits_ccdee_7 rfl ?_
  refine r_natD hC dJxe99ae_doubleToLongBits_ccdee_8 nl_JD_134 (le_b rfl) (le_b rfl) ?_
  exact r_lret hC hR dJxe99ae_doubleToLongBits_ccdee_11 (le_b rfl) (le_b rfl) ⟨rfl, rfl⟩
theorem metfree_of_rowless {l : Launch} {x : MethodName} {S : Spec} {P : Array Value → State → Prop} {K : Program → Env → List Frame → State → Array Value → Prop} {Q : Array Value → State → Outcome → State → Prop} {code : ByteArray} {maxLocals : Nat} {ret : Option FieldType}
  (hpf : plainFor x = true)
  (hcode : ∀ (args : Array Value) (s : State) (m : MethodId), S.pre.before args s = true → s.methodNamed? x = some m → ∃ meth c, s.vm.method? m = some meth ∧ meth.code = some c ∧ c.code = code ∧ c.maxLocals = maxLocals ∧ meth.sig.returnType = ret ∧ meth.locks = false)
  (body : ∀ (p : Program) (e : Env) (s : State) (m : MethodId) (args : Array Value) (below : List Frame) (meth : Method) (c : Code) (s₁ : State), BodyLoose p l x S code maxLocals ret e s m args below meth c s₁ → c.maxLocals = maxLocals → P args s → K p e below s args → ∃ s₂ o, Steps p.tables e below (s₁.setTop (entryFrame m args maxLocals)) s₂ ∧ s₂.status = Status.running ∧ Ended s₂ below o ∧ Q args s o s₂) : MetFree l x S P K Q := by
  intro p e hadm hcas hclk s m args below hf happ hP hK
  have happ' := happ
  unfold Spec.appliesLoose at happ'
  rw [hf] at happ'
  simp only [Bool.and_eq_true, decide_eq_true_eq] at happ'
  obtain ⟨⟨⟨⟨⟨⟨⟨h1, h2⟩, h3⟩, h4⟩, h5⟩, h6⟩, h7⟩, h8⟩ := happ'
  obtain ⟨meth, c, c1, c2, c3, c4, c5, c6⟩ := hcode args s m h8 h4
  have hsome : s.threads[s.cur]?.isSome = true := by
    unfold State.curStatus? at h2
    cases ht : s.threads[s.cur]? with
    | none => rw [ht] at h2; cases h2
    | some t => rfl
  have hlt : s.cur < s.threads.size := by
    rcases Nat.lt_or_ge s.cur s.threads.size with h | h
    · exact h
    · rw [Array.getElem?_eq_none h] at hsome; cases hsome
  obtain ⟨s₁, hs₁⟩ : ∃ z, z = s.setFrames (Frame.java (entryFrame m args maxLocals) :: below) := ⟨_, rfl⟩
  have one : stepsAlone p.tables e 1 s = s₁ := by
    rw [stepsAlone_one_invoking hf ⟨h1, h2, h3⟩ c1 c2 c6 h7, c4, hs₁]
  have hfr : s₁.frames = Frame.java (entryFrame m args maxLocals) :: below := by
    rw [hs₁, State.frames_setFrames _ hlt]
  have hhere : At s₁ m c below := by
    refine ⟨?_, ⟨[], ?_⟩, ?_, ?_, ?_, ?_, ?_⟩
    · unfold State.topJava?; rw [hfr]; rfl
    · rw [hfr]; rfl
    · rw [hs₁]; exact h1
    · rw [hs₁, State.curStatus?_setFrames]; exact h2
    · rw [hs₁, State.alone_setFrames]; exact h3
    · rw [hs₁]
      have : s.code? m = some c := by
        unfold State.code?
        unfold Vm.method? at c1
        cases hk : s.vm.classes[m.cls]? with
        | none => rw [hk] at c1; cases c1
        | some k =>
          rw [hk] at c1
          show (k.methods[m.idx]?).bind (fun x => x.code) = some c
          have c1' : k.methods[m.idx]? = some meth := c1
          rw [c1']
          exact c2
      exact this
    · rw [hs₁]
      exact State.plainMethod.of_named hpf h4 c1
  have B : BodyLoose p l x S code maxLocals ret e s m args below meth c s₁ := ⟨hadm, hcas, hclk, by cases p <;> rfl, hf, h4, h5, h6, h7, h8, c1, c5, c6, c3, hs₁, hhere⟩
  obtain ⟨s₂, o, st, r1, r2, r3⟩ := body p e s m args below meth c s₁ B c4 hP hK
  have e1 : s₁.setTop (entryFrame m args maxLocals) = s₁ := by
    exact State.setTop_self (by unfold State.topJava?; rw [hfr])
  rw [e1] at st
  have st0 : Steps p.tables e below s s₁ := ⟨1, one, fun k hk => by
    obtain rfl : k = 0 := by omega
    exact ⟨[Frame.invoking m args], hf, by simp, by intro a; simp⟩⟩
  obtain ⟨n, e2, hw⟩ := st0.trans st
  exact ⟨n, o, hw, by rw [e2]; exact r1, by rw [e2]; exact r2, by rw [e2]; exact r3⟩


theorem Met.ofR {l : Launch} {y : MethodName} {ws ws' : List Cond} {rm : Room} {Pc : Array Value → State → Prop} {Qc : Array Value → State → Outcome → State → Prop} {mc ms : Nat} {free : Addr → Prop} {cc : ByteArray} {maxL : Nat} {ret : Option FieldType} (hy : plainFor y = true) (hw : ws = Cond.code y cc maxL ret :: ws')
    (body : ∀ (p : Program) (e : Env) (s : State) (m : MethodId) (args : Array Value) (below : List Frame) (meth : Method) (c : Code) (s₁ : State), BodyLoose p l y (headSpec ws rm) cc maxL ret e s m args below meth c s₁ → c.maxLocals = maxL → Pc args s → W p l e (headSpec ws rm).room s m args below meth c s.heap [] 0 0 (MQ below Qc args s mc ms free) (entryFrame m args maxL)) : Met l y ws rm Pc Qc mc ms free := by
  refine metfree_of_rowless (code := cc) (maxLocals := maxL) (ret := ret) hy ?_ ?_
  · intro args s m h hn
    obtain ⟨meth, c, h1, h2, h3, h4, h5, h6, -, -⟩ := Cond.code_spec hn (atoms_spec (ws := ws) h _ (by rw [hw]; exact List.mem_cons_self))
    exact ⟨meth, c, h1, h2, h3, h4, h5, h6⟩
  · intro p e s m args below meth c s₁ B hml hP _
    have hh0 : s₁.heap = s.heap := by rw [B.state]; rfl
    obtain ⟨t, a1, o, b1, b2, b3⟩ := body p e s m args below meth c s₁ B hml hP s₁ hh0 (Stand.of_body B)
    exact ⟨t, o, a1, b1, b2, b3⟩
theorem CT.ofR {l : Launch} {D : DD} {y : MethodName} {b : ByteArray} {mL : Nat} {rt : Option FieldType} {rm : Room} {as : List SV} {u : Mem} {post : Option SV → Mem → Prop} (hfl : l.stackTraces = false) (hy : plainFor y = true) (hlen : (lv0 as).length ≤ mL)
    (body : ∀ C : Cx, CxOK C b y.cls rm mL → RetOK C rt rm post → cxL C = l → cxD C = D → cxN C = y.name → VW C 0 (lv0 as ++ List.replicate (mL - (lv0 as).length) none) [] u 0 0) : CT l D y b mL rt rm as u post := by
  refine Met.ofR (cc := b) (maxL := mL) (ret := rt) hy rfl ?_
  intro p e s m args below meth c s₁ B hml hv
  obtain ⟨rfl, hu, hK⟩ := hv
  have hts := atoms_spec (ws := wsY y b mL rt) B.pre
  have hown : s.vm.findClass y.cls = some m.cls := findClass_of_methodNamed B.named
  have hnm := (name_of_methodNamed B.named B.method).1
  have hs0 : D.1 ≤ s.heap.size := by rw [hu.1]; exact hu.2.1
  rw [lg_entry_eq]
  have hl := lv_entry (as.map toV) (n := mL) (by rw [lg_sl_len]; exact hlen)
  generalize (lg_sl (as.map toV) ++ List.replicate (mL - (lg_sl (as.map toV)).length) Slot.unset).toArray = ls at hl ⊢
  rw [lv0_args, ← lvals_pad _ (mL - (lv0 as).length)] at hl
  exact body (p, l, e, _, s, m, (as.map toV).toArray, below, meth, c, _, D) ⟨B.exec, B.bytes, hml, hown, fun w hw => hts w (List.mem_cons_of_mem _ hw), hK, rfl, hs0, hfl, B.notSynchronized⟩ ⟨B.returns, fun _ _ _ h => h⟩ rfl rfl hnm s.heap [] ls hu va_S.rf (by rw [hml]; exact hl)

abbrev rmJ_nanF : Room := { frames := 0, cells := 0, slots := 0, locals := 0 }
theorem k_nanF {l : Launch} {D : DD} (hfl : l.stackTraces = false) {u : Mem} {x : UInt32} (hx : (Op.cmpValue (FP.fcmp x x) .l).toInt = 0) : CT l D yJxf58ca_isNaN_12338 cJxf58ca_isNaN_12338 1 (some .boolean) rmJ_nanF [xF x] u (RT (xI 0) u) := by
  refine CT.ofR hfl (by decide +kernel) (le_b rfl) ?_
  intro C hC hR hL hDD hN
  show VW C 0 [some (xF x)] [] u 0 0
  refine r_fload_n hC dJxf58ca_isNaN_12338_0 rfl ?_
  refine r_fload_n hC dJxf58ca_isNaN_12338_1 rfl ?_
  refine r_fcmp hC dJxf58ca_isNaN_12338_2 ?_
  rw [hx]
  refine r_if_eq (t := 10) hC dJxf58ca_isNaN_12338_3 (by rfl) rg_0 (fun _ => ?_) (fun h => absurd rfl h)
  refine r_iconst hC dJxf58ca_isNaN_12338_10 ?_
  exact r_zret hC hR dJxf58ca_isNaN_12338_11 (Or.inl rfl) (le_b rfl) (le_b rfl) ⟨rfl, rfl⟩
abbrev rmJ_fbits : Room := { frames := 1, cells := 0, slots := 0, locals := 40 }
theorem k_fbits {l : Launch} {D : DD} (hfl : l.stackTraces = false) {u : Mem} {x : UInt32} (hx : (Op.cmpValue (FP.fcmp x x) .l).toInt = 0) : CT l D yJxf58ca_floatToIntBits_5c35a cJxf58ca_floatToIntBits_5c35a 1 (some .int) rmJ_fbits [xF x] u (RT (xI x.toInt32.toInt) u) := by
  refine CT.ofR hfl (by decide +kernel) (le_b rfl) ?_
  intro C hC hR hL hDD hN
  have hfC : (cxL C).stackTraces = false := by rw [hL]; exact hfl
  show VW C 0 [some (xF x)] [] u 0 0
  refine r_fload_n hC dJxf58ca_floatToIntBits_5c35a_0 rfl ?_
  refine r_S0 hC dJxf58ca_floatToIntBits_5c35a_1 mi_J_nanF ss_J_nanF ml_JF_59 (rm := rmJ_nanF) rfl rfl rfl ⟨le_b rfl, le_b rfl⟩ (k_nanF hfC hx) ?_ rfl
  refine r_if_ne (t := 12) hC dJxf58ca_floatToIntBits_5c35a_4 (by rfl) rg_0 (fun h => absurd rfl h) (fun _ => ?_)
  refine r_fload_n hC dJxf58ca_floatToIntBits_5c35a_7 rfl ?_
  refine r_natF hC dJxf58ca_floatToIntBits_5c35a_8 nl_JF_74 (le_b rfl) (le_b rfl) ?_
  exact r_iret hC hR dJxf58ca_floatToIntBits_5c35a_11 (le_b rfl) (le_b rfl) ⟨rfl, rfl⟩
