/-! ===== a method with a table of its own, and what it catches ===== -/
def wsH (y : MethodName) (b : ByteArray) (mL : Nat) (rt : Option FieldType) (hh : List (Nat × Nat × Nat × Nat)) : List Cond := .codeWith y b mL rt hh :: wAll
def CTH (l : Launch) (D : DD) (y : MethodName) (b : ByteArray) (mL : Nat) (rt : Option FieldType) (hh : List (Nat × Nat × Nat × Nat)) (rm : Room) (args : List SV) (u : Mem) (post : Option SV → Mem → Prop) : Prop :=
  Met l y (wsH y b mL rt hh) rm (va_Pc (args.map toV) (PcD D u)) (QcD D post) rm.cells rm.slots (dA_ D)
def TabOK : Cx → List (Nat × Nat × Nat × Nat) → Prop
  | (p, l, e, R, s, m, args, below, meth, cd, Q, D), hh => cd.exceptionTable.toList = tableOf hh
theorem CTH.of {l : Launch} {D : DD} {y : MethodName} {b : ByteArray} {mL : Nat} {rt : Option FieldType} {hh : List (Nat × Nat × Nat × Nat)} {rm : Room} {as : List SV} {u : Mem} {post : Option SV → Mem → Prop} (hfl : l.stackTraces = false) (hy : plainName y.cls = true) (hlen : (lv0 as).length ≤ mL)
    (body : ∀ C : Cx, CxOK C b y.cls rm mL → RetOK C rt rm post → TabOK C hh → cxL C = l → cxD C = D → cxN C = y.name → VW C 0 (lv0 as ++ List.replicate (mL - (lv0 as).length) none) [] u 0 0) : CTH l D y b mL rt hh rm as u post := by
  unfold CTH Met
  refine MetFree.of_bodyS (code := b) (maxLocals := mL) (ret := rt) hy ?_ ?_
  · intro args s m h hn
    obtain ⟨m9, meth, c, hn9, h1, h2, h3, h4, -, h5, h6, -⟩ := Cond.codeWith_spec (atoms_spec (ws := wsH y b mL rt hh) h _ List.mem_cons_self)
    cases hn.symm.trans hn9
    exact ⟨meth, c, h1, h2, h3, h4, h5, h6⟩
  · intro p e s m args below meth c s₁ B hml hP _
    obtain ⟨rfl, hu, hK⟩ := hP
    have hts := atoms_spec (ws := wsH y b mL rt hh) B.pre
    have htab := vx_table (x := y) (hh := hh) (bytes := b) (maxL' := mL) (ret' := rt) B (hts _ List.mem_cons_self)
    have hown : s.vm.findClass y.cls = some m.cls := findClass_of_methodNamed B.named
    have hnm := (name_of_methodNamed B.named B.method).1
    have hs0 : D.1 ≤ s.heap.size := by rw [hu.1]; exact hu.2.1
    have hh0 : s₁.heap = s.heap := by rw [B.state]; rfl
    have K : W p l e rm s m (as.map toV).toArray below meth c s.heap [] 0 0 (MQ below (QcD D post) (as.map toV).toArray s rm.cells rm.slots (dA_ D)) (entryFrame m (as.map toV).toArray mL) := by
      rw [lg_entry_eq]
      have hl := lv_entry (as.map toV) (n := mL) (by rw [lg_sl_len]; exact hlen)
      generalize (lg_sl (as.map toV) ++ List.replicate (mL - (lg_sl (as.map toV)).length) Slot.unset).toArray = ls at hl ⊢
      rw [lv0_args, ← lvals_pad _ (mL - (lv0 as).length)] at hl
      exact body (p, l, e, _, s, m, (as.map toV).toArray, below, meth, c, _, D) ⟨B.exec, B.bytes, hml, hown, fun w hw => hts w (List.mem_cons_of_mem _ hw), hK, rfl, hs0, hfl, B.notSynchronized⟩ ⟨B.returns, fun _ _ _ h => h⟩ htab rfl rfl hnm s.heap [] ls hu va_S.rf (by rw [hml]; exact hl)
    obtain ⟨t, a1, o, b1, b2, b3, b4⟩ := K s₁ hh0 (Stand.of_body B)
    exact ⟨t, o, a1, b1, b2, b3, b4⟩
/-- thrown here, and q is what was thrown -/
def XW : Cx → Nat → LV → String → Nat → Mem → Nat → Nat → Prop
  | (p, l, e, R, s, m, args, below, meth, cd, Q, D), pc, lv, E, q, u, c, z => ∀ (H : Heap) (locs : List Loc) (ls : Array Slot) (rest : List Value) (ce : Cell), Rel D s u H → va_S (dA_ D) s.heap H locs → lv_has ls cd.maxLocals (lvals 0 lv) → H[q]? = some ce → ce.vm = .none → s.vm.findClass E = some ce.cls → vx_W p l e R s m args below meth cd H locs c z Q (F0 m pc ls rest) q
section CATCH
variable {C : Cx} {cc : ByteArray} {own : String} {R : Room} {nL : Nat} {pc : Nat} {lv : LV} {st : List SV} {u : Mem} {c z : Nat}
variable {rt : Option FieldType} {rm : Room} {post : Option SV → Mem → Prop} {px : String → Mem → Prop}
/-- a call of a method that may throw -/
theorem r_callX (hC : CxOK C cc own R nL) {y : MethodName} {b : ByteArray} {mL idx n ci a : Nat} {as : List SV} {rv : vw_C} (hd : decode cc pc = .ok (.invokevirtual idx, 3)) (hm : MI y b mL rt n) (hse : Cond.selects y.cls y y ∈ wAll ∧ Cond.instanceMethod y ∈ wAll) (hlk : Cond.methodLink own idx y ∈ wAll) (hR : rm.frames + 1 ≤ R.frames ∧ 8 + (mL + 11) + rm.locals ≤ R.locals) (hs : mSh u a = some (.inl ci)) (hcl : vwCl[ci]? = some rv) (hcn : rv.1 = y.cls) (hn : as.length = n) (hw : (st.map fun v => ca_t v).sum ≤ 8) (hc : c + rm.cells ≤ R.cells) (hz : z + rm.slots ≤ R.slots)
    (hct : CTX (cxL C) (cxD C) y b mL rt rm (xA a :: as) u post px) (kk : ∀ (r : Option SV) (u1 : Mem), post r u1 → VW C (pc + 3) lv (r.toList ++ st) u1 (c + rm.cells) (z + rm.slots)) (kx : ∀ (E : String) (q : Nat) (u1 : Mem), px E u1 → XW C pc lv E q u1 (c + rm.cells) (z + rm.slots)) {st0 : List SV} (h0 : as.reverse ++ xA a :: st = st0) : VW C pc lv st0 u c z := by
  subst h0
  obtain ⟨p, l, e, R1, s, m, args, below, meth, cd, Q, D⟩ := C
  obtain ⟨hx, hb, hml, hown, hts, hK, hR1, hbs, hfl, hlk0⟩ := hC
  intro H locs ls hu hS hl
  subst hR1
  obtain ⟨-, r', h1, cell, g1, g2, g3, -⟩ := hu.obj hs
  cases hcl.symm.trans h1
  have hrun := vx_runV (As := as.map toV) (rest := st.map toV) (cc := cc) (nL := nL) (index := idx) (C := y.cls) (b := a) (H := H) (locs := locs) (cells := c) (slots := z) (g := F0 m pc ls ((as.reverse ++ xA a :: st).map toV)) (below := below) (meth := meth) (e := e) (Ts := wAll) (own := own) (s := s) (p := p) ⟨hx, hb, hml, hown, hts⟩ hct ⟨callB_a hts hm hlk hR, hts _ hse.2, hts _ hse.1⟩
    ⟨PcD_blind, ⟨cell, g1, by rw [g3]; rfl, by rw [g2, ← hcn]; exact (hK.1.1 ci rv hcl).2.1⟩, fun U hU hW => ⟨by simp [toV, va_rf], by rw [hU]; exact hu.alike hW.alike, hK.warm hW⟩⟩ rfl (by simp [hn]) (by rw [← hml]; exact hl.1) (by simp [toV, va_rf]) (lv_room (by
      have : (st.map toV).map (fun v => v.category) = st.map fun v => ca_t v := by rw [List.map_map]; exact List.map_congr_left fun v _ => toV_cat v
      rw [this]; exact hw)) hd ⟨hc, hz⟩
  have keepS : ∀ (st₀ t T' : State) (L : List Loc), st₀.heap = H → T'.heap = t.heap → (∀ q ∈ L, dA_ D q.base) → va_F (dA_ D) st₀ t → va_S (dA_ D) s.heap T'.heap (locs ++ L) := by
    intro st₀ t T' L h0 e1 hL hF
    obtain ⟨hz, hk⟩ := hF
    rw [h0] at hz hk
    refine ⟨Nat.le_trans hS.1 (by rw [e1]; exact hz), fun q h1 h2 => ?_, fun q hq => ?_⟩
    · rw [e1, hk q (Nat.lt_of_lt_of_le h1 hS.1) h2]
      exact hS.2.1 q h1 h2
    · rcases List.mem_append.mp hq with h | h
      · exact hS.2.2 q h
      · exact hL q h
  intro T hT X
  rcases hrun T hT X with ⟨v, st₀, t, T', L, h0, X', hL, e1, e2, ⟨r, u1, hv, hp, hu1, hF⟩, st1⟩ | ⟨q, st₀, t, T', L, E, ce, h0, X', hL, e1, e2, ⟨u1, hp, hu1, hF⟩, hce, hcv, hcl, st1⟩
  · cases hv
    have hS' := keepS st₀ t T' L h0 e1 hL hF
    have hvm : t.vm.Alike s.vm := by rw [← e2]; exact X'.warmed.alike.symm
    obtain ⟨t2, a1, b1⟩ := kk r u1 hp T'.heap (locs ++ L) ls (by rw [e1]; exact hu1.alike hvm) hS' hl T' rfl X'
    refine ⟨t2, st1 t2 ?_, b1⟩
    have he : (r.toList ++ st).map toV = (r.map toV).toList ++ st.map toV := by cases r <;> simp
    rw [he] at a1
    exact a1
  · have hS' := keepS st₀ t T' L h0 e1 hL hF
    have hvm : t.vm.Alike s.vm := by rw [← e2]; exact X'.warmed.alike.symm
    obtain ⟨t2, a1, b1⟩ := kx E q u1 hp T'.heap (locs ++ L) ls (st.map toV) ce (by rw [e1]; exact hu1.alike hvm) hS' hl (by rw [e1]; exact hce) hcv hcl T' rfl X'
    exact ⟨t2, st1.trans a1, b1⟩
/-- the classes that the law's methods catch, by their links -/
def ctL : List (Nat × String) := [(13, xIS), (19, xIO), (21, xIA)]
set_option maxRecDepth 100000 in
theorem ctL_in : ∀ q ∈ ctL, Cond.classLink RL q.1 q.2 ∈ wAll := by
  intro q hq
  simp only [ctL, List.mem_cons, List.not_mem_nil, or_false] at hq
  rcases hq with rfl | rfl | rfl
  · exact in_at 746 (by decide +kernel) (by decide +kernel)
  · exact in_at 778 (by decide +kernel) (by decide +kernel)
  · exact in_at 779 (by decide +kernel) (by decide +kernel)
theorem cast_in {E : String} {s : State} {args : Array Value} (hE : E = xIS ∨ E = xIA ∨ E = xIO) (hts : ∀ w ∈ wAll, w.before args s = true) (hK : KX s) : (Cond.castable E E).before args s = true := by
  rcases hE with rfl | rfl | rfl
  · exact xWs_at (k := 0) (by decide) hts hK _ (by decide +kernel)
  · exact xWs_at (k := 1) (by decide) hts hK _ (by decide +kernel)
  · exact xWs_at (k := 2) (by decide) hts hK _ (by decide +kernel)
/-- it is caught by the row x of the table, past the rows ahead -/
theorem r_catch (hC : CxOK C cc RL R nL) {hh hp hs : List (Nat × Nat × Nat × Nat)} {a b h ct : Nat} {E : String} {q : Nat} (hT : TabOK C hh) (hsp : hh = hp ++ (a, b, h, ct) :: hs) (hcov : a ≤ pc ∧ pc < b) (hE : E = xIS ∨ E = xIA ∨ E = xIO) (hct : (ct, E) ∈ ctL) (hpre : ∀ x ∈ hp, ∃ nm, (x.2.2.2, nm) ∈ ctL ∧ (E, nm) ∈ ncL)
    (kk : VW C h lv [xA q] u c z) : XW C pc lv E q u c z := by
  obtain ⟨p, l, e, R1, s, m, args, below, meth, cd, Q, D⟩ := C
  obtain ⟨hx, hb, hml, hown, hts, ⟨hK, hKX⟩, hR1, hbs, hfl, hlk0⟩ := hC
  intro H locs ls rest ce hu hS hl hce hcv hcl
  have hT' : cd.exceptionTable.toList = tableOf hp ++ (⟨a, b, h, ct⟩ : ExceptionTableEntry) :: tableOf hs := by
    have h0 : cd.exceptionTable.toList = tableOf hh := hT
    rw [h0, hsp]
    unfold tableOf
    rw [List.map_append, List.map_cons]
  have h0 : ct ≠ 0 := by
    intro e0
    subst e0
    simp [ctL] at hct
  refine vx_catch (own := RL) (name := E) (E := E) (ce := ce) hown (tableOf hp) ⟨a, b, h, ct⟩ (tableOf hs) hT' (fun y hy => ?_) ?_ h0 (hts _ (ctL_in _ hct)) (cast_in hE hts hKX) hce hcv hcl (kk H locs ls hu hS hl)
  · right
    unfold tableOf at hy
    obtain ⟨x, hx1, rfl⟩ := List.mem_map.mp hy
    obtain ⟨nm, n1, n2⟩ := hpre x hx1
    refine ⟨fun e0 => ?_, nm, hts _ (ctL_in _ n1), hKX.2.2.2 _ n2⟩
    have e0' : x.2.2.2 = 0 := e0
    rw [e0'] at n1
    simp [ctL] at n1
  · unfold covers
    simp only [Bool.and_eq_true, decide_eq_true_eq]
    exact hcov
/-- a call of a method with a table -/
def MIH (y : MethodName) (b : ByteArray) (mL : Nat) (rt : Option FieldType) (hh : List (Nat × Nat × Nat × Nat)) (n : Nat) : Prop := Cond.initialized y.cls ∈ wAll ∧ Cond.codeWith y b mL rt hh ∈ wAll ∧ (y.cls ≠ "java/lang/invoke/MethodHandle" ∧ y.cls ≠ "java/lang/invoke/VarHandle" ∧ (parseMethodDescriptor y.desc).map (fun d => d.parameters.length) = some n)
theorem r_callH (hC : CxOK C cc own R nL) {y : MethodName} {b : ByteArray} {mL idx n : Nat} {hh : List (Nat × Nat × Nat × Nat)} {as : List SV} (hd : decode cc pc = .ok (.invokestatic idx, 3)) (hm : MIH y b mL rt hh n) (hse : Cond.static y ∈ wAll) (hlk : Cond.methodLink own idx y ∈ wAll) (hR : rm.frames + 1 ≤ R.frames ∧ 8 + (mL + 11) + rm.locals ≤ R.locals) (hn : as.length = n) (hw : (st.map fun v => ca_t v).sum ≤ 8) (hc : c + rm.cells ≤ R.cells) (hz : z + rm.slots ≤ R.slots)
    (hct : CTH (cxL C) (cxD C) y b mL rt hh rm as u post) (kk : ∀ (r : Option SV) (u1 : Mem), post r u1 → VW C (pc + 3) lv (r.toList ++ st) u1 (c + rm.cells) (z + rm.slots)) {st0 : List SV} (h0 : as.reverse ++ st = st0) : VW C pc lv st0 u c z := by
  subst h0
  obtain ⟨p, l, e, R1, s, m, args, below, meth, cd, Q, D⟩ := C
  obtain ⟨hx, hb, hml, hown, hts, hK, hR1, hbs, hfl, hlk0⟩ := hC
  intro H locs ls hu hS hl
  subst hR1
  have hrun := vx_runSW (hh := hh) (ret := rt) (bytes := b) (maxL := mL) (As := as.map toV) (rest := st.map toV) (cc := cc) (nL := nL) (index := idx) (H := H) (locs := locs) (cells := c) (slots := z) (g := F0 m pc ls ((as.reverse ++ st).map toV)) (below := below) (meth := meth) (e := e) (Ts := wAll) (own := own) (s := s) (p := p) ⟨hx, hb, hml, hown, hts⟩ hct
    (vx_cwSW (Ts := wAll) n hts (fun w hw => by
      unfold va_wsS at hw
      simp only [List.mem_append, List.mem_cons, List.not_mem_nil, or_false] at hw
      rcases hw with (rfl | rfl | rfl) | hw
      · exact ⟨hlk, wAll_good hlk⟩
      · exact ⟨hse, wAll_good hse⟩
      · exact ⟨hm.1, wAll_good hm.1⟩
      · rcases List.mem_cons.mp hw with h | h
        · rw [h]; exact ⟨hm.2.1, wAll_good hm.2.1⟩
        · exact ⟨h, wAll_good h⟩) rfl rfl rfl hm.2.2 hR)
    ⟨PcD_blind, fun U hU hW => ⟨rfl, by rw [hU]; exact hu.alike hW.alike, hK.warm hW⟩⟩ rfl (by simp [hn]) (by rw [← hml]; exact hl.1) (by simp) (lv_room (by
      have : (st.map toV).map (fun v => v.category) = st.map fun v => ca_t v := by rw [List.map_map]; exact List.map_congr_left fun v _ => toV_cat v
      rw [this]; exact hw)) hd ⟨hc, hz⟩
  exact run_go hrun hS hl kk
end CATCH
