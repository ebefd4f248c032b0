/-! ===== a method that may throw, over the abstract memory ===== -/
/-- the same memory, with more cells behind it -/
def wN (u : Mem) (n : Nat) : Mem := (u.1, u.2.1, u.2.2.1, u.2.2.2.1, n)
theorem mSh_wN (u : Mem) (n : Nat) : mSh (wN u n) = mSh u := rfl
theorem mI_wN (u : Mem) (n : Nat) : mI (wN u n) = mI u := rfl
theorem mP_wN (u : Mem) (n : Nat) : mP (wN u n) = mP u := rfl
theorem mJ_wN (u : Mem) (n : Nat) : mJ (wN u n) = mJ u := rfl
theorem mN_wN (u : Mem) (n : Nat) : mN (wN u n) = n := rfl
theorem wN_self (u : Mem) : wN u (mN u) = u := rfl
theorem Rel.wN {D : DD} {U : State} {u : Mem} {H H1 : Heap} (h : Rel D U u H) (hz : H.size ≤ H1.size) (ho : ∀ q : Nat, q < H.size → H1[q]? = H[q]?) : Rel D U (wN u H1.size) H1 := by
  obtain ⟨h1, h2, h3, h4, h5⟩ := h
  refine ⟨rfl, Nat.le_trans h2 (by rw [← h1]; exact hz), fun a ha => ?_, h4.kept fun q hq _ => ho q hq, fun a => ?_⟩
  · rw [mSh_wN]
    rw [mN_wN] at ha
    exact h3 a (by rw [← h1]; exact Nat.le_trans hz ha)
  · exact (h5 a).other rfl (fun _ => rfl) (fun _ => rfl) (fun _ => rfl) fun c hc => by rw [ho a (Array.getElem?_eq_some_iff.mp hc).1]; exact hc
def QxD (D : DD) (px : String → Mem → Prop) : String → State → State → Prop := fun E st t => ∃ u1, px E u1 ∧ Rel D t u1 t.heap ∧ va_F (dA_ D) st t
/-- a contract of a method that answers, or throws -/
def CTX (l : Launch) (D : DD) (y : MethodName) (b : ByteArray) (mL : Nat) (rt : Option FieldType) (rm : Room) (args : List SV) (u : Mem) (post : Option SV → Mem → Prop) (px : String → Mem → Prop) : Prop :=
  vx_Met l y (wsY y b mL rt) rm (va_Pc (args.map toV) (PcD D u)) (QcD D post) (QxD D px) rm.cells rm.slots (dA_ D)
/-- what its throw owes -/
def RetX : Cx → Room → (Option SV → Mem → Prop) → (String → Mem → Prop) → Prop
  | (p, l, e, R, s, m, args, below, meth, cd, Q, D), rm, post, px => (∀ x ∈ cd.exceptionTable.toList, False) ∧ ∀ (H : Heap) (locs : List Loc) (c z : Nat) (g : JFrame), W p l e R s m args below meth cd H locs c z (vx_MQ below (QcD D post) (QxD D px) args s rm.cells rm.slots (dA_ D)) g → W p l e R s m args below meth cd H locs c z Q g
theorem CTX.of {l : Launch} {D : DD} {y : MethodName} {b : ByteArray} {mL : Nat} {rt : Option FieldType} {rm : Room} {as : List SV} {u : Mem} {post : Option SV → Mem → Prop} {px : String → Mem → Prop} (hfl : l.stackTraces = false) (hy : plainName y.cls = true) (hlen : (lv0 as).length ≤ mL)
    (body : ∀ C : Cx, CxOK C b y.cls rm mL → RetOK C rt rm post → RetX C rm post px → cxL C = l → cxD C = D → cxN C = y.name → VW C 0 (lv0 as ++ List.replicate (mL - (lv0 as).length) none) [] u 0 0) : CTX l D y b mL rt rm as u post px := by
  refine vx_ofW (cc := b) (maxL := mL) (ret := rt) hy rfl ?_
  intro p e s m args below meth c s₁ B hml hno hv
  obtain ⟨rfl, hu, hK⟩ := hv
  have hts := atoms_spec (ws := wsY y b mL rt) B.pre
  have hown : s.vm.findClass y.cls = some m.cls := findClass_of_methodNamed B.named
  have hnm := (name_of_methodNamed B.named B.method).1
  have hs0 : D.1 ≤ s.heap.size := by rw [hu.1]; exact hu.2.1
  rw [lg_entry_eq]
  have hl := lv_entry (as.map toV) (n := mL) (by rw [lg_sl_len]; exact hlen)
  generalize (lg_sl (as.map toV) ++ List.replicate (mL - (lg_sl (as.map toV)).length) Slot.unset).toArray = ls at hl ⊢
  rw [lv0_args, ← lvals_pad _ (mL - (lv0 as).length)] at hl
  exact body (p, l, e, _, s, m, (as.map toV).toArray, below, meth, c, _, D) ⟨B.exec, B.bytes, hml, hown, fun w hw => hts w (List.mem_cons_of_mem _ hw), hK, rfl, hs0, hfl, B.notSynchronized⟩ ⟨B.returns, fun _ _ _ h => vx_ret h⟩ ⟨hno, fun _ _ _ _ _ h => h⟩ rfl rfl hnm s.heap [] ls hu va_S.rf (by rw [hml]; exact hl)
/-- what it throws: three classes, each by its own links -/
def xTh : Nat → Nat × Nat × String
  | 0 => (41, 45, xIS)
  | 1 => (67, 71, xIA)
  | _ => (58, 62, xIO)
def xNm : List String := ["java/lang/RuntimeException", "java/lang/Exception"]
def xWs (k : Nat) : List Cond := .classLink RX7 (xTh k).1 (xTh k).2.2 :: .initialized (xTh k).2.2 :: vx_atS RX7 (xTh k).2.1 (xTh k).2.2 xNm
def xPs (k : Nat) : List Nat := (xWs k).map fun w => lw_tbl.findIdx (fun v => decide (v = w))
set_option maxRecDepth 100000 in
theorem xWs_0 : xWs 0 = (xPs 0).filterMap (fun i => lw_tbl[i]?) := by decide +kernel
set_option maxRecDepth 100000 in
theorem xWs_1 : xWs 1 = (xPs 1).filterMap (fun i => lw_tbl[i]?) := by decide +kernel
set_option maxRecDepth 100000 in
theorem xWs_2 : xWs 2 = (xPs 2).filterMap (fun i => lw_tbl[i]?) := by decide +kernel
theorem xWs_g0 : (xWs 0).all (fun w => vx_ot w && (goodWord w || nwF w)) = true := by decide +kernel
theorem xWs_g1 : (xWs 1).all (fun w => vx_ot w && (goodWord w || nwF w)) = true := by decide +kernel
theorem xWs_g2 : (xWs 2).all (fun w => vx_ot w && (goodWord w || nwF w)) = true := by decide +kernel
theorem xWs_in {k : Nat} (hk : k < 3) : ∀ w ∈ xWs k, w ∈ lw_tbl ∧ vx_ot w = true ∧ (goodWord w = true ∨ nwF w = true) := by
  intro w hw
  have h : xWs k = (xPs k).filterMap (fun i => lw_tbl[i]?) ∧ (xWs k).all (fun w => vx_ot w && (goodWord w || nwF w)) = true := by
    rcases k with _ | _ | _ | k
    · exact ⟨xWs_0, xWs_g0⟩
    · exact ⟨xWs_1, xWs_g1⟩
    · exact ⟨xWs_2, xWs_g2⟩
    · omega
  have h2 := List.all_eq_true.mp h.2 w hw
  rw [h.1] at hw
  obtain ⟨i, -, hi⟩ := List.mem_filterMap.mp hw
  rw [Bool.and_eq_true, Bool.or_eq_true] at h2
  exact ⟨List.mem_of_getElem? hi, h2.1, h2.2⟩
theorem xWs_at {k : Nat} (hk : k < 3) {args : Array Value} {s : State} (hts : ∀ w ∈ wAll, w.before args s = true) (hK : KX s) : ∀ w ∈ xWs k, w.before args s = true := by
  intro w hw
  obtain ⟨h1, h2, h3⟩ := xWs_in hk w hw
  rcases h3 with h | h
  · exact hts w (List.mem_filter.mpr ⟨h1, h⟩)
  · refine va_Nw.use ?_ (hK.2.2.1 w h1 h)
    cases w <;> first | rfl | cases h
theorem xNm_fit : ∀ n ∈ xNm, Bundle.fit n = true := by decide +kernel
theorem xTh_fit {k : Nat} (hk : k < 3) : Bundle.fit (xTh k).2.2 = true := by
  rcases k with _ | _ | _ | k
  · decide +kernel
  · decide +kernel
  · decide +kernel
  · omega
/-- 'throw new E("text")' -/
theorem r_throw {C : Cx} {cc : ByteArray} {nL : Nat} {pc : Nat} {lv : LV} {u : Mem} {c z : Nat} {rm : Room} {post : Option SV → Mem → Prop} {px : String → Mem → Prop} (hC : CxOK C cc RX7 rm nL) (hX : RetX C rm post px) (k : Nat) (hk : k < 3) {q : String × Nat × String} (ht : q ∈ txts) (hq : q.1 = RX7)
    (d0 : decode cc pc = .ok (.new (xTh k).1, 3)) (d3 : decode cc (pc + 3) = .ok (.dup, 1)) (d4 : decode cc (pc + 4) = .ok (.ldc q.2.1, 2)) (d6 : decode cc (pc + 6) = .ok (.invokespecial (xTh k).2.1, 3)) (d9 : decode cc (pc + 9) = .ok (.athrow, 1))
    (hR : 6 ≤ rm.frames ∧ 82 ≤ rm.locals) (hcs : c + 1 ≤ rm.cells) (hzs : z + 6 ≤ rm.slots) (kk : ∀ n : Nat, mN u ≤ n → px (xTh k).2.2 (wN u n)) : VW C pc lv [] u c z := by
  obtain ⟨p, l, e, R, s, m, args, below, meth, cd, Q, D⟩ := C
  obtain ⟨hx, hb, hml, hown, hts, ⟨hK, hKX⟩, hR1, hbs, hfl, hlk⟩ := hC
  subst hR1
  intro H locs ls hu hS hl
  obtain ⟨hno, hQ⟩ := hX
  obtain ⟨sa, hstr⟩ := hKX.2.1 q ht
  rw [hq] at hstr
  have hw := xWs_at hk (args := args) hts hKX
  have hE := (hu.2.2.2.1)
  have hback : ∀ a : Nat, a < H.size → ¬ D.1 ≤ a → s.heap[a]? = H[a]? := fun a _ hn => (hS.2.1 a (by omega) hn).symm
  refine hQ H locs c z _ (vx_throwS hx hb hfl (own := RX7) (cls := (xTh k).2.2) (text := q.2.2) (names := xNm) (ik := (xTh k).1) (is := q.2.1) (ic := (xTh k).2.1) (sa := sa) (A := fun q => D.1 ≤ q) hown (xTh_fit hk) xNm_fit (hw _ List.mem_cons_self) (hw _ (List.mem_cons_of_mem _ List.mem_cons_self)) hstr (fun w h => hw w (List.mem_cons_of_mem _ (List.mem_cons_of_mem _ h))) (fun w h => (xWs_in hk w h).2.1) (hE.2.1.kept hback) (hE.2.2.1.kept hback) hS hl.1 d0 d3 d4 d6 d9 (fun x h => absurd h (hno x)) (by show 2 + 3 < _; omega) (by show 0 + (13 * (2 + 1) + 43) ≤ _; omega) hcs hzs hlk ?_ (fun z hz => hS.2.2 z hz) hcs hzs)
  intro t hal hsz hkeep
  exact ⟨wN u t.heap.size, kk _ (by rw [← hu.1]; exact hsz), (hu.wN hsz hkeep).alike hal, Nat.le_trans hS.1 hsz, fun q h1 h2 => by rw [hkeep q (Nat.lt_of_lt_of_le h1 hS.1)]; exact hS.2.1 q h1 h2⟩
theorem tx_103 : ("OutboxRelay", 103, "no such receiver") ∈ txts := List.mem_of_getElem? (i := 0) rfl
theorem tx_105 : ("OutboxRelay", 105, "topics") ∈ txts := List.mem_of_getElem? (i := 1) rfl
theorem tx_118 : ("OutboxRelay", 118, "ticks") ∈ txts := List.mem_of_getElem? (i := 2) rfl
theorem tx_132 : ("OutboxRelay", 132, "no message") ∈ txts := List.mem_of_getElem? (i := 3) rfl
theorem tx_143 : ("OutboxRelay", 143, "no such setting") ∈ txts := List.mem_of_getElem? (i := 4) rfl
theorem tx_148 : ("OutboxRelay", 148, "value") ∈ txts := List.mem_of_getElem? (i := 5) rfl
theorem tx_153 : ("OutboxRelay", 153, "rows are committed") ∈ txts := List.mem_of_getElem? (i := 6) rfl
theorem tx_194 : ("OutboxRelay", 194, "no such rank") ∈ txts := List.mem_of_getElem? (i := 7) rfl
theorem tx_196 : ("OutboxRelay", 196, "what") ∈ txts := List.mem_of_getElem? (i := 8) rfl
theorem tx_205 : ("OutboxRelay", 205, "no such place") ∈ txts := List.mem_of_getElem? (i := 9) rfl
theorem tx_246 : ("OutboxRelay", 246, "no such place or receiver") ∈ txts := List.mem_of_getElem? (i := 10) rfl
theorem tx_43 : ("OutboxRelay", 43, "no free place") ∈ txts := List.mem_of_getElem? (i := 11) rfl
theorem tx_60 : ("OutboxRelay", 60, "no transaction") ∈ txts := List.mem_of_getElem? (i := 12) rfl
theorem tx_69 : ("OutboxRelay", 69, "topic or value") ∈ txts := List.mem_of_getElem? (i := 13) rfl
theorem tx_75 : ("OutboxRelay", 75, "transaction is full") ∈ txts := List.mem_of_getElem? (i := 14) rfl
theorem tx_84 : ("OutboxRelay", 84, "too many rows") ∈ txts := List.mem_of_getElem? (i := 15) rfl
