/-! ===== arraycopy, clone ===== -/
set_option maxRecDepth 100000 in
theorem nw_ac : Cond.native arraycopyName ∈ wAll := in_at 437 (by decide +kernel) (by decide +kernel)
set_option maxRecDepth 100000 in
theorem sw_ac : Cond.static arraycopyName ∈ wAll := in_at 436 (by decide +kernel) (by decide +kernel)
set_option maxRecDepth 100000 in
theorem iw_sys : Cond.initialized "java/lang/System" ∈ wAll := in_at 18 (by decide +kernel) (by decide +kernel)
set_option maxRecDepth 100000 in
theorem ml_X5_58 : Cond.methodLink RX5 58 arraycopyName ∈ wAll := in_at 435 (by decide +kernel) (by decide +kernel)
set_option maxRecDepth 100000 in
theorem ml_X6_29 : Cond.methodLink RX6 29 arraycopyName ∈ wAll := in_at 442 (by decide +kernel) (by decide +kernel)
set_option maxRecDepth 100000 in
theorem ml_X4_43 : Cond.methodLink RX4 43 arraycopyName ∈ wAll := in_at 447 (by decide +kernel) (by decide +kernel)
set_option maxRecDepth 100000 in
theorem ml_X3_56 : Cond.methodLink RX3 56 arraycopyName ∈ wAll := in_at 452 (by decide +kernel) (by decide +kernel)
set_option maxRecDepth 100000 in
theorem ml_X1_32 : Cond.methodLink RX1 32 arraycopyName ∈ wAll := in_at 461 (by decide +kernel) (by decide +kernel)
abbrev objClone : MethodName := ⟨"java/lang/Object", "clone", "()Ljava/lang/Object;"⟩
abbrev arrClone : MethodName := ⟨"[I", "clone", "()Ljava/lang/Object;"⟩
set_option maxRecDepth 100000 in
theorem ml_X5_13 : Cond.methodLink RX5 13 arrClone ∈ wAll := in_at 35 (by decide +kernel) (by decide +kernel)
set_option maxRecDepth 100000 in
theorem sm_cl : Cond.sameMethod "[I" "java/lang/Object" "clone" "()Ljava/lang/Object;" ∈ wAll := in_at 36 (by decide +kernel) (by decide +kernel)
set_option maxRecDepth 100000 in
theorem nw_cl : Cond.native objClone ∈ wAll := in_at 37 (by decide +kernel) (by decide +kernel)
set_option maxRecDepth 100000 in
theorem iw_cl : Cond.instanceMethod objClone ∈ wAll := in_at 38 (by decide +kernel) (by decide +kernel)
set_option maxRecDepth 100000 in
theorem se_cl : Cond.selects "[I" arrClone objClone ∈ wAll := in_at 39 (by decide +kernel) (by decide +kernel)
set_option maxRecDepth 100000 in
theorem cl_X5_14 : Cond.classLink RX5 14 "[I" ∈ wAll := in_at 41 (by decide +kernel) (by decide +kernel)
set_option maxRecDepth 100000 in
theorem ct_cl : Cond.castable "[I" "java/lang/Cloneable" ∈ lw_tbl := List.mem_of_getElem? (i := 40) (by decide +kernel)
def cpF (u : Mem) (a0 a : Nat) (k : Int) : RW := fun j => if 0 ≤ j ∧ j < k then mI u a0 j else mI u a j
theorem rw_mI (u : Mem) (a : Nat) (j : Int) : Int32.ofInt (mI u a j) = u.2.1 a j := Int32.ofInt_toInt _
section RCP
variable {C : Cx} {cc : ByteArray} {own : String} {R : Room} {nL : Nat} {pc : Nat} {lv : LV} {st : List SV} {u : Mem} {c z : Nat}
theorem r_copy (hC : CxOK C cc own R nL) {a0 a n0 n1 idx : Nat} {k : Int} (hd : decode cc pc = .ok (.invokestatic idx, 3)) (hlk : Cond.methodLink own idx arraycopyName ∈ wAll) (hs0 : mSh u a0 = some (.inr (0, n0))) (hs1 : mSh u a = some (.inr (0, n1))) (hk : 0 ≤ k ∧ k ≤ n0 ∧ k ≤ n1) (hw : (st.map fun v => ca_t v).sum ≤ 8) (hRr : 1 ≤ R.frames ∧ 26 ≤ R.locals) (kk : VW C (pc + 3) lv st (sA u a (cpF u a0 a k)) c z) : VW C pc lv (xI k :: xI 0 :: xA a :: xI 0 :: xA a0 :: st) u c z := by
  obtain ⟨p, l, e, R1, s, m, args, below, meth, cd, Q, D⟩ := C
  obtain ⟨hx, hb, hml, hown, hts, ⟨hK, hKX⟩, hR1, hbs, hfl, hlk0⟩ := hC
  intro H locs ls hu hS hl
  subst hR1
  obtain ⟨-, hn0, hle0, hat0⟩ := hu.arr hs0 (by decide)
  obtain ⟨-, hn1, hle1, hat1⟩ := hu.arr hs1 (by decide)
  rw [aX_0] at hat0 hat1
  obtain ⟨-, k0, hk0, cm0, hkk0⟩ := (hK.2 0 _ (tysD_at D (by decide))).1 n0 (fun j : Nat => .int (u.2.1 a0 j))
  have hwk : (Int32.ofInt k).toInt = k := wr_id ⟨by omega, by omega⟩
  have hkn : (Int32.ofInt k).toNatClampNeg = k.toNat := by show (Int32.ofInt k).toInt.toNat = _; rw [hwk]
  have h3 : ¬ Int32.ofInt k < 0 := fun q => by
    have := (i3_lt (i := k) (j := 0) ⟨by omega, by omega⟩ rg_0).mp q
    omega
  have hrw : (st.map toV).map (fun v => v.category) = st.map fun v => ca_t v := by rw [List.map_map]; exact List.map_congr_left fun v _ => toV_cat v
  have hnf : nativeFrameWords "java/lang/System" "arraycopy" 5 = 7 := by decide
  intro T hT X
  obtain ⟨vm', X', step⟩ := X.arraycopy hx hown (hts _ hlk) (hts _ nw_ac) (hts _ sw_ac) (hts _ iw_sys) (src := a0) (dst := a) (cs := vp_cell (D.2.2.2.1 0) (n0, .inl fun j : Nat => u.2.1 a0 j)) (cd := vp_cell (D.2.2.2.1 0) (n1, .inl fun j : Nat => u.2.1 a j)) (srcPos := 0) (destPos := 0) (n := Int32.ofInt k) (by rw [hT]; exact hat0) (by rw [hT]; exact hat1)
    (fun _ h => by cases h) (fun _ h => by cases h) (fun h => by cases h) (fun h => by cases h) hk0 hk0 hkk0 hkk0 (by simp [aTy, refKind]) (by decide) (by decide) h3
    (by rw [hwk]; show ¬ (0 : Int) + k > ((arrV _ n0 _).slots.size : Int); rw [arrV_size]; omega)
    (by rw [hwk]; show ¬ (0 : Int) + k > ((arrV _ n1 _).slots.size : Int); rw [arrV_size]; omega)
    (fun vm₁ _ i hi => by
      have e : (vp_cell (D.2.2.2.1 0) (n0, .inl fun j : Nat => u.2.1 a0 j)).slots.getD ((0 : Int32).toNatClampNeg + i) .null = .int (u.2.1 a0 (((0 : Int32).toNatClampNeg + i : Nat) : Int)) := by
        show (arrV _ n0 _).slots.getD _ _ = _
        rw [Array.getD_eq_getD_getElem?, arrV_read _ _ (by rw [hkn] at hi; show 0 + i < n0; omega)]
        rfl
      refine ⟨?_, ?_⟩
      · rw [e]; rfl
      · rw [e]
        exact trivial)
    (g := F0 m pc ls ((xI k :: xI 0 :: xA a :: xI 0 :: xA a0 :: st).map toV)) rfl hl.1 (rest := st.map toV) rfl (by rw [hb]; exact hd) hRr.1 (by rw [hrw, hnf]; show 2 * 0 + _ + _ ≤ _; omega)
  have e1 : copied (vp_cell (D.2.2.2.1 0) (n0, .inl fun j : Nat => u.2.1 a0 j)) (vp_cell (D.2.2.2.1 0) (n1, .inl fun j : Nat => u.2.1 a j)) 0 0 (Int32.ofInt k) = vp_cell (D.2.2.2.1 0) (n1, .inl (va_cpy (fun j : Nat => u.2.1 a0 j) (fun j : Nat => u.2.1 a j) (0 : Int32).toNatClampNeg (0 : Int32).toNatClampNeg (Int32.ofInt k).toNatClampNeg)) := va_copied (fun z => .int z) (D.2.2.2.1 0) (D.2.2.2.1 0) (n0 := n0) (n1 := n1) (sp := (0 : Int32).toNatClampNeg) (dp := (0 : Int32).toNatClampNeg) (n := (Int32.ofInt k).toNatClampNeg) (fun j : Nat => u.2.1 a0 j) (fun j : Nat => u.2.1 a j) (by rw [hkn]; show 0 + k.toNat ≤ n0; omega)
  have e2 : va_cpy (fun j : Nat => u.2.1 a0 j) (fun j : Nat => u.2.1 a j) (0 : Int32).toNatClampNeg (0 : Int32).toNatClampNeg (Int32.ofInt k).toNatClampNeg = fun j : Nat => (sA u a (cpF u a0 a k)).2.1 a j := by
    rw [hkn]
    funext j
    show (if 0 ≤ j ∧ j < 0 + k.toNat then u.2.1 a0 ((0 + (j - 0) : Nat) : Int) else u.2.1 a j) = _
    simp only [sA, up1, if_true, cpF]
    by_cases hj : j < k.toNat
    · rw [if_pos ⟨by omega, by omega⟩, if_pos ⟨by omega, by omega⟩, rw_mI]; simp
    · rw [if_neg (by omega), if_neg (by omega), rw_mI]
  rw [e1, e2] at X' step
  have hlt : a < H.size := (Array.getElem?_eq_some_iff.mp hat1).1
  have oq : ∀ (cell : Cell) (q : Nat), q ≠ a → (H.setIfInBounds a cell)[q]? = H[q]? := fun cell q hq => by simp [Array.getElem?_setIfInBounds, Ne.symm hq]
  obtain ⟨t, a1, b1⟩ := kk _ _ ls (hu.put (H1 := H.setIfInBounds a (vp_cell (D.2.2.2.1 0) (n1, .inl fun j : Nat => (sA u a (cpF u a0 a k)).2.1 a j))) hle1 (by simp) (oq _) rfl rfl (fun b hb k' => by simp only [sA, up1, if_neg hb]) (fun _ _ _ => rfl) (fun _ _ _ => rfl) (arr_at (ty := 0) (n := n1) (by decide) (by decide) hn1 hle1 hs1 (by rw [aX_0]; simp [Array.getElem?_setIfInBounds, hlt])))
    ⟨by simp; exact hS.1, fun q g1 g2 => by
      rw [oq _ q (fun e => g2 (by rw [e]; exact hle1))]
      exact hS.2.1 q g1 g2, fun q hq => by
      rcases List.mem_append.mp hq with h | h
      · exact hS.2.2 q h
      · obtain ⟨z, -, hz⟩ := List.mem_map.mp h
        rw [← hz]
        exact hle1⟩ hl _ (by rw [← hT]; rfl) X'
  exact ⟨t, step t a1, b1⟩
theorem r_clone (hC : CxOK C cc own R nL) {a n idx : Nat} (hd : decode cc pc = .ok (.invokevirtual idx, 3)) (hlk : Cond.methodLink own idx arrClone ∈ wAll) (hs : mSh u a = some (.inr (9, n))) (ha : a = (cxD C).2.2.2.2 0) (hw : (st.map fun v => ca_t v).sum ≤ 8) (hRr : 1 ≤ R.frames ∧ 22 ≤ R.locals) (hcs : c + 1 ≤ R.cells) (hzs : z + n ≤ R.slots) (kk : mSh u (mN u) = none → VW C (pc + 3) lv (xA (mN u) :: st) (sA (nC u (some (.inr (0, n)))) (mN u) (mI u a)) (c + 1) (z + n)) : VW C pc lv (xA a :: st) u c z := by
  obtain ⟨p, l, e, R1, s, m, args, below, meth, cd, Q, D⟩ := C
  obtain ⟨hx, hb, hml, hown, hts, ⟨hK, hKX⟩, hR1, hbs, hfl, hlk0⟩ := hC
  intro H locs ls hu hS hl
  subst hR1
  have ha : a = D.2.2.2.2 0 := ha
  obtain ⟨hn, -, cell, h1, h2, h3, h4, h5⟩ := hu.sta hs
  obtain ⟨cell', g1, g2, -⟩ := hu.2.2.2.1.2.2.2
  rw [← ha, h1] at g1
  cases g1
  obtain ⟨kS, hkS, compS, hkindS⟩ := h2.2
  have hRA := (hK.2 0 _ (tysD_at D (by decide))).2
  have hnm : s.vm.findClass "[I" = some cell.cls := by rw [g2]; exact va_nm_int hRA
  have hcl : va_Nw (.castable "[I" "java/lang/Cloneable") s := hKX.2.2.1 _ ct_cl rfl
  obtain ⟨c0, t0', f1, f2, f3⟩ := Cond.castable_spec (va_Nw.use (A := args) rfl hcl)
  cases hnm.symm.trans f1
  have hrw : (st.map toV).map (fun v => v.category) = st.map fun v => ca_t v := by rw [List.map_map]; exact List.map_congr_left fun v _ => toV_cat v
  intro T hT X
  obtain ⟨vm', X', step⟩ := X.cloneArray hx hown (hts _ hlk) (hts _ sm_cl) (hts _ nw_cl) (hts _ iw_cl) (hts _ se_cl) (a := a) (cell := cell) (by rw [hT]; exact h1) h2.1 h3 hnm f2 f3
    (fun i v hv => by
      obtain ⟨kA, hkA, comp, hkind⟩ := (State.isArrayOf_alike X.warmed.alike h2).2
      have hk' : T.vm.classes[cell.cls]? = some kA := hkA
      have hi : i < n := by rw [← h4]; exact (Array.getElem?_eq_some_iff.mp hv).1
      rw [h5 i hi] at hv
      cases hv
      simp [State.fitsSlot, State.slotType?, hk', hkind, fits])
    (g := F0 m pc ls ((xA a :: st).map toV)) rfl hl.1 rfl (by rw [hb]; exact hd) hRr.1 (by rw [hrw]; show 2 * 0 + _ + 14 ≤ _; omega) hcs (by rw [h4]; exact hzs) (hloader := Vm.clonesLoader_of_array hkS hkindS)
  have hce : ({ cls := cell.cls, slots := cell.slots } : Cell) = vp_cell (D.2.2.2.1 0) (n, .inl fun j : Nat => (sA (nC u (some (.inr (0, n)))) (mN u) (mI u a)).2.1 (mN u) j) := by
    have hsl : cell.slots = (arrV (D.2.2.2.1 0) n fun j => .int ((sA (nC u (some (.inr (0, n)))) (mN u) (mI u a)).2.1 (mN u) j)).slots := by
      apply Array.ext_getElem?
      intro j
      by_cases hj : j < n
      · rw [h5 j hj, arrV_read _ _ hj]
        simp only [sA, up1, if_true, rw_mI]
      · rw [Array.getElem?_eq_none (by omega), Array.getElem?_eq_none (by rw [arrV_size]; omega)]
    rw [g2, hsl]
    rfl
  rw [hce, h4] at X'
  have z1 : (H.push (vp_cell (D.2.2.2.1 0) (n, .inl fun j : Nat => (sA (nC u (some (.inr (0, n)))) (mN u) (mI u a)).2.1 (mN u) j))).size = H.size + 1 := by rw [Array.size_push]
  have o1 : ∀ q : Nat, q < H.size → (H.push (vp_cell (D.2.2.2.1 0) (n, .inl fun j : Nat => (sA (nC u (some (.inr (0, n)))) (mN u) (mI u a)).2.1 (mN u) j)))[q]? = H[q]? := fun q hq => by rw [Array.getElem?_push, if_neg (Nat.ne_of_lt hq)]
  have hRel : Rel D s (sA (nC u (some (.inr (0, n)))) (mN u) (mI u a)) (H.push (vp_cell (D.2.2.2.1 0) (n, .inl fun j : Nat => (sA (nC u (some (.inr (0, n)))) (mN u) (mI u a)).2.1 (mN u) j))) := by
    obtain ⟨i1, i2, i3, i4, i5⟩ := hu
    refine ⟨by rw [z1, i1]; rfl, by show D.1 ≤ mN u + 1; omega, fun b hb => ?_, i4.kept fun q hq _ => o1 q hq, fun b => ?_⟩
    · have hb : mN u + 1 ≤ b := hb
      show (if b = mN u then _ else mSh u b) = none
      rw [if_neg (by omega)]
      exact i3 b (by omega)
    · by_cases hbq : b = mN u
      · subst hbq
        refine arr_at (ty := 0) (n := n) (by decide) (by decide) hn i2 (by show (if mN u = mN u then _ else _) = _; rw [if_pos rfl]) ?_
        rw [aX_0, ← i1, Array.getElem?_push_size]
      · refine (i5 b).other ?_ ?_ ?_ ?_ ?_
        · show (if b = mN u then _ else mSh u b) = _; rw [if_neg hbq]
        · intro k; simp only [sA, nC, up1, if_neg hbq]
        · intro k; simp only [sA, nC, up1, if_neg hbq]
        · intro k; simp only [sA, nC, up1, if_neg hbq]
        · intro q hq
          rw [o1 b ((Array.getElem?_eq_some_iff.mp hq).1)]
          exact hq
  obtain ⟨t, a1, b1⟩ := kk (hu.2.2.1 _ (Nat.le_refl _)) (H.push (vp_cell (D.2.2.2.1 0) (n, .inl fun j : Nat => (sA (nC u (some (.inr (0, n)))) (mN u) (mI u a)).2.1 (mN u) j))) locs ls hRel ⟨by rw [z1]; exact Nat.le_trans hS.1 (Nat.le_succ _), fun q q1 q2 => (o1 q (Nat.lt_of_lt_of_le q1 hS.1)).trans (hS.2.1 q q1 q2), hS.2.2⟩ hl
    ((T.setVm vm').pushCell (vp_cell (D.2.2.2.1 0) (n, .inl fun j : Nat => (sA (nC u (some (.inr (0, n)))) (mN u) (mI u a)).2.1 (mN u) j))) (by rw [← hT]; rfl) X'
  refine ⟨t, step t ?_, b1⟩
  rw [hce, hT, hu.1]
  exact a1
theorem r_castI (hC : CxOK C cc own R nL) {a n idx : Nat} (hd : decode cc pc = .ok (.checkcast idx, 3)) (hcl : Cond.classLink own idx "[I" ∈ wAll) (hs : mSh u a = some (.inr (0, n))) (kk : VW C (pc + 3) lv (xA a :: st) u c z) : VW C pc lv (xA a :: st) u c z := by
  obtain ⟨p, l, e, R1, s, m, args, below, meth, cd, Q, D⟩ := C
  obtain ⟨hx, hb, hml, hown, hts, ⟨hK, hKX⟩, hR1, hbs, hfl, hlk0⟩ := hC
  intro H locs ls hu hS hl
  obtain ⟨-, hn, hle, hat⟩ := hu.arr hs (by decide)
  have hRA := (hK.2 0 _ (tysD_at D (by decide))).2
  exact va_castA (D := (D.2.1, D.2.2.1)) (cl := vwCl) (ws := [(a, .inl (D.2.2.2.1 0, n, .inl fun j : Nat => u.2.1 a j))]) hx hb hown (hts _ hcl) (va_P1 hat) 0 rfl (va_nm_int hRA) hd (kk H locs ls hu hS hl)
end RCP
/-! ===== nest mates: the static row, isBelow ===== -/
set_option maxRecDepth 100000 in
theorem fn_X5_9 : Cond.fieldLinkNest RX5 9 "OutboxRelay" "SETTING_FIRST" "[I" "OutboxRelay" ∈ lw_tbl := List.mem_of_getElem? (i := 33) (by decide +kernel)
set_option maxRecDepth 100000 in
theorem mn_X5_81 : Cond.methodLinkNest RX5 81 yX7_isBelow "OutboxRelay" ∈ lw_tbl := List.mem_of_getElem? (i := 656) (by decide +kernel)
section RNE
variable {C : Cx} {cc : ByteArray} {own : String} {R : Room} {nL : Nat} {pc : Nat} {lv : LV} {st : List SV} {u : Mem} {c z : Nat}
variable {rt : Option FieldType} {rm : Room} {post : Option SV → Mem → Prop}
theorem r_getSN (hC : CxOK C cc own R nL) {k idx : Nat} (hd : decode cc pc = .ok (.getstatic idx, 3)) (hk : k < 3) (hlink : Cond.fieldLinkNest own idx "OutboxRelay" (sNm k) "[I" "OutboxRelay" ∈ lw_tbl) (kk : VW C (pc + 3) lv (xA ((cxD C).2.2.2.2 k) :: st) u c z) : VW C pc lv st u c z := by
  obtain ⟨p, l, e, R1, s, m, args, below, meth, cd, Q, D⟩ := C
  obtain ⟨hx, hb, hml, hown, hts, ⟨hK, hKX⟩, hR, hbs, hfl, hlk⟩ := hC
  intro H locs ls hu hS hl
  obtain ⟨cf, kf, fi, f, a, cell, h1, h2, h3, h4, h5, h6, h7, h8⟩ := hu.2.2.2.1.1 k hk
  exact va_WgetsN hx hb hown (va_Nw.use (A := args) rfl (hKX.2.2.1 _ hlink rfl)) h1 h2 h3 h4 h5 (fun e => by rw [e] at h6; cases h6) h7 rfl hd (kk H locs ls hu hS hl)
theorem r_callSN (hC : CxOK C cc own R nL) {y : MethodName} {host : String} {b : ByteArray} {mL idx n : Nat} {as : List SV} (hd : decode cc pc = .ok (.invokestatic idx, 3)) (hm : MI y b mL rt n) (hse : Cond.static y ∈ wAll) (hlk : Cond.methodLinkNest own idx y host ∈ lw_tbl) (hR : rm.frames + 1 ≤ R.frames ∧ 8 + (mL + 11) + rm.locals ≤ R.locals) (hn : as.length = n) (hw : (st.map fun v => ca_t v).sum ≤ 8) (hc : c + rm.cells ≤ R.cells) (hz : z + rm.slots ≤ R.slots)
    (hct : CT (cxL C) (cxD C) y b mL rt rm as u post) (kk : ∀ (r : Option SV) (u1 : Mem), post r u1 → VW C (pc + 3) lv (r.toList ++ st) u1 (c + rm.cells) (z + rm.slots)) {st0 : List SV} (h0 : as.reverse ++ st = st0) : VW C pc lv st0 u c z := by
  subst h0
  obtain ⟨p, l, e, R1, s, m, args, below, meth, cd, Q, D⟩ := C
  obtain ⟨hx, hb, hml, hown, hts, hK, hR1, hbs, hfl, hlk0⟩ := hC
  intro H locs ls hu hS hl
  subst hR1
  have hG : GoodIn wAll (wsY y b mL rt) := fun w hw => by
    rcases List.mem_cons.mp hw with h | h
    · rw [h]; exact ⟨hm.2.1, wAll_good hm.2.1⟩
    · exact ⟨h, wAll_good h⟩
  have hrun := va_runSN (As := as.map toV) (rest := st.map toV) (cc := cc) (nL := nL) (index := idx) (H := H) (locs := locs) (cells := c) (slots := z) (g := F0 m pc ls ((as.reverse ++ st).map toV)) (below := below) (meth := meth) (e := e) (Ts := wAll) (own := own) (s := s) (p := p) ⟨hx, hb, hml, hown, hts⟩ hct ⟨va_cnB n hts hG rfl rfl rfl (hK.2.2.2.1 _ hlk rfl) (hts _ hm.1) hm.2.2 hR, hts _ hse, trivial⟩
    ⟨PcD_blind, fun U hU hW => ⟨rfl, by rw [hU]; exact hu.alike hW.alike, hK.warm hW⟩⟩ rfl (by simp [hn]) (by rw [← hml]; exact hl.1) (by simp) (lv_room (by
      have : (st.map toV).map (fun v => v.category) = st.map fun v => ca_t v := by rw [List.map_map]; exact List.map_congr_left fun v _ => toV_cat v
      rw [this]; exact hw)) hd ⟨hc, hz⟩
  exact run_go hrun hS hl kk
theorem r_SN0 (hC : CxOK C cc own R nL) {y : MethodName} {host : String} {b : ByteArray} {mL idx n : Nat} {as : List SV} {v : SV} {u1 : Mem} (hd : decode cc pc = .ok (.invokestatic idx, 3)) (hm : MI y b mL rt n) (hse : Cond.static y ∈ wAll) (hlk : Cond.methodLinkNest own idx y host ∈ lw_tbl) (hR : (Nat.ble (rm.frames + 1) R.frames && Nat.ble (8 + (mL + 11) + rm.locals) R.locals && Nat.beq rm.cells 0 && Nat.beq rm.slots 0) = true) (hn : as.length = n) (hw : Nat.ble (st.map fun v => ca_t v).sum 8 = true) (hcz : c ≤ R.cells ∧ z ≤ R.slots)
    (hct : CT (cxL C) (cxD C) y b mL rt rm as u (RT v u1)) (kk : VW C (pc + 3) lv (v :: st) u1 c z) {st0 : List SV} (h0 : as.reverse ++ st = st0) : VW C pc lv st0 u c z := by
  simp only [Bool.and_eq_true] at hR
  obtain ⟨⟨⟨h1, h2⟩, h3⟩, h4⟩ := hR
  have h3 := Nat.eq_of_beq_eq_true h3
  have h4 := Nat.eq_of_beq_eq_true h4
  refine r_callSN hC hd hm hse hlk ⟨le_b h1, le_b h2⟩ hn (le_b hw) (by rw [h3]; exact hcz.1) (by rw [h4]; exact hcz.2) hct ?_ h0
  rintro r u2 ⟨rfl, rfl⟩
  rw [h3, h4]
  exact kk
end RNE
