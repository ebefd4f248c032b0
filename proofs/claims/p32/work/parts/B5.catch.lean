/-! ===== a method with a table of its own, and what it catches ===== -/
/-- thrown here, and q is what was thrown -/
def XW : Cx → Nat → LV → String → Nat → Mem → Nat → Nat → Prop
  | (p, l, e, R, s, m, args, below, meth, cd, Q, D), pc, lv, E, q, u, c, z => ∀ (H : Heap) (locs : List Loc) (ls : Array Slot) (rest : List Value) (ce : Cell), Rel D s u H → va_S (dA_ D) s.heap H locs → lv_has ls cd.maxLocals (lvals 0 lv) → H[q]? = some ce → ce.vm = .none → s.vm.findClass E = some ce.cls → vx_W p l e R s m args below meth cd H locs c z Q (F0 m pc ls rest) q
section CATCH
variable {C : Cx} {cc : ByteArray} {own : String} {R : Room} {nL : Nat} {pc : Nat} {lv : LV} {st : List SV} {u : Mem} {c z : Nat}
variable {rt : Option FieldType} {rm : Room} {post : Option SV → Mem → Prop} {px : String → Mem → Prop}
/-- a call of a method that may throw -/
theorem r_callX (hC : CxOK C cc own R nL) {y : MethodName} {b : ByteArray} {mL idx n ci a : Nat} {as : List SV} {rv : vw_C} (hd : decode cc pc = .ok (.invokevirtual idx, 3)) (hm : MI y b mL rt n) (hse : Cond.selects y.cls y y ∈ wAll ∧ Cond.instanceMethod y ∈ wAll) (hlk : Cond.methodLink own idx y ∈ wAll) (hR : rm.frames + 1 ≤ R.frames ∧ 8 + (mL + 11) + rm.locals ≤ R.locals) (hs : mSh u a = some (.inl ci)) (hcl : vwCl[ci]? = some rv) (hcn : rv.1 = y.cls) (hn : as.length = n) (hw : (st.map fun v => ca_t v).sum ≤ 8) (hc : c + rm.cells ≤ R.cells) (hz : z + rm.slots ≤ R.slots)
    (hct : CTX (cxL C) (cxD C) y b mL rt rm (xA a :: as) u post px) (kk : ∀ (r : Option SV) (u1 : Mem), post r u1 → VW C (pc + 3) lv (r.toList ++ st) u1 (c + rm.cells) (z + rm.slots)) (kx : ∀ (E : String) (q : Nat) (u1 : Mem), px E u1 → XW C pc lv E q u1 (c + rm.cells) (z + rm.slots)) {st0 : List SV} (h0 : as.reverse ++ xA a :: st = st0) : VW C pc lv st0 u c z := by
  subst h0
  obtain ⟨p, l, e, R1, s, m, args, below, meth, cd, Q, D⟩ := C
  obtain ⟨hx, hb, hml, hown, hts, hK, hR1, hbs, hfl, hlk0⟩ := hC
  intro H locs ls hu hS hl
  subst hR1
  obtain ⟨-, r', h1, cell, g1, g2, g3, -⟩ := hu.obj hs
  cases hcl.symm.trans h1
  have hrun := vx_runV (As := as.map toV) (rest := st.map toV) (cc := cc) (nL := nL) (index := idx) (C := y.cls) (b := a) (H := H) (locs := locs) (cells := c) (slots := z) (g := F0 m pc ls ((as.reverse ++ xA a :: st).map toV)) (below := below) (meth := meth) (e := e) (Ts := wAll) (own := own) (s := s) (p := p) ⟨hx, hb, hml, hown, hts⟩ hct ⟨callB_a hts hm hlk hR, hts _ hse.2, hts _ hse.1⟩
    ⟨PcD_blind, ⟨cell, g1, by rw [g3]; rfl, by rw [g2, ← hcn]; exact (hK.1.1 ci rv hcl).2.1⟩, fun U hU hW => ⟨by simp [toV, va_rf], by rw [hU]; exact hu.alike hW.alike, hK.warm hW⟩⟩ rfl (by simp [hn]) (by rw [← hml]; exact hl.1) (by simp [toV, va_rf]) (lv_room (by
      have : (st.map toV).map (fun v => v.category) = st.map fun v => ca_t v := by rw [List.map_map]; exact List.map_congr_left fun v _ => toV_cat v
      rw [this]; exact hw)) hd ⟨hc, hz⟩
  have keepS : ∀ (st₀ t T' : State) (L : List Loc), st₀.heap = H → T'.heap = t.heap → (∀ q ∈ L, dA_ D q.base) → va_F (dA_ D) st₀ t → va_S (dA_ D) s.heap T'.heap (locs ++ L) := by
    intro st₀ t T' L h0 e1 hL hF
    obtain ⟨hz, hk⟩ := hF
    rw [h0] at hz hk
    refine ⟨Nat.le_trans hS.1 (by rw [e1]; exact hz), fun q h1 h2 => ?_, fun q hq => ?_⟩
    · rw [e1, hk q (Nat.lt_of_lt_of_le h1 hS.1) h2]
      exact hS.2.1 q h1 h2
    · rcases List.mem_append.mp hq with h | h
      · exact hS.2.2 q h
      · exact hL q h
  intro T hT X
  rcases hrun T hT X with ⟨v, st₀, t, T', L, h0, X', hL, e1, e2, ⟨r, u1, hv, hp, hu1, hF⟩, st1⟩ | ⟨q, st₀, t, T', L, E, ce, h0, X', hL, e1, e2, ⟨u1, hp, hu1, hF⟩, hce, hcv, hcl, st1⟩
  · cases hv
    have hS' := keepS st₀ t T' L h0 e1 hL hF
    have hvm : t.vm.Alike s.vm := by rw [← e2]; exact X'.warmed.alike.symm
    obtain ⟨t2, a1, b1⟩ := kk r u1 hp T'.heap (locs ++ L) ls (by rw [e1]; exact hu1.alike hvm) hS' hl T' rfl X'
    refine ⟨t2, st1 t2 ?_, b1⟩
    have he : (r.toList ++ st).map toV = (r.map toV).toList ++ st.map toV := by cases r <;> simp
    rw [he] at a1
    exact a1
  · have hS' := keepS st₀ t T' L h0 e1 hL hF
    have hvm : t.vm.Alike s.vm := by rw [← e2]; exact X'.warmed.alike.symm
    obtain ⟨t2, a1, b1⟩ := kx E q u1 hp T'.heap (locs ++ L) ls (st.map toV) ce (by rw [e1]; exact hu1.alike hvm) hS' hl (by rw [e1]; exact hce) hcv hcl T' rfl X'
    exact ⟨t2, st1.trans a1, b1⟩
end CATCH

