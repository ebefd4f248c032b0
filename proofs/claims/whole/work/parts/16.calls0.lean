theorem lt_b {a b : Nat} (h : Nat.blt a b = true) : a < b := Nat.le_of_ble_eq_true h
theorem le_b {a b : Nat} (h : Nat.ble a b = true) : a ≤ b := Nat.le_of_ble_eq_true h
def RT (v : SV) (u1 : Mem) : Option SV → Mem → Prop := fun r w => r = some v ∧ w = u1
def RV (u1 : Mem) : Option SV → Mem → Prop := fun r w => r = none ∧ w = u1
section RE
variable {C : Cx} {cc : ByteArray} {own : String} {R : Room} {nL : Nat} {pc : Nat} {lv : LV} {st : List SV} {u : Mem} {c z : Nat}
variable {rt : Option FieldType} {rm : Room} {post : Option SV → Mem → Prop}
/-- calls that make nothing and answer one thing -/
theorem r_V0 (hC : CxOK C cc own R nL) {y : MethodName} {b : ByteArray} {mL idx n ci a : Nat} {as : List SV} {rv : vw_C} {v : SV} {u1 : Mem} (hd : decode cc pc = .ok (.invokevirtual idx, 3)) (hm : MI y b mL rt n) (hse : Cond.selects y.cls y y ∈ wAll ∧ Cond.instanceMethod y ∈ wAll) (hlk : Cond.methodLink own idx y ∈ wAll) (hR : (Nat.ble (rm.frames + 1) R.frames && Nat.ble (8 + (mL + 11) + rm.locals) R.locals && Nat.beq rm.cells 0 && Nat.beq rm.slots 0) = true) (hs : mSh u a = some (.inl ci)) (hcl : vwCl[ci]? = some rv) (hcn : rv.1 = y.cls) (hn : as.length = n) (hw : Nat.ble (st.map fun v => ca_t v).sum 8 = true) (hcz : c ≤ R.cells ∧ z ≤ R.slots)
    (hct : CT (cxL C) (cxD C) y b mL rt rm (xA a :: as) u (RT v u1)) (kk : VW C (pc + 3) lv (v :: st) u1 c z) {st0 : List SV} (h0 : as.reverse ++ xA a :: st = st0) : VW C pc lv st0 u c z := by
  simp only [Bool.and_eq_true] at hR
  obtain ⟨⟨⟨h1, h2⟩, h3⟩, h4⟩ := hR
  have h3 := Nat.eq_of_beq_eq_true h3
  have h4 := Nat.eq_of_beq_eq_true h4
  refine r_callV hC hd hm hse hlk ⟨le_b h1, le_b h2⟩ hs hcl hcn hn (le_b hw) (by rw [h3]; exact hcz.1) (by rw [h4]; exact hcz.2) hct ?_ h0
  rintro r u2 ⟨rfl, rfl⟩
  rw [h3, h4]
  exact kk
theorem r_V0v (hC : CxOK C cc own R nL) {y : MethodName} {b : ByteArray} {mL idx n ci a : Nat} {as : List SV} {rv : vw_C} {u1 : Mem} (hd : decode cc pc = .ok (.invokevirtual idx, 3)) (hm : MI y b mL rt n) (hse : Cond.selects y.cls y y ∈ wAll ∧ Cond.instanceMethod y ∈ wAll) (hlk : Cond.methodLink own idx y ∈ wAll) (hR : (Nat.ble (rm.frames + 1) R.frames && Nat.ble (8 + (mL + 11) + rm.locals) R.locals && Nat.beq rm.cells 0 && Nat.beq rm.slots 0) = true) (hs : mSh u a = some (.inl ci)) (hcl : vwCl[ci]? = some rv) (hcn : rv.1 = y.cls) (hn : as.length = n) (hw : Nat.ble (st.map fun v => ca_t v).sum 8 = true) (hcz : c ≤ R.cells ∧ z ≤ R.slots)
    (hct : CT (cxL C) (cxD C) y b mL rt rm (xA a :: as) u (RV u1)) (kk : VW C (pc + 3) lv st u1 c z) {st0 : List SV} (h0 : as.reverse ++ xA a :: st = st0) : VW C pc lv st0 u c z := by
  simp only [Bool.and_eq_true] at hR
  obtain ⟨⟨⟨h1, h2⟩, h3⟩, h4⟩ := hR
  have h3 := Nat.eq_of_beq_eq_true h3
  have h4 := Nat.eq_of_beq_eq_true h4
  refine r_callV hC hd hm hse hlk ⟨le_b h1, le_b h2⟩ hs hcl hcn hn (le_b hw) (by rw [h3]; exact hcz.1) (by rw [h4]; exact hcz.2) hct ?_ h0
  rintro r u2 ⟨rfl, rfl⟩
  rw [h3, h4]
  exact kk
/-- .. of any post -/
theorem r_V0p (hC : CxOK C cc own R nL) {y : MethodName} {b : ByteArray} {mL idx n ci a : Nat} {as : List SV} {rv : vw_C} (hd : decode cc pc = .ok (.invokevirtual idx, 3)) (hm : MI y b mL rt n) (hse : Cond.selects y.cls y y ∈ wAll ∧ Cond.instanceMethod y ∈ wAll) (hlk : Cond.methodLink own idx y ∈ wAll) (hR : (Nat.ble (rm.frames + 1) R.frames && Nat.ble (8 + (mL + 11) + rm.locals) R.locals && Nat.beq rm.cells 0 && Nat.beq rm.slots 0) = true) (hs : mSh u a = some (.inl ci)) (hcl : vwCl[ci]? = some rv) (hcn : rv.1 = y.cls) (hn : as.length = n) (hw : Nat.ble (st.map fun v => ca_t v).sum 8 = true) (hcz : c ≤ R.cells ∧ z ≤ R.slots)
    (hct : CT (cxL C) (cxD C) y b mL rt rm (xA a :: as) u post) (kk : ∀ (r : Option SV) (u1 : Mem), post r u1 → VW C (pc + 3) lv (r.toList ++ st) u1 c z) {st0 : List SV} (h0 : as.reverse ++ xA a :: st = st0) : VW C pc lv st0 u c z := by
  simp only [Bool.and_eq_true] at hR
  obtain ⟨⟨⟨h1, h2⟩, h3⟩, h4⟩ := hR
  have h3 := Nat.eq_of_beq_eq_true h3
  have h4 := Nat.eq_of_beq_eq_true h4
  refine r_callV hC hd hm hse hlk ⟨le_b h1, le_b h2⟩ hs hcl hcn hn (le_b hw) (by rw [h3]; exact hcz.1) (by rw [h4]; exact hcz.2) hct ?_ h0
  intro r u2 hp
  rw [h3, h4]
  exact kk r u2 hp
theorem r_S0 (hC : CxOK C cc own R nL) {y : MethodName} {b : ByteArray} {mL idx n : Nat} {as : List SV} {v : SV} {u1 : Mem} (hd : decode cc pc = .ok (.invokestatic idx, 3)) (hm : MI y b mL rt n) (hse : Cond.static y ∈ wAll) (hlk : Cond.methodLink own idx y ∈ wAll) (hR : (Nat.ble (rm.frames + 1) R.frames && Nat.ble (8 + (mL + 11) + rm.locals) R.locals && Nat.beq rm.cells 0 && Nat.beq rm.slots 0) = true) (hn : as.length = n) (hw : Nat.ble (st.map fun v => ca_t v).sum 8 = true) (hcz : c ≤ R.cells ∧ z ≤ R.slots)
    (hct : CT (cxL C) (cxD C) y b mL rt rm as u (RT v u1)) (kk : VW C (pc + 3) lv (v :: st) u1 c z) {st0 : List SV} (h0 : as.reverse ++ st = st0) : VW C pc lv st0 u c z := by
  simp only [Bool.and_eq_true] at hR
  obtain ⟨⟨⟨h1, h2⟩, h3⟩, h4⟩ := hR
  have h3 := Nat.eq_of_beq_eq_true h3
  have h4 := Nat.eq_of_beq_eq_true h4
  refine r_callS hC hd hm hse hlk ⟨le_b h1, le_b h2⟩ hn (le_b hw) (by rw [h3]; exact hcz.1) (by rw [h4]; exact hcz.2) hct ?_ h0
  rintro r u2 ⟨rfl, rfl⟩
  rw [h3, h4]
  exact kk
end RE
theorem b_zero {i : Int} (h : i = 0 ∨ i = 1) : rg i := by rcases h with h | h <;> subst h <;> exact ⟨by decide, by decide⟩
