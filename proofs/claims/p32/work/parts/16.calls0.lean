theorem lt_b {a b : Nat} (h : Nat.blt a b = true) : a < b := Nat.le_of_ble_eq_true h
theorem le_b {a b : Nat} (h : Nat.ble a b = true) : a ≤ b := Nat.le_of_ble_eq_true h
def RT (v : SV) (u1 : Mem) : Option SV → Mem → Prop := fun r w => r = some v ∧ w = u1
def RV (u1 : Mem) : Option SV → Mem → Prop := fun r w => r = none ∧ w = u1
section RE
variable {C : Cx} {cc : ByteArray} {own : String} {R : Room} {nL : Nat} {pc : Nat} {lv : LV} {st : List SV} {u : Mem} {c z : Nat}
variable {rt : Option FieldType} {rm : Room} {post : Option SV → Mem → Prop}
/-- calls that make nothing and answer one thing -/
theorem r_V0 (hC : CxOK C cc own R nL) {y : MethodName} {b : ByteArray} {mL idx n ci a : Nat} {as : List SV} {rv : vw_C} {v : SV} {u1 : Mem} (hd : decode cc pc = .ok (.invokevirtual idx, 3)) (hm : MI y b mL rt n) (hse : Cond.selects y.cls y y ∈ wAll ∧ Cond.instanceMethod y ∈ wAll) (hlk : Cond.methodLink own idx y ∈ wAll) (hR : (Nat.ble (rm.frames + 1) R.frames && Nat.ble (8 + (mL + 11) + rm.locals) R.locals && Nat.beq rm.cells 0 && Nat.beq rm.slots 0) = true) (hs : mSh u a = some (.inl ci)) (hcl : vwCl[ci]? = some rv) (hcn : rv.1 = y.cls) (hn : as.length = n) (hw : Nat.ble (st.map fun v => ca_t v).sum 8 = true) (hcz : c ≤ R.cells ∧ z ≤ R.slots)
    (hct : CT (cxL C) (cxD C) y b mL rt rm (xA a :: as) u (RT v u1)) (kk : VW C (pc + 3) lv (v :: st) u1 c z) {st0 : List SV} (h0 : as.reverse ++ xA a :: st = st0) : VW C pc lv st0 u c z := by
  simp only [Bool.and_eq_true] at hR
  obtain ⟨⟨⟨h1, h2⟩, h3⟩, h4⟩ := hR
  have h3 := Nat.eq_of_beq_eq_true h3
  have h4 := Nat.eq_of_beq_eq_true h4
  refine r_callV hC hd hm hse hlk ⟨le_b h1, le_b h2⟩ hs hcl hcn hn (le_b hw) (by rw [h3]; exact hcz.1) (by rw [h4]; exact hcz.2) hct ?_ h0
  rintro r u2 ⟨rfl, rfl⟩
  rw [h3, h4]
  exact kk
theorem r_V0v (hC : CxOK C cc own R nL) {y : MethodName} {b : ByteArray} {mL idx n ci a : Nat} {as : List SV} {rv : vw_C} {u1 : Mem} (hd : decode cc pc = .ok (.invokevirtual idx, 3)) (hm : MI y b mL rt n) (hse : Cond.selects y.cls y y ∈ wAll ∧ Cond.instanceMethod y ∈ wAll) (hlk : Cond.methodLink own idx y ∈ wAll) (hR : (Nat.ble (rm.frames + 1) R.frames && Nat.ble (8 + (mL + 11) + rm.locals) R.locals && Nat.beq rm.cells 0 && Nat.beq rm.slots 0) = true) (hs : mSh u a = some (.inl ci)) (hcl : vwCl[ci]? = some rv) (hcn : rv.1 = y.cls) (hn : as.length = n) (hw : Nat.ble (st.map fun v => ca_t v).sum 8 = true) (hcz : c ≤ R.cells ∧ z ≤ R.slots)
    (hct : CT (cxL C) (cxD C) y b mL rt rm (xA a :: as) u (RV u1)) (kk : VW C (pc + 3) lv st u1 c z) {st0 : List SV} (h0 : as.reverse ++ xA a :: st = st0) : VW C pc lv st0 u c z := by
  simp only [Bool.and_eq_true] at hR
  obtain ⟨⟨⟨h1, h2⟩, h3⟩, h4⟩ := hR
  have h3 := Nat.eq_of_beq_eq_true h3
  have h4 := Nat.eq_of_beq_eq_true h4
  refine r_callV hC hd hm hse hlk ⟨le_b h1, le_b h2⟩ hs hcl hcn hn (le_b hw) (by rw [h3]; exact hcz.1) (by rw [h4]; exact hcz.2) hct ?_ h0
  rintro r u2 ⟨rfl, rfl⟩
  rw [h3, h4]
  exact kk
/-- .. of any post -/
theorem r_V0p (hC : CxOK C cc own R nL) {y : MethodName} {b : ByteArray} {mL idx n ci a : Nat} {as : List SV} {rv : vw_C} (hd : decode cc pc = .ok (.invokevirtual idx, 3)) (hm : MI y b mL rt n) (hse : Cond.selects y.cls y y ∈ wAll ∧ Cond.instanceMethod y ∈ wAll) (hlk : Cond.methodLink own idx y ∈ wAll) (hR : (Nat.ble (rm.frames + 1) R.frames && Nat.ble (8 + (mL + 11) + rm.locals) R.locals && Nat.beq rm.cells 0 && Nat.beq rm.slots 0) = true) (hs : mSh u a = some (.inl ci)) (hcl : vwCl[ci]? = some rv) (hcn : rv.1 = y.cls) (hn : as.length = n) (hw : Nat.ble (st.map fun v => ca_t v).sum 8 = true) (hcz : c ≤ R.cells ∧ z ≤ R.slots)
    (hct : CT (cxL C) (cxD C) y b mL rt rm (xA a :: as) u post) (kk : ∀ (r : Option SV) (u1 : Mem), post r u1 → VW C (pc + 3) lv (r.toList ++ st) u1 c z) {st0 : List SV} (h0 : as.reverse ++ xA a :: st = st0) : VW C pc lv st0 u c z := by
  simp only [Bool.and_eq_true] at hR
  obtain ⟨⟨⟨h1, h2⟩, h3⟩, h4⟩ := hR
  have h3 := Nat.eq_of_beq_eq_true h3
  have h4 := Nat.eq_of_beq_eq_true h4
  refine r_callV hC hd hm hse hlk ⟨le_b h1, le_b h2⟩ hs hcl hcn hn (le_b hw) (by rw [h3]; exact hcz.1) (by rw [h4]; exact hcz.2) hct ?_ h0
  intro r u2 hp
  rw [h3, h4]
  exact kk r u2 hp
theorem r_S0 (hC : CxOK C cc own R nL) {y : MethodName} {b : ByteArray} {mL idx n : Nat} {as : List SV} {v : SV} {u1 : Mem} (hd : decode cc pc = .ok (.invokestatic idx, 3)) (hm : MI y b mL rt n) (hse : Cond.static y ∈ wAll) (hlk : Cond.methodLink own idx y ∈ wAll) (hR : (Nat.ble (rm.frames + 1) R.frames && Nat.ble (8 + (mL + 11) + rm.locals) R.locals && Nat.beq rm.cells 0 && Nat.beq rm.slots 0) = true) (hn : as.length = n) (hw : Nat.ble (st.map fun v => ca_t v).sum 8 = true) (hcz : c ≤ R.cells ∧ z ≤ R.slots)
    (hct : CT (cxL C) (cxD C) y b mL rt rm as u (RT v u1)) (kk : VW C (pc + 3) lv (v :: st) u1 c z) {st0 : List SV} (h0 : as.reverse ++ st = st0) : VW C pc lv st0 u c z := by
  simp only [Bool.and_eq_true] at hR
  obtain ⟨⟨⟨h1, h2⟩, h3⟩, h4⟩ := hR
  have h3 := Nat.eq_of_beq_eq_true h3
  have h4 := Nat.eq_of_beq_eq_true h4
  refine r_callS hC hd hm hse hlk ⟨le_b h1, le_b h2⟩ hn (le_b hw) (by rw [h3]; exact hcz.1) (by rw [h4]; exact hcz.2) hct ?_ h0
  rintro r u2 ⟨rfl, rfl⟩
  rw [h3, h4]
  exact kk
/-- branches on a truth -/
theorem r_bne (hC : CxOK C cc own R nL) {P : Prop} [Decidable P] {off : Int} {t : Nat} (hd : decode cc pc = .ok (.ifCond .ne off, 3)) (ht : (pc : Int) + off = (t : Int)) (kt : P → VW C t lv st u c z) (kf : ¬ P → VW C (pc + 3) lv st u c z) : VW C pc lv (xI (bI P) :: st) u c z :=
  r_if_ne hC hd ht (rg_bI P) (fun h => kt (Decidable.not_not.mp fun q => h ((bI_0 P).mpr q))) (fun h => kf ((bI_0 P).mp h))
theorem r_beq (hC : CxOK C cc own R nL) {P : Prop} [Decidable P] {off : Int} {t : Nat} (hd : decode cc pc = .ok (.ifCond .eq off, 3)) (ht : (pc : Int) + off = (t : Int)) (kt : ¬ P → VW C t lv st u c z) (kf : P → VW C (pc + 3) lv st u c z) : VW C pc lv (xI (bI P) :: st) u c z :=
  r_if_eq hC hd ht (rg_bI P) (fun h => kt ((bI_0 P).mp h)) (fun h => kf (Decidable.not_not.mp fun q => h ((bI_0 P).mpr q)))
theorem r_bret (hC : CxOK C cc own R nL) (hr : RetOK C (some .boolean) rm post) {P : Prop} [Decidable P] (hd : decode cc pc = .ok (.ireturn, 1)) (hc : c ≤ rm.cells) (hz : z ≤ rm.slots) (hp : post (some (xI (bI P))) u) : VW C pc lv [xI (bI P)] u c z :=
  r_zret hC hr hd (by unfold bI; split <;> simp) hc hz hp
end RE
theorem b_zero {i : Int} (h : i = 0 ∨ i = 1) : rg i := by rcases h with h | h <;> subst h <;> exact ⟨by decide, by decide⟩
theorem sv_b {i j : Int} {P : Option SV → Prop} (h : i = j) (k : P (some (xI j))) : P (some (xI i)) := by rw [h]; exact k
/-! rows of numbers -/
abbrev RW : Type := Int → Int
def RF (r : RW) : Prop := ∀ k, rg (r k)
theorem rf_mI (u : Mem) (a : Nat) : RF (mI u a) := fun k => rg_mI u a k
def up (r : RW) (k v : Int) : RW := fun j => if j = k then wr v else r j
theorem up_s (r : RW) (k v : Int) : up r k v k = wr v := if_pos rfl
theorem up_n (r : RW) {k j : Int} (v : Int) (h : j ≠ k) : up r k v j = r j := if_neg h
theorem rf_up {r : RW} (h : RF r) (k v : Int) : RF (up r k v) := fun j => by
  unfold up; split
  · exact rg_wr v
  · exact h j
theorem up_mI (u : Mem) (a : Nat) (k v : Int) : mI (sI u a k v) a = up (mI u a) k v := by
  funext j
  rw [mI_sI]; unfold up
  by_cases h : j = k <;> simp [h]
theorem up_mI_n (u : Mem) {a b : Nat} (k v : Int) (h : b ≠ a) : mI (sI u a k v) b = mI u b := by
  funext j
  exact mI_sI_a u k v j h
/-- a cell's numbers all at once -/
def sA (u : Mem) (a : Nat) (f : RW) : Mem := (u.1, up1 u.2.1 a (fun k => Int32.ofInt (f k)), u.2.2)
theorem sA_mI (u : Mem) (a : Nat) : sA u a (mI u a) = u := by
  unfold sA up1
  have : (fun b => if b = a then (fun k => Int32.ofInt (mI u a k)) else u.2.1 b) = u.2.1 := by
    funext b k
    by_cases h : b = a
    · subst h; simp only [if_true]; exact mI_ofInt u b k
    · simp only [if_neg h]
  rw [this]
theorem mI_sA (u : Mem) (a : Nat) (f : RW) : mI (sA u a f) a = fun k => wr (f k) := by
  funext k
  unfold mI sA up1
  simp only [if_true]
  rfl
theorem mI_sA_f (u : Mem) (a : Nat) {f : RW} (h : RF f) : mI (sA u a f) a = f := by
  rw [mI_sA]; funext k; exact wr_id (h k)
theorem mI_sA_n (u : Mem) {a b : Nat} (f : RW) (h : b ≠ a) : mI (sA u a f) b = mI u b := by
  funext k
  unfold mI sA up1
  simp only [if_neg h]
theorem sI_sA (u : Mem) (a : Nat) (f : RW) (k v : Int) : sI (sA u a f) a k v = sA u a (fun j => if j = k then v else f j) := by
  unfold sI sA up2 up1
  congr 2
  funext b j
  by_cases h : b = a
  · subst h; simp only [if_true, true_and]; by_cases q : j = k <;> simp [q]
  · simp [h]
theorem sI_as (u : Mem) (a : Nat) (k v : Int) : sI u a k v = sA u a (fun j => if j = k then v else mI u a j) := by
  conv => lhs; rw [← sA_mI u a]
  rw [sI_sA]
theorem sA_sA (u : Mem) (a : Nat) (f g : RW) : sA (sA u a f) a g = sA u a g := by
  unfold sA up1
  congr 2
  funext b
  by_cases h : b = a <;> simp [h]
theorem sA_congr {u : Mem} {a : Nat} {f g : RW} (h : ∀ k, f k = g k) : sA u a f = sA u a g := by rw [show f = g from funext h]
theorem sI_sI (u : Mem) (a : Nat) (k v w : Int) : sI (sI u a k v) a k w = sI u a k w := by
  unfold sI up2
  congr 2
  funext b j
  by_cases h : b = a ∧ j = k <;> simp [h]
theorem sA_comm (u : Mem) {a b : Nat} (f g : RW) (h : a ≠ b) : sA (sA u a f) b g = sA (sA u b g) a f := by
  unfold sA up1
  congr 2
  funext d
  by_cases h1 : d = a
  · subst h1; simp [h]
  · by_cases h2 : d = b
    · subst h2; simp [h1]
    · simp [h1, h2]
theorem sI_sA_comm (u : Mem) {a b : Nat} (f : RW) (k v : Int) (h : a ≠ b) : sI (sA u a f) b k v = sA (sI u b k v) a f := by
  rw [sI_as, sI_as, mI_sA_n u f (Ne.symm h), sA_comm u _ _ h]
