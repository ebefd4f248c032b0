/-! ===== abstract memory: numbers as integers, pointers as addresses; one record of shapes ===== -/
abbrev SV : Type := Int ⊕ (Option Nat) ⊕ Int64 ⊕ UInt64 ⊕ UInt32
abbrev xI (i : Int) : SV := .inl i
abbrev xR (r : Option Nat) : SV := .inr (.inl r)
abbrev xA (a : Nat) : SV := .inr (.inl (some a))
abbrev xN : SV := .inr (.inl none)
abbrev xJ (j : Int64) : SV := .inr (.inr (.inl j))
abbrev xD (d : UInt64) : SV := .inr (.inr (.inr (.inl d)))
abbrev xF (d : UInt32) : SV := .inr (.inr (.inr (.inr d)))
def toV : SV → Value
  | .inl i => .int (Int32.ofInt i)
  | .inr (.inl r) => va_rf r
  | .inr (.inr (.inl j)) => .long j
  | .inr (.inr (.inr (.inl d))) => .double d
  | .inr (.inr (.inr (.inr d))) => .float d
def ca_t : SV → Nat
  | .inl _ => 1
  | .inr (.inl _) => 1
  | .inr (.inr (.inl _)) => 2
  | .inr (.inr (.inr (.inl _))) => 2
  | .inr (.inr (.inr (.inr _))) => 1
theorem toV_cat (v : SV) : (toV v).category = ca_t v := by
  rcases v with i | r | j | d | d
  · rfl
  · cases r <;> rfl
  · rfl
  · rfl
  · rfl
abbrev rg (i : Int) : Prop := -2147483648 ≤ i ∧ i < 2147483648
def wr (i : Int) : Int := (Int32.ofInt i).toInt
theorem rg_toInt (v : Int32) : rg v.toInt := ⟨Int32.le_toInt v, Int32.toInt_lt v⟩
theorem rg_wr (i : Int) : rg (wr i) := rg_toInt _
theorem wr_id {i : Int} (h : rg i) : wr i = i := Int32.toInt_ofInt_of_le h.1 h.2
theorem wr_bmod (i : Int) : wr i = Int.bmod i (2 ^ 32) := Int32.toInt_ofInt
theorem wr_wr (i : Int) : wr (wr i) = wr i := wr_id (rg_wr i)
theorem ofInt_wr (i : Int) : Int32.ofInt (wr i) = Int32.ofInt i := Int32.ofInt_toInt _
theorem wr_add_l (i j : Int) : wr (wr i + j) = wr (i + j) := by
  simp only [wr_bmod, Int.bmod_add_bmod]
theorem wr_add_r (i j : Int) : wr (i + wr j) = wr (i + j) := by
  simp only [wr_bmod, Int.add_bmod_bmod]
theorem i3_lt {i j : Int} (hi : rg i) (hj : rg j) : Int32.ofInt i < Int32.ofInt j ↔ i < j := by
  rw [Int32.lt_iff_toInt_lt]
  show wr i < wr j ↔ i < j
  rw [wr_id hi, wr_id hj]
theorem i3_le {i j : Int} (hi : rg i) (hj : rg j) : Int32.ofInt i ≤ Int32.ofInt j ↔ i ≤ j := by
  rw [Int32.le_iff_toInt_le]
  show wr i ≤ wr j ↔ i ≤ j
  rw [wr_id hi, wr_id hj]
theorem i3_eq {i j : Int} (hi : rg i) (hj : rg j) : Int32.ofInt i = Int32.ofInt j ↔ i = j := by
  rw [← Int32.toInt_inj]
  show wr i = wr j ↔ i = j
  rw [wr_id hi, wr_id hj]
theorem rg_0 : rg 0 := ⟨by decide, by decide⟩
theorem i3_0 : Int32.ofInt 0 = 0 := rfl
abbrev bI (P : Prop) [Decidable P] : Int := if P then 1 else 0
theorem bI_0 (P : Prop) [Decidable P] : bI P = 0 ↔ ¬ P := by
  unfold bI; by_cases h : P <;> simp [h]
theorem bI_1 (P : Prop) [Decidable P] : bI P = 1 ↔ P := by
  unfold bI; by_cases h : P <;> simp [h]
theorem rg_bI (P : Prop) [Decidable P] : rg (bI P) := by
  unfold bI; by_cases h : P <;> simp [h, rg]

abbrev Mem : Type := (Nat → Option (Nat ⊕ (Nat × Nat))) × (Nat → Int → Int32) × (Nat → Int → Option Nat) × (Nat → Int → Int64) × Nat
def mSh (u : Mem) (a : Nat) : Option (Nat ⊕ (Nat × Nat)) := u.1 a
def mI (u : Mem) (a : Nat) (k : Int) : Int := (u.2.1 a k).toInt
def mP (u : Mem) (a : Nat) (k : Int) : Option Nat := u.2.2.1 a k
def mJ (u : Mem) (a : Nat) (k : Int) : Int64 := u.2.2.2.1 a k
def mN (u : Mem) : Nat := u.2.2.2.2
def up2 {α : Type} (f : Nat → Int → α) (a : Nat) (k : Int) (v : α) : Nat → Int → α := fun b j => if b = a ∧ j = k then v else f b j
def up1 {α : Type} (f : Nat → α) (a : Nat) (v : α) : Nat → α := fun b => if b = a then v else f b
def sI (u : Mem) (a : Nat) (k i : Int) : Mem := (u.1, up2 u.2.1 a k (Int32.ofInt i), u.2.2)
def sP (u : Mem) (a : Nat) (k : Int) (r : Option Nat) : Mem := (u.1, u.2.1, up2 u.2.2.1 a k r, u.2.2.2)
def sJ (u : Mem) (a : Nat) (k : Int) (j : Int64) : Mem := (u.1, u.2.1, u.2.2.1, up2 u.2.2.2.1 a k j, u.2.2.2.2)
/-- a new cell, with zeros in it -/
def nC (u : Mem) (sh : Option (Nat ⊕ (Nat × Nat))) : Mem := (up1 u.1 (mN u) sh, up1 u.2.1 (mN u) (fun _ => 0), up1 u.2.2.1 (mN u) (fun _ => none), up1 u.2.2.2.1 (mN u) (fun _ => 0), mN u + 1)
theorem rg_mI (u : Mem) (a : Nat) (k : Int) : rg (mI u a k) := rg_toInt _
theorem mI_ofInt (u : Mem) (a : Nat) (k : Int) : Int32.ofInt (mI u a k) = u.2.1 a k := Int32.ofInt_toInt _
theorem mI_sI (u : Mem) (a : Nat) (k i : Int) (b : Nat) (j : Int) : mI (sI u a k i) b j = if b = a ∧ j = k then wr i else mI u b j := by
  unfold mI sI up2
  by_cases h : b = a ∧ j = k
  · simp only [if_pos h]; rfl
  · simp only [if_neg h]
theorem mI_sI_s (u : Mem) (a : Nat) (k i : Int) : mI (sI u a k i) a k = wr i := by rw [mI_sI, if_pos ⟨rfl, rfl⟩]
theorem mI_sI_a (u : Mem) {a b : Nat} (k i j : Int) (h : b ≠ a) : mI (sI u a k i) b j = mI u b j := by rw [mI_sI, if_neg (fun q => h q.1)]
theorem mI_sI_k (u : Mem) (a : Nat) {k j : Int} (i : Int) (b : Nat) (h : j ≠ k) : mI (sI u a k i) b j = mI u b j := by rw [mI_sI, if_neg (fun q => h q.2)]
theorem mI_sP (u : Mem) (a : Nat) (k : Int) (r : Option Nat) : mI (sP u a k r) = mI u := rfl
theorem mI_sJ (u : Mem) (a : Nat) (k : Int) (r : Int64) : mI (sJ u a k r) = mI u := rfl
theorem mP_sI (u : Mem) (a : Nat) (k i : Int) : mP (sI u a k i) = mP u := rfl
theorem mP_sJ (u : Mem) (a : Nat) (k : Int) (i : Int64) : mP (sJ u a k i) = mP u := rfl
theorem mP_sP (u : Mem) (a : Nat) (k : Int) (r : Option Nat) (b : Nat) (j : Int) : mP (sP u a k r) b j = if b = a ∧ j = k then r else mP u b j := rfl
theorem mP_sP_s (u : Mem) (a : Nat) (k : Int) (r : Option Nat) : mP (sP u a k r) a k = r := by rw [mP_sP, if_pos ⟨rfl, rfl⟩]
theorem mP_sP_a (u : Mem) {a b : Nat} (k : Int) (r : Option Nat) (j : Int) (h : b ≠ a) : mP (sP u a k r) b j = mP u b j := by rw [mP_sP, if_neg (fun q => h q.1)]
theorem mP_sP_k (u : Mem) (a : Nat) {k j : Int} (r : Option Nat) (b : Nat) (h : j ≠ k) : mP (sP u a k r) b j = mP u b j := by rw [mP_sP, if_neg (fun q => h q.2)]
theorem mJ_sI (u : Mem) (a : Nat) (k i : Int) : mJ (sI u a k i) = mJ u := rfl
theorem mJ_sP (u : Mem) (a : Nat) (k : Int) (i : Option Nat) : mJ (sP u a k i) = mJ u := rfl
theorem mJ_sJ (u : Mem) (a : Nat) (k : Int) (r : Int64) (b : Nat) (j : Int) : mJ (sJ u a k r) b j = if b = a ∧ j = k then r else mJ u b j := rfl
theorem mSh_sI (u : Mem) (a : Nat) (k i : Int) : mSh (sI u a k i) = mSh u := rfl
theorem mSh_sP (u : Mem) (a : Nat) (k : Int) (r : Option Nat) : mSh (sP u a k r) = mSh u := rfl
theorem mSh_sJ (u : Mem) (a : Nat) (k : Int) (r : Int64) : mSh (sJ u a k r) = mSh u := rfl
theorem mN_sI (u : Mem) (a : Nat) (k i : Int) : mN (sI u a k i) = mN u := rfl
theorem mN_sP (u : Mem) (a : Nat) (k : Int) (r : Option Nat) : mN (sP u a k r) = mN u := rfl
theorem mN_sJ (u : Mem) (a : Nat) (k : Int) (r : Int64) : mN (sJ u a k r) = mN u := rfl
theorem mN_nC (u : Mem) (h : Option (Nat ⊕ (Nat × Nat))) : mN (nC u h) = mN u + 1 := rfl
theorem mSh_nC (u : Mem) (h : Option (Nat ⊕ (Nat × Nat))) (b : Nat) : mSh (nC u h) b = if b = mN u then h else mSh u b := rfl
theorem mI_nC (u : Mem) (h : Option (Nat ⊕ (Nat × Nat))) (b : Nat) (k : Int) : mI (nC u h) b k = if b = mN u then 0 else mI u b k := by
  unfold mI nC up1
  by_cases q : b = mN u
  · simp only [if_pos q]; rfl
  · simp only [if_neg q]
theorem mP_nC (u : Mem) (h : Option (Nat ⊕ (Nat × Nat))) (b : Nat) (k : Int) : mP (nC u h) b k = if b = mN u then none else mP u b k := by
  unfold mP nC up1
  by_cases q : b = mN u
  · simp only [if_pos q]
  · simp only [if_neg q]
theorem mJ_nC (u : Mem) (h : Option (Nat ⊕ (Nat × Nat))) (b : Nat) (k : Int) : mJ (nC u h) b k = if b = mN u then 0 else mJ u b k := by
  unfold mJ nC up1
  by_cases q : b = mN u
  · simp only [if_pos q]
  · simp only [if_neg q]
/-! ===== what the heap holds of it ===== -/
/-- where the law's own cells begin; the classes' numbers, the slots, the arrays' classes -/
abbrev DD : Type := Nat × (Nat → ClassId) × (Nat → Nat → Nat) × (Nat → ClassId) × (Nat → Nat)
def aTy : Nat → FieldType
  | 0 => .int
  | 1 => .int
  | 2 => .object RX5
  | 3 => .object RX6
  | 4 => .object RX3
  | _ => .object RX1
def cTy : Nat → Nat → FieldType
  | 0 => tyX0
  | 1 => tyX1
  | 2 => tyX2
  | 3 => tyX3
  | 4 => tyX4
  | 5 => tyX5
  | 6 => tyX6
  | 7 => tyX7
  | _ => tyX8
def fR (ci k : Nat) : Bool := match cTy ci k with
  | .int => false
  | .boolean => false
  | _ => true
def fV (ci k : Nat) (u : Mem) (a : Nat) : Value := if fR ci k = true then va_rf (u.2.2.1 a k) else .int (u.2.1 a k)
def aX (ty n : Nat) (u : Mem) (a : Nat) : vp_A := if ty = 0 then (n, .inl fun j => u.2.1 a j) else if ty = 1 then (n, .inr (.inl fun j => u.2.2.2.1 a j)) else (n, .inr (.inr (.inr (.inr fun j => u.2.2.1 a j))))
def RelAt (D : DD) (U : State) (u : Mem) (H : Heap) (a : Nat) : Prop := match mSh u a with
  | none => True
  | some (.inl ci) => D.1 ≤ a ∧ va_at (D.2.1, D.2.2.1) vwCl (a, .inr (ci, (List.range 14).map fun k => fV ci k u a)) H
  | some (.inr (ty, n)) => if ty = 9 then n < 2147483648 ∧ a < D.1 ∧ ∃ cell : Cell, H[a]? = some cell ∧ U.isArrayOf cell .int ∧ cell.vm ≠ .unknown ∧ cell.slots.size = n ∧ ∀ j : Nat, j < n → cell.slots[j]? = some (.int (u.2.1 a j))
      else ty < 6 ∧ n < 2147483648 ∧ D.1 ≤ a ∧ H[a]? = some (vp_cell (D.2.2.2.1 ty) (aX ty n u a))
def sNm : Nat → String
  | 0 => "SETTING_FIRST"
  | 1 => "SETTING_LEAST"
  | _ => "SETTING_MOST"
/-- the statics: what lies under the law's own cells -/
def EV (D : DD) (U : State) (H : Heap) : Prop := (∀ k : Nat, k < 3 → va_Z "OutboxRelay" (sNm k) "[I" (.ref (D.2.2.2.2 k)) (fun q => D.1 ≤ q) U H) ∧ vx_Zq Bundle.tN "UNASSIGNED_STACK" Bundle.steD (fun q => D.1 ≤ q) U H ∧ vx_Zq Bundle.tN "SUPPRESSED_SENTINEL" Bundle.listD (fun q => D.1 ≤ q) U H ∧ ∃ cell : Cell, H[D.2.2.2.2 0]? = some cell ∧ cell.cls = D.2.2.2.1 0 ∧ ¬ D.1 ≤ D.2.2.2.2 0
theorem EV.alike {D : DD} {U V : State} {H : Heap} (hvm : U.vm.Alike V.vm) (h : EV D U H) : EV D V H := ⟨fun k hk => (h.1 k hk).moved hvm, h.2.1.moved hvm, h.2.2.1.moved hvm, h.2.2.2⟩
theorem EV.kept {D : DD} {U : State} {H H1 : Heap} (h : EV D U H) (hq : ∀ a : Nat, a < H.size → ¬ D.1 ≤ a → H1[a]? = H[a]?) : EV D U H1 := ⟨fun k hk => (h.1 k hk).kept hq, h.2.1.kept hq, h.2.2.1.kept hq, by
  obtain ⟨cell, h1, h2, h3⟩ := h.2.2.2
  exact ⟨cell, by rw [hq _ (Array.getElem?_eq_some_iff.mp h1).1 h3]; exact h1, h2, h3⟩⟩
def Rel (D : DD) (U : State) (u : Mem) (H : Heap) : Prop := H.size = mN u ∧ D.1 ≤ mN u ∧ (∀ a, mN u ≤ a → mSh u a = none) ∧ EV D U H ∧ ∀ a, RelAt D U u H a
def tysD (D : DD) : List (ClassId × FieldType) := (List.range 6).map fun k => (D.2.2.2.1 k, aTy k)
/-- what isn't among the words that always stay: arrays of references, texts -/
def txts : List (String × Nat × String) := [("OutboxRelay", 103, "no such receiver"), ("OutboxRelay", 105, "topics"), ("OutboxRelay", 118, "ticks"), ("OutboxRelay", 132, "no message"), ("OutboxRelay", 143, "no such setting"), ("OutboxRelay", 148, "value"), ("OutboxRelay", 153, "rows are committed"), ("OutboxRelay", 194, "no such rank"), ("OutboxRelay", 196, "what"), ("OutboxRelay", 205, "no such place"), ("OutboxRelay", 246, "no such place or receiver"), ("OutboxRelay", 43, "no free place"), ("OutboxRelay", 60, "no transaction"), ("OutboxRelay", 69, "topic or value"), ("OutboxRelay", 75, "transaction is full"), ("OutboxRelay", 84, "too many rows")]
/-- words outside the good ones that stay all the same -/
def nwF (w : Cond) : Bool := match w with
  | .fieldLinkNest _ _ _ _ _ _ => true
  | .methodLinkNest _ _ _ _ => true
  | .declares _ => true
  | .castable _ _ => true
  | _ => false
theorem nw_warm {w : Cond} (h : nwF w = true) {s U : State} (hW : s.WarmedH U.vm) (hZ : va_Nw w s) : va_Nw w U := by
  cases w <;> first | exact va_Nw.warmF hW hZ | exact va_Nw.warmM hW hZ | exact va_Nw.warmD hW hZ | exact va_Nw.warmC hW hZ | cases h
def xIS : String := "java/lang/IllegalStateException"
def xIA : String := "java/lang/IllegalArgumentException"
def xIO : String := "java/lang/IndexOutOfBoundsException"
def ncL : List (String × String) := []
def KX (U : State) : Prop := (∀ n ∈ [RX5, RX6, RX3, RX1], va_AO n U) ∧ (∀ q ∈ txts, ∃ a : Nat, vk_R q.1 q.2.1 q.2.2 a U) ∧ (∀ w ∈ lw_tbl, nwF w = true → va_Nw w U) ∧ ∀ q ∈ ncL, va_Nc q.1 q.2 U
theorem KX.warm {s U : State} (hW : s.WarmedH U.vm) (h : KX s) : KX U := ⟨fun n hn => (h.1 n hn).moved hW.alike, fun q hq => by
  obtain ⟨a, ha⟩ := h.2.1 q hq
  exact ⟨a, vk_R.warm hW ha⟩, fun w hw hf => nw_warm hf hW (h.2.2.1 w hw hf), fun q hq => (h.2.2.2 q hq).moved hW.alike⟩
def KD (D : DD) (U : State) : Prop := va_K (D.2.1, D.2.2.1) vwCl (tysD D) U ∧ KX U
theorem KD.warm {D : DD} {s U : State} (hW : s.WarmedH U.vm) (h : KD D s) : KD D U := ⟨va_K.moved hW.alike h.1, h.2.warm hW⟩
theorem RelAt.alike {D : DD} {U V : State} {u : Mem} {H : Heap} {a : Nat} (hvm : U.vm.Alike V.vm) (h : RelAt D U u H a) : RelAt D V u H a := by
  unfold RelAt at h ⊢
  split
  · trivial
  · rename_i ci hc; rw [hc] at h; exact h
  · rename_i ty n hc
    rw [hc] at h
    dsimp only at h ⊢
    by_cases h9 : ty = 9
    · rw [if_pos h9] at h ⊢
      obtain ⟨h0, h1, cell, h2, h3, h4, h6⟩ := h
      exact ⟨h0, h1, cell, h2, State.isArrayOf_alike hvm h3, h4, h6⟩
    · rw [if_neg h9] at h ⊢
      exact h
theorem Rel.alike {D : DD} {U V : State} {u : Mem} {H : Heap} (hvm : U.vm.Alike V.vm) (h : Rel D U u H) : Rel D V u H := ⟨h.1, h.2.1, h.2.2.1, h.2.2.2.1.alike hvm, fun a => (h.2.2.2.2 a).alike hvm⟩
/-- another cell has changed -/
theorem RelAt.other {D : DD} {U : State} {u u1 : Mem} {H H1 : Heap} {a : Nat} (h : RelAt D U u H a) (hs : mSh u1 a = mSh u a) (hI : ∀ k, u1.2.1 a k = u.2.1 a k) (hP : ∀ k, u1.2.2.1 a k = u.2.2.1 a k) (hJ : ∀ k, u1.2.2.2.1 a k = u.2.2.2.1 a k) (hH : ∀ c, H[a]? = some c → H1[a]? = some c) : RelAt D U u1 H1 a := by
  have e1 : ∀ ci k, fV ci k u1 a = fV ci k u a := fun ci k => by simp only [fV, hI, hP]
  have e2 : ∀ ty n, aX ty n u1 a = aX ty n u a := fun ty n => by simp only [aX, hI, hP, hJ]
  unfold RelAt at h ⊢
  rw [hs]
  split
  · trivial
  · rename_i ci hc
    rw [hc] at h
    dsimp only at h ⊢
    refine ⟨h.1, ?_⟩
    obtain ⟨r, h1, cell, h2, h3⟩ := h.2
    refine ⟨r, h1, cell, hH _ h2, h3.1, h3.2.1, ?_⟩
    simp only [e1]
    exact h3.2.2
  · rename_i ty n hc
    rw [hc] at h
    dsimp only at h ⊢
    by_cases h9 : ty = 9
    · rw [if_pos h9] at h ⊢
      obtain ⟨h0, h1, cell, h2, h3, h4, h6, h7⟩ := h
      exact ⟨h0, h1, cell, hH _ h2, h3, h4, h6, fun j hj => by rw [hI]; exact h7 j hj⟩
    · rw [if_neg h9] at h ⊢
      exact ⟨h.1, h.2.1, h.2.2.1, by rw [e2]; exact hH _ h.2.2.2⟩
theorem Rel.put {D : DD} {U : State} {u u1 : Mem} {H H1 : Heap} {a : Nat} (h : Rel D U u H) (ha : D.1 ≤ a) (hz : H1.size = H.size) (ho : ∀ q : Nat, q ≠ a → H1[q]? = H[q]?) (hN : mN u1 = mN u) (hsh : mSh u1 = mSh u) (hI : ∀ b, b ≠ a → ∀ k, u1.2.1 b k = u.2.1 b k) (hP : ∀ b, b ≠ a → ∀ k, u1.2.2.1 b k = u.2.2.1 b k) (hJ : ∀ b, b ≠ a → ∀ k, u1.2.2.2.1 b k = u.2.2.2.1 b k) (hat : RelAt D U u1 H1 a) : Rel D U u1 H1 := by
  obtain ⟨h1, h2, h3, h4, h5⟩ := h
  refine ⟨by rw [hz, hN, h1], by rw [hN]; exact h2, fun b hb => by rw [hsh]; exact h3 b (by rw [← hN]; exact hb), h4.kept fun q _ hq => ho q fun e => hq (by rw [e]; exact ha), fun b => ?_⟩
  by_cases hb : b = a
  · subst hb; exact hat
  · exact (h5 b).other (by rw [hsh]) (hI b hb) (hP b hb) (hJ b hb) (fun c hc => by rw [ho b hb]; exact hc)
theorem Rel.push {D : DD} {U : State} {u : Mem} {H H1 : Heap} (h : Rel D U u H) {sh : Option (Nat ⊕ (Nat × Nat))} (hz : H1.size = H.size + 1) (ho : ∀ q : Nat, q < H.size → H1[q]? = H[q]?) (hat : RelAt D U (nC u sh) H1 (mN u)) : Rel D U (nC u sh) H1 := by
  obtain ⟨h1, h2, h3, h4, h5⟩ := h
  refine ⟨by rw [hz, mN_nC, h1], by rw [mN_nC]; omega, fun b hb => ?_, h4.kept fun q hq _ => ho q hq, fun b => ?_⟩
  · rw [mN_nC] at hb
    rw [mSh_nC, if_neg (by omega)]
    exact h3 b (by omega)
  · by_cases hb : b = mN u
    · subst hb; exact hat
    · refine (h5 b).other ?_ ?_ ?_ ?_ ?_
      · rw [mSh_nC, if_neg hb]
      · intro k; simp only [nC, up1, if_neg hb]
      · intro k; simp only [nC, up1, if_neg hb]
      · intro k; simp only [nC, up1, if_neg hb]
      · intro c hc
        rw [ho b ((Array.getElem?_eq_some_iff.mp hc).1)]
        exact hc
/-! ===== a frame's place: locals, operands, memory ===== -/
abbrev LV : Type := List (Option SV)
def lvals : Nat → LV → List (Nat × Value)
  | _, [] => []
  | i, none :: r => lvals (i + 1) r
  | i, some v :: r => (i, toV v) :: lvals (i + 1) r
theorem lvals_mem (lv : LV) : ∀ (i : Nat) (q : Nat × Value), q ∈ lvals i lv ↔ ∃ (k : Nat) (v : SV), lv[k]? = some (some v) ∧ q = (i + k, toV v) := by
  induction lv with
  | nil => intro i q; simp [lvals]
  | cons a r ih =>
    intro i q
    cases a with
    | none =>
      simp only [lvals, ih]
      constructor
      · rintro ⟨k, v, h1, h2⟩
        exact ⟨k + 1, v, by simpa using h1, by rw [h2]; congr 1; omega⟩
      · rintro ⟨k, v, h1, h2⟩
        cases k with
        | zero => simp at h1
        | succ k => exact ⟨k, v, by simpa using h1, by rw [h2]; congr 1; omega⟩
    | some w =>
      simp only [lvals, List.mem_cons, ih]
      constructor
      · rintro (h | ⟨k, v, h1, h2⟩)
        · exact ⟨0, w, by simp, by rw [h]; rfl⟩
        · exact ⟨k + 1, v, by simpa using h1, by rw [h2]; congr 1; omega⟩
      · rintro ⟨k, v, h1, h2⟩
        cases k with
        | zero => left; simp at h1; rw [h2, h1]; rfl
        | succ k => right; exact ⟨k, v, by simpa using h1, by rw [h2]; congr 1; omega⟩
theorem lv_get' {ls : Array Slot} {n k : Nat} {lv : LV} {v : SV} (h : lv_has ls n (lvals 0 lv)) (hk : lv[k]? = some (some v)) : ls[k]? = some (.val (toV v)) :=
  h.2.2 (k, toV v) ((lvals_mem lv 0 _).mpr ⟨k, v, hk, by simp⟩)
theorem lv_fewer {ls : Array Slot} {n : Nat} {l l' : List (Nat × Value)} (h : lv_has ls n l) (hs : ∀ q ∈ l', q ∈ l) : lv_has ls n l' := ⟨h.1, h.2.1, fun q hq => h.2.2 q (hs q hq)⟩
/-- no long ends at i -/
def lok (lv : LV) : Nat → Bool
  | 0 => true
  | j + 1 => match lv[j]? with
    | some (some w) => ca_t w == 1
    | _ => true
theorem lok_spec {lv : LV} {i k : Nat} {w : SV} (h : lok lv i = true) (hk : lv[k]? = some (some w)) (e : k + 1 = i) : ca_t w = 1 := by
  subst e
  simpa [lok, hk] using h
theorem lv_set1 {ls : Array Slot} {n i : Nat} {lv : LV} {v : SV} (hok : lok lv i = true) (hlen : i < lv.length) (h : lv_has ls n ((i, toV v) :: (lvals 0 lv).filter (fun q => !(q.1 == i) && !(q.1 + 1 == i && q.2.category == 2)))) : lv_has ls n (lvals 0 (lv.set i (some v))) := by
  refine lv_fewer h fun q hq => ?_
  obtain ⟨k, w, h1, h2⟩ := (lvals_mem _ _ _).mp hq
  by_cases hk : k = i
  · subst hk
    rw [List.getElem?_set_self hlen] at h1
    cases h1
    rw [h2]; simp
  · rw [List.getElem?_set_ne (Ne.symm hk)] at h1
    refine List.mem_cons_of_mem _ (List.mem_filter.mpr ⟨(lvals_mem _ _ _).mpr ⟨k, w, h1, h2⟩, ?_⟩)
    rw [h2]
    simp only [Nat.zero_add, toV_cat]
    by_cases e : k + 1 = i
    · simp [lok_spec hok h1 e, hk]
    · simp [hk, e]
theorem lv_set2 {ls : Array Slot} {n i : Nat} {lv : LV} {v : SV} (hok : lok lv i = true) (hlen : i < lv.length) (h : lv_has ls n ((i, toV v) :: (lvals 0 lv).filter (fun q => !(q.1 == i) && (!(q.1 == i + 1) && !(q.1 + 1 == i && q.2.category == 2))))) : lv_has ls n (lvals 0 ((lv.set i (some v)).set (i + 1) none)) := by
  refine lv_fewer h fun q hq => ?_
  obtain ⟨k, w, h1, h2⟩ := (lvals_mem _ _ _).mp hq
  by_cases hk1 : k = i + 1
  · subst hk1
    by_cases hl : i + 1 < (lv.set i (some v)).length
    · rw [List.getElem?_set_self hl] at h1; cases h1
    · rw [List.getElem?_eq_none (by simpa using hl)] at h1; cases h1
  · rw [List.getElem?_set_ne (Ne.symm hk1)] at h1
    by_cases hk : k = i
    · subst hk
      rw [List.getElem?_set_self hlen] at h1
      cases h1
      rw [h2]; simp
    · rw [List.getElem?_set_ne (Ne.symm hk)] at h1
      refine List.mem_cons_of_mem _ (List.mem_filter.mpr ⟨(lvals_mem _ _ _).mpr ⟨k, w, h1, h2⟩, ?_⟩)
      rw [h2]
      simp only [Nat.zero_add, toV_cat]
      by_cases e : k + 1 = i
      · simp [lok_spec hok h1 e, hk, hk1]
      · simp [hk, e, hk1]
abbrev Cx : Type := Program × Launch × Env × Room × State × MethodId × (Array Value) × (List Frame) × Method × Code × (State → Prop) × DD
def wAll : List Cond := lw_tbl.filter goodWord
def VW : Cx → Nat → LV → List SV → Mem → Nat → Nat → Prop
  | (p, l, e, R, s, m, args, below, meth, cd, Q, D), pc, lv, st, u, cells, slots =>
    ∀ (H : Heap) (locs : List Loc) (ls : Array Slot), Rel D s u H → va_S (fun q => D.1 ≤ q) s.heap H locs → lv_has ls cd.maxLocals (lvals 0 lv) → W p l e R s m args below meth cd H locs cells slots Q (F0 m pc ls (st.map toV))
def CxOK : Cx → ByteArray → String → Room → Nat → Prop
  | (p, l, e, R, s, m, args, below, meth, cd, Q, D), cc, own, R1, nL =>
    p.tables.exec = Jvm.exec ∧ cd.code = cc ∧ cd.maxLocals = nL ∧ s.vm.findClass own = some m.cls ∧ (∀ w ∈ wAll, w.before args s = true) ∧ KD D s ∧ R = R1 ∧ D.1 ≤ s.heap.size ∧ l.stackTraces = false ∧ meth.locks = false
