/-! ===== the class's objects ===== -/
def MsO (u : Mem) (b : Nat) : Prop := mSh u b = some (.inl 1) ∧ mP u b 0 = some (b + 1) ∧ mSh u (b + 1) = some (.inr (0, 8))
def ReO (u : Mem) (b : Nat) : Prop := mSh u b = some (.inl 3) ∧ mP u b 0 = some (b + 1) ∧ mSh u (b + 1) = some (.inr (0, 21))
def TrO (u : Mem) (b : Nat) : Prop := mSh u b = some (.inl 6) ∧ (mP u b 0 = some (b + 1) ∧ mSh u (b + 1) = some (.inr (0, 6))) ∧ (mP u b 1 = some (b + 2) ∧ mSh u (b + 2) = some (.inr (0, 6))) ∧ (mP u b 2 = some (b + 3) ∧ mSh u (b + 3) = some (.inr (0, 6)))
def RoO (u : Mem) (b : Nat) : Prop := mSh u b = some (.inl 4) ∧ (mP u b 0 = some (b + 1) ∧ mSh u (b + 1) = some (.inr (0, 200))) ∧ (mP u b 1 = some (b + 2) ∧ mSh u (b + 2) = some (.inr (0, 200))) ∧ (mP u b 2 = some (b + 3) ∧ mSh u (b + 3) = some (.inr (0, 200))) ∧ (mP u b 3 = some (b + 4) ∧ mSh u (b + 4) = some (.inr (0, 200))) ∧ (mP u b 4 = some (b + 5) ∧ mSh u (b + 5) = some (.inr (0, 200))) ∧ (mP u b 5 = some (b + 6) ∧ mSh u (b + 6) = some (.inr (0, 200))) ∧ (mP u b 6 = some (b + 7) ∧ mSh u (b + 7) = some (.inr (0, 60)))
def TeO (u : Mem) (b : Nat) : Prop := mSh u b = some (.inl 2) ∧ mP u b 0 = some (b + 1) ∧ mSh u (b + 1) = some (.inr (0, 60))
/-- the queue's places: all messages, each once -/
def QuO (u : Mem) (b : Nat) : Prop := (∀ j : Nat, j < 55 → ∃ t : Nat, t < 55 ∧ mP u (b + 1) j = some (b + 2 + 2 * t)) ∧ ∀ i j : Nat, i < 55 → j < 55 → mP u (b + 1) i = mP u (b + 1) j → i = j
def MaO (u : Mem) (b : Nat) : Prop := mSh u b = some (.inl 0) ∧ (mP u b 0 = some (b + 1) ∧ mSh u (b + 1) = some (.inr (5, 55))) ∧ (∀ t : Nat, t < 55 → MsO u (b + 2 + 2 * t)) ∧ QuO u b
def StO (u : Mem) (a : Nat) : Prop := mSh u a = some (.inl 5) ∧ (mP u a 0 = some (a + 1) ∧ mSh u (a + 1) = some (.inr (0, 7))) ∧ (mP u a 1 = some (a + 2) ∧ mSh u (a + 2) = some (.inr (3, 4))) ∧ (∀ p : Nat, p < 4 → mP u (a + 2) p = some (a + 3 + 4 * p) ∧ TrO u (a + 3 + 4 * p)) ∧ (mP u a 2 = some (a + 19) ∧ RoO u (a + 19)) ∧ (mP u a 3 = some (a + 27) ∧ mSh u (a + 27) = some (.inr (4, 3))) ∧ (∀ i : Nat, i < 3 → mP u (a + 27) i = some (a + 28 + 2 * i) ∧ ReO u (a + 28 + 2 * i)) ∧ (mP u a 4 = some (a + 34) ∧ MaO u (a + 34))
theorem MsO.o {u : Mem} {b : Nat} (h : MsO u b) : mSh u b = some (.inl 1) := h.1
theorem MsO.p {u : Mem} {b : Nat} (h : MsO u b) : mP u b 0 = some (b + 1) := h.2.1
theorem MsO.a {u : Mem} {b : Nat} (h : MsO u b) : mSh u (b + 1) = some (.inr (0, 8)) := h.2.2
theorem ReO.o {u : Mem} {b : Nat} (h : ReO u b) : mSh u b = some (.inl 3) := h.1
theorem ReO.p {u : Mem} {b : Nat} (h : ReO u b) : mP u b 0 = some (b + 1) := h.2.1
theorem ReO.a {u : Mem} {b : Nat} (h : ReO u b) : mSh u (b + 1) = some (.inr (0, 21)) := h.2.2
theorem TeO.o {u : Mem} {b : Nat} (h : TeO u b) : mSh u b = some (.inl 2) := h.1
theorem TeO.p {u : Mem} {b : Nat} (h : TeO u b) : mP u b 0 = some (b + 1) := h.2.1
theorem TeO.a {u : Mem} {b : Nat} (h : TeO u b) : mSh u (b + 1) = some (.inr (0, 60)) := h.2.2
theorem TrO.o {u : Mem} {b : Nat} (h : TrO u b) : mSh u b = some (.inl 6) := h.1
theorem TrO.p0 {u : Mem} {b : Nat} (h : TrO u b) : mP u b 0 = some (b + 1) := h.2.1.1
theorem TrO.a0 {u : Mem} {b : Nat} (h : TrO u b) : mSh u (b + 1) = some (.inr (0, 6)) := h.2.1.2
theorem TrO.p1 {u : Mem} {b : Nat} (h : TrO u b) : mP u b 1 = some (b + 2) := h.2.2.1.1
theorem TrO.a1 {u : Mem} {b : Nat} (h : TrO u b) : mSh u (b + 2) = some (.inr (0, 6)) := h.2.2.1.2
theorem TrO.p2 {u : Mem} {b : Nat} (h : TrO u b) : mP u b 2 = some (b + 3) := h.2.2.2.1
theorem TrO.a2 {u : Mem} {b : Nat} (h : TrO u b) : mSh u (b + 3) = some (.inr (0, 6)) := h.2.2.2.2
theorem RoO.o {u : Mem} {b : Nat} (h : RoO u b) : mSh u b = some (.inl 4) := h.1
theorem RoO.p0 {u : Mem} {b : Nat} (h : RoO u b) : mP u b 0 = some (b + 1) := h.2.1.1
theorem RoO.a0 {u : Mem} {b : Nat} (h : RoO u b) : mSh u (b + 1) = some (.inr (0, 200)) := h.2.1.2
theorem RoO.p1 {u : Mem} {b : Nat} (h : RoO u b) : mP u b 1 = some (b + 2) := h.2.2.1.1
theorem RoO.a1 {u : Mem} {b : Nat} (h : RoO u b) : mSh u (b + 2) = some (.inr (0, 200)) := h.2.2.1.2
theorem RoO.p2 {u : Mem} {b : Nat} (h : RoO u b) : mP u b 2 = some (b + 3) := h.2.2.2.1.1
theorem RoO.a2 {u : Mem} {b : Nat} (h : RoO u b) : mSh u (b + 3) = some (.inr (0, 200)) := h.2.2.2.1.2
theorem RoO.p3 {u : Mem} {b : Nat} (h : RoO u b) : mP u b 3 = some (b + 4) := h.2.2.2.2.1.1
theorem RoO.a3 {u : Mem} {b : Nat} (h : RoO u b) : mSh u (b + 4) = some (.inr (0, 200)) := h.2.2.2.2.1.2
theorem RoO.p4 {u : Mem} {b : Nat} (h : RoO u b) : mP u b 4 = some (b + 5) := h.2.2.2.2.2.1.1
theorem RoO.a4 {u : Mem} {b : Nat} (h : RoO u b) : mSh u (b + 5) = some (.inr (0, 200)) := h.2.2.2.2.2.1.2
theorem RoO.p5 {u : Mem} {b : Nat} (h : RoO u b) : mP u b 5 = some (b + 6) := h.2.2.2.2.2.2.1.1
theorem RoO.a5 {u : Mem} {b : Nat} (h : RoO u b) : mSh u (b + 6) = some (.inr (0, 200)) := h.2.2.2.2.2.2.1.2
theorem RoO.p6 {u : Mem} {b : Nat} (h : RoO u b) : mP u b 6 = some (b + 7) := h.2.2.2.2.2.2.2.1
theorem RoO.a6 {u : Mem} {b : Nat} (h : RoO u b) : mSh u (b + 7) = some (.inr (0, 60)) := h.2.2.2.2.2.2.2.2
theorem MaO.o {u : Mem} {b : Nat} (h : MaO u b) : mSh u b = some (.inl 0) := h.1
theorem MaO.p {u : Mem} {b : Nat} (h : MaO u b) : mP u b 0 = some (b + 1) := h.2.1.1
theorem MaO.a {u : Mem} {b : Nat} (h : MaO u b) : mSh u (b + 1) = some (.inr (5, 55)) := h.2.1.2
theorem MaO.m {u : Mem} {b : Nat} (h : MaO u b) {t : Nat} (ht : t < 55) : MsO u (b + 2 + 2 * t) := h.2.2.1 t ht
theorem MaO.q {u : Mem} {b : Nat} (h : MaO u b) {j : Nat} (hj : j < 55) : ∃ t : Nat, t < 55 ∧ mP u (b + 1) j = some (b + 2 + 2 * t) := h.2.2.2.1 j hj
theorem StO.o {u : Mem} {a : Nat} (h : StO u a) : mSh u a = some (.inl 5) := h.1
theorem StO.p0 {u : Mem} {a : Nat} (h : StO u a) : mP u a 0 = some (a + 1) := h.2.1.1
theorem StO.a0 {u : Mem} {a : Nat} (h : StO u a) : mSh u (a + 1) = some (.inr (0, 7)) := h.2.1.2
theorem StO.p1 {u : Mem} {a : Nat} (h : StO u a) : mP u a 1 = some (a + 2) := h.2.2.1.1
theorem StO.a1 {u : Mem} {a : Nat} (h : StO u a) : mSh u (a + 2) = some (.inr (3, 4)) := h.2.2.1.2
theorem StO.pt {u : Mem} {a : Nat} (h : StO u a) {p : Nat} (hp : p < 4) : mP u (a + 2) p = some (a + 3 + 4 * p) := (h.2.2.2.1 p hp).1
theorem StO.t {u : Mem} {a : Nat} (h : StO u a) {p : Nat} (hp : p < 4) : TrO u (a + 3 + 4 * p) := (h.2.2.2.1 p hp).2
theorem StO.p2 {u : Mem} {a : Nat} (h : StO u a) : mP u a 2 = some (a + 19) := h.2.2.2.2.1.1
theorem StO.r {u : Mem} {a : Nat} (h : StO u a) : RoO u (a + 19) := h.2.2.2.2.1.2
theorem StO.p3 {u : Mem} {a : Nat} (h : StO u a) : mP u a 3 = some (a + 27) := h.2.2.2.2.2.1.1
theorem StO.a3 {u : Mem} {a : Nat} (h : StO u a) : mSh u (a + 27) = some (.inr (4, 3)) := h.2.2.2.2.2.1.2
theorem StO.pc {u : Mem} {a : Nat} (h : StO u a) {i : Nat} (hi : i < 3) : mP u (a + 27) i = some (a + 28 + 2 * i) := (h.2.2.2.2.2.2.1 i hi).1
theorem StO.c {u : Mem} {a : Nat} (h : StO u a) {i : Nat} (hi : i < 3) : ReO u (a + 28 + 2 * i) := (h.2.2.2.2.2.2.1 i hi).2
theorem StO.p4 {u : Mem} {a : Nat} (h : StO u a) : mP u a 4 = some (a + 34) := h.2.2.2.2.2.2.2.1
theorem StO.l {u : Mem} {a : Nat} (h : StO u a) : MaO u (a + 34) := h.2.2.2.2.2.2.2.2
/-- only numbers in cells of S and pointers in cells of T may differ -/
def Fr (u w : Mem) (S T : Nat → Prop) : Prop := mSh w = mSh u ∧ mN w = mN u ∧ mJ w = mJ u ∧ (∀ q, ¬ S q → mI w q = mI u q) ∧ ∀ q, ¬ T q → mP w q = mP u q
theorem Fr.refl (u : Mem) (S T : Nat → Prop) : Fr u u S T := ⟨rfl, rfl, rfl, fun _ _ => rfl, fun _ _ => rfl⟩
theorem Fr.trans {u v w : Mem} {S T : Nat → Prop} (h : Fr u v S T) (k : Fr v w S T) : Fr u w S T := ⟨k.1.trans h.1, k.2.1.trans h.2.1, k.2.2.1.trans h.2.2.1, fun q hq => (k.2.2.2.1 q hq).trans (h.2.2.2.1 q hq), fun q hq => (k.2.2.2.2 q hq).trans (h.2.2.2.2 q hq)⟩
theorem Fr.weak {u w : Mem} {S T S1 T1 : Nat → Prop} (h : Fr u w S T) (hS : ∀ q, S q → S1 q) (hT : ∀ q, T q → T1 q) : Fr u w S1 T1 := ⟨h.1, h.2.1, h.2.2.1, fun q hq => h.2.2.2.1 q fun x => hq (hS q x), fun q hq => h.2.2.2.2 q fun x => hq (hT q x)⟩
theorem Fr.sI {u w : Mem} {S T : Nat → Prop} (h : Fr u w S T) {a : Nat} (k v : Int) (ha : S a) : Fr u (sI w a k v) S T := ⟨h.1, h.2.1, h.2.2.1, fun q hq => by rw [up_mI_n w k v (fun e => hq (by rw [e]; exact ha))]; exact h.2.2.2.1 q hq, h.2.2.2.2⟩
theorem Fr.sA {u w : Mem} {S T : Nat → Prop} (h : Fr u w S T) {a : Nat} (f : RW) (ha : S a) : Fr u (sA w a f) S T := ⟨h.1, h.2.1, h.2.2.1, fun q hq => by rw [mI_sA_n w f (fun e => hq (by rw [e]; exact ha))]; exact h.2.2.2.1 q hq, h.2.2.2.2⟩
theorem Fr.sP {u w : Mem} {S T : Nat → Prop} (h : Fr u w S T) {a : Nat} (k : Int) (v : Option Nat) (ha : T a) : Fr u (sP w a k v) S T := ⟨h.1, h.2.1, h.2.2.1, h.2.2.2.1, fun q hq => by rw [← h.2.2.2.2 q hq]; funext j; exact mP_sP_a w k v j (fun e => hq (by rw [e]; exact ha))⟩
theorem Fr.mI {u w : Mem} {S T : Nat → Prop} (h : Fr u w S T) {q : Nat} (hq : ¬ S q) : mI w q = mI u q := h.2.2.2.1 q hq
theorem Fr.mP {u w : Mem} {S T : Nat → Prop} (h : Fr u w S T) {q : Nat} (hq : ¬ T q) : mP w q = mP u q := h.2.2.2.2 q hq
theorem Fr.mSh {u w : Mem} {S T : Nat → Prop} (h : Fr u w S T) : mSh w = mSh u := h.1
section RV2
variable {C : Cx} {cc : ByteArray} {own : String} {R : Room} {nL : Nat} {pc : Nat} {lv : LV} {st : List SV} {u : Mem} {c z : Nat}
theorem r_getIv (hC : CxOK C cc own R nL) {ci k idx a : Nat} {j v : Int} (hd : decode cc pc = .ok (.getfield idx, 3)) (hf : FL own idx ci k) (hr : fR ci k = false) (hj : (k : Int) = j) (hs : mSh u a = some (.inl ci)) (hv : mI u a j = v) (kk : VW C (pc + 3) lv (xI v :: st) u c z) : VW C pc lv (xA a :: st) u c z := by
  subst hv; exact r_getI hC hd hf hr hj hs kk
theorem r_ialdv (hC : CxOK C cc own R nL) {a n : Nat} {i v : Int} (hd : decode cc pc = .ok (.iaload, 1)) (hs : mSh u a = some (.inr (0, n))) (hi : 0 ≤ i ∧ i < n) (hv : mI u a i = v) (kk : VW C (pc + 1) lv (xI v :: st) u c z) : VW C pc lv (xI i :: xA a :: st) u c z := by
  subst hv; exact r_iald hC hd hs hi kk
end RV2
theorem rf_cpF (u : Mem) (a0 a : Nat) (k : Int) : RF (cpF u a0 a k) := fun j => by
  unfold cpF; split <;> exact rg_mI _ _ _
theorem mI_cp (u w : Mem) (a0 a : Nat) (k : Int) (b : Nat) : mI (sA w b (cpF u a0 a k)) b = cpF u a0 a k := mI_sA_f w b (rf_cpF u a0 a k)
theorem cpF_in {u : Mem} {a0 a : Nat} {k j : Int} (h : 0 ≤ j ∧ j < k) : cpF u a0 a k j = mI u a0 j := if_pos h
