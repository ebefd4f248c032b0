section RB
variable {C : Cx} {cc : ByteArray} {own : String} {R : Room} {nL : Nat} {pc : Nat} {lv : LV} {st : List SV} {u : Mem} {c z : Nat}
theorem r_newarr (hC : CxOK C cc own R nL) {n : Nat} {i : Int} {at_ : ArrayType} {ty : Nat} (hd : decode cc pc = .ok (.newarray at_, 2)) (hat : (ty = 0 ∧ at_ = .int) ∨ False) (hi : i = n) (hn : n ≤ 60000) (hcs : c + 1 ≤ R.cells) (hzs : z + n ≤ R.slots) (hw : Cond.arrayClass (aTy ty) ∈ wAll) (kk : mSh u (mN u) = none → VW C (pc + 2) lv (xA (mN u) :: st) (nC u (some (.inr (ty, n)))) (c + 1) (z + n)) : VW C pc lv (xI i :: st) u c z := by
  obtain ⟨p, l, e, R1, s, m, args, below, meth, cd, Q, D⟩ := C
  obtain ⟨hx, hb, hml, hown, hts, ⟨hK, hKX⟩, hR, hbs, hfl, hlk⟩ := hC
  intro H locs ls hu hS hl
  subst hR
  subst hi
  have e0 : (Int32.ofInt (n : Int)).toNatClampNeg = n := by
    show (wr (n : Int)).toNat = n
    rw [wr_id ⟨by omega, by omega⟩]; omega
  have e1 : ¬ Int32.ofInt (n : Int) < 0 := fun q => by
    have := (i3_lt (i := (n : Int)) (j := 0) ⟨by omega, by omega⟩ rg_0).mp q
    omega
  have hty : newarray.typeOf at_ = aTy ty := by rcases hat with ⟨h1, h2⟩ | h <;> first | exact h.elim | (subst h1; subst h2; rfl)
  have h6 : ty < 6 := by have := (hat.resolve_right id).1; omega
  refine va_newaK hx hb (by rw [hty]; exact hts _ hw) rfl hd rfl e1 e0 (by obtain ⟨h1, h2⟩ := hat.resolve_right id; subst h2; simp [newarray.typeOf, componentBytes]; omega) hcs hzs hu.1 fun H1 cA f1 z1 o1 hAr hNm => ?_
  have hcA : cA = D.2.2.2.1 ty := by
    have h := (hK.2 ty _ (tysD_at D h6)).2
    obtain ⟨h1, h2⟩ := hat.resolve_right id
    subst h1; subst h2; exact Option.some.inj (hNm.symm.trans h)
  subst hcA
  refine kk (hu.2.2.1 _ (Nat.le_refl _)) H1 locs ls (hu.push (by rw [z1, hu.1]) (fun q hq => o1 q (by rw [← hu.1]; exact hq)) (arr_at (ty := ty) (n := n) (by have := (hat.resolve_right id).1; omega) h6 (by omega) hu.2.1 (by rw [mSh_nC, if_pos rfl]) ?_)) ⟨by rw [z1, ← hu.1]; exact Nat.le_trans hS.1 (Nat.le_succ _), fun q h1 h2 => (o1 q (by rw [← hu.1]; exact Nat.lt_of_lt_of_le h1 hS.1)).trans (hS.2.1 q h1 h2), hS.2.2⟩ hl
  rw [f1]
  obtain ⟨h1, h2⟩ := hat.resolve_right id
  subst h1; subst h2
  rw [aX_0, vp_cell_i]; simp only [nC, up1, if_true]; rfl
theorem r_anewarr (hC : CxOK C cc own R nL) {n : Nat} {i : Int} {idx : Nat} {ty : Nat} {nm : String} (hd : decode cc pc = .ok (.anewarray idx, 3)) (h2 : 2 ≤ ty) (h6 : ty < 6) (ht : aTy ty = .object nm) (hi : i = n) (hn : n ≤ 60000) (hcs : c + 1 ≤ R.cells) (hzs : z + n ≤ R.slots) (hcl : Cond.classLink own idx nm ∈ wAll) (hw : nm ∈ [RX5, RX6, RX3, RX1]) (kk : mSh u (mN u) = none → VW C (pc + 3) lv (xA (mN u) :: st) (nC u (some (.inr (ty, n)))) (c + 1) (z + n)) : VW C pc lv (xI i :: st) u c z := by
  obtain ⟨p, l, e, R1, s, m, args, below, meth, cd, Q, D⟩ := C
  obtain ⟨hx, hb, hml, hown, hts, ⟨hK, hKX⟩, hR, hbs, hfl, hlk⟩ := hC
  intro H locs ls hu hS hl
  subst hR
  subst hi
  have e0 : (Int32.ofInt (n : Int)).toNatClampNeg = n := by
    show (wr (n : Int)).toNat = n
    rw [wr_id ⟨by omega, by omega⟩]; omega
  have e1 : ¬ Int32.ofInt (n : Int) < 0 := fun q => by
    have := (i3_lt (i := (n : Int)) (j := 0) ⟨by omega, by omega⟩ rg_0).mp q
    omega
  refine W.anew hx hb hown (hts _ hcl) (va_AO.use (hKX.1 _ hw)) rfl hd rfl e1 (by rw [e0]; omega) hcs (by rw [e0]; exact hzs) fun cA kA comp f1 f2 f3 f4 => ?_
  have hcA : cA = D.2.2.2.1 ty := by
    have h := (hK.2 ty _ (tysD_at D h6)).2
    rw [ht] at h
    obtain ⟨kA', comp', g1, g2, g3, g4⟩ := h
    exact Option.some.inj (f1.symm.trans g4)
  subst hcA
  rw [e0]
  generalize hH1 : H.push ({ cls := D.2.2.2.1 ty, slots := Array.replicate n .null, vm := .none } : Cell) = H1
  have z1 : H1.size = H.size + 1 := by rw [← hH1, Array.size_push]
  have g1 : H1[mN u]? = some (arrV (D.2.2.2.1 ty) n (fun _ => .null)) := by rw [← hu.1, ← hH1, Array.getElem?_push_size, ← arrV_new]
  have o1 : ∀ q : Nat, q < H.size → H1[q]? = H[q]? := fun q hq => by rw [← hH1, Array.getElem?_push, if_neg (Nat.ne_of_lt hq)]
  have hk := kk (hu.2.2.1 _ (Nat.le_refl _)) H1 locs ls (hu.push z1 o1 (arr_at (ty := ty) (n := n) (by omega) h6 (by omega) hu.2.1 (by rw [mSh_nC, if_pos rfl]) ?_)) ⟨by rw [z1]; exact Nat.le_trans hS.1 (Nat.le_succ _), fun q h1 h2 => (o1 q (Nat.lt_of_lt_of_le h1 hS.1)).trans (hS.2.1 q h1 h2), hS.2.2⟩ hl
  · rw [hu.1]
    exact hk
  · rw [g1]
    have hx2 : ∀ w : Mem, ∀ b : Nat, aX ty n w b = (n, .inr (.inr (.inr (.inr fun j : Nat => w.2.2.1 b j)))) := fun w b => by
      unfold aX; rw [if_neg (by omega), if_neg (by omega)]
    rw [hx2, vp_cell_q]; simp only [nC, up1, if_true]; rfl
theorem r_getS (hC : CxOK C cc own R nL) {k idx : Nat} (hd : decode cc pc = .ok (.getstatic idx, 3)) (hk : k < 3) (hlink : Cond.fieldLink own idx "OutboxRelay" (sNm k) "[I" ∈ wAll) (kk : VW C (pc + 3) lv (xA (C.2.2.2.2.2.2.2.2.2.2.2.2.2.2.2 k) :: st) u c z) : VW C pc lv st u c z := by
  obtain ⟨p, l, e, R1, s, m, args, below, meth, cd, Q, D⟩ := C
  obtain ⟨hx, hb, hml, hown, hts, ⟨hK, hKX⟩, hR, hbs, hfl, hlk⟩ := hC
  intro H locs ls hu hS hl
  obtain ⟨cf, kf, fi, f, a, cell, h1, h2, h3, h4, h5, h6, h7, h8⟩ := hu.2.2.2.1.1 k hk
  exact W.gets hx hb hown (hts _ hlink) h1 h2 h3 h4 h5 (fun e => by rw [e] at h6; cases h6) h7 rfl hd (kk H locs ls hu hS hl)
end RB
/-! ===== contracts: what a call answers and leaves, from given arguments and memory ===== -/
def wsY (y : MethodName) (b : ByteArray) (mL : Nat) (rt : Option FieldType) : List Cond := .code y b mL rt :: wAll
abbrev dA_ (D : DD) : Nat → Prop := fun q => D.1 ≤ q
def PcD (D : DD) (u : Mem) : State → Prop := fun U => Rel D U u U.heap ∧ KD D U
def QcD (D : DD) (post : Option SV → Mem → Prop) : Array Value → State → Outcome → State → Prop := fun _ st o t => ∃ (r : Option SV) (u1 : Mem), o = .returned (r.map toV) ∧ post r u1 ∧ Rel D t u1 t.heap ∧ va_F (dA_ D) st t
def CT (l : Launch) (D : DD) (y : MethodName) (b : ByteArray) (mL : Nat) (rt : Option FieldType) (rm : Room) (args : List SV) (u : Mem) (post : Option SV → Mem → Prop) : Prop :=
  Met l y (wsY y b mL rt) rm (va_Pc (args.map toV) (PcD D u)) (QcD D post) rm.cells rm.slots (dA_ D)
/-- what a method's last row owes -/
def RetOK : Cx → Option FieldType → Room → (Option SV → Mem → Prop) → Prop
  | (p, l, e, R, s, m, args, below, meth, cd, Q, D), rt, rm, post => meth.sig.returnType = rt ∧ ∀ (H : Heap) (locs : List Loc) (g : JFrame), W p l e R s m args below meth cd H locs rm.cells rm.slots (MQ below (QcD D post) args s rm.cells rm.slots (dA_ D)) g → W p l e R s m args below meth cd H locs rm.cells rm.slots Q g
abbrev cxL (C : Cx) : Launch := C.2.1
abbrev cxD (C : Cx) : DD := C.2.2.2.2.2.2.2.2.2.2.2
abbrev cxN (C : Cx) : String := C.2.2.2.2.2.2.2.2.1.name
abbrev cxS (C : Cx) : State := C.2.2.2.2.1
/-- where a method begins -/
def lv0 : List SV → List (Option SV)
  | [] => []
  | v :: vs => if ca_t v = 2 then some v :: none :: lv0 vs else some v :: lv0 vs
theorem lv0_args (vs : List SV) : ∀ i, lv_args i (vs.map toV) = lvals i (lv0 vs) := by
  induction vs with
  | nil => intro i; rfl
  | cons v vs ih =>
    intro i
    simp only [List.map_cons, lv_args, toV_cat, lv0]
    by_cases h : ca_t v = 2
    · rw [if_pos h, if_pos h]
      simp only [lvals]
      rw [ih]
    · rw [if_neg h, if_neg h]
      simp only [lvals]
      rw [ih]
theorem lvals_pad (lv : LV) (n : Nat) : ∀ i, lvals i (lv ++ List.replicate n none) = lvals i lv := by
  induction lv with
  | nil =>
    intro i
    induction n generalizing i with
    | zero => rfl
    | succ n ih => simp only [List.replicate_succ, List.nil_append, lvals] at ih ⊢; exact ih _
  | cons a r ih =>
    intro i
    cases a <;> simp only [List.cons_append, lvals, ih]
theorem lg_sl_len (vs : List SV) : (lg_sl (vs.map toV)).length = (lv0 vs).length := by
  induction vs with
  | nil => rfl
  | cons v vs ih =>
    simp only [List.map_cons, lv0]
    unfold lg_sl at *
    by_cases h : ca_t v = 2
    · rw [if_pos h]
      have := toV_cat v
      simp_all
    · rw [if_neg h]
      have := toV_cat v
      have h2 : ¬ (toV v).category = 2 := by omega
      simp_all
theorem MQ_to {p : Program} {l : Launch} {e : Env} {R : Room} {s : State} {m : MethodId} {args : Array Value} {below : List Frame} {meth : Method} {cd : Code} {H : Heap} {locs : List Loc} {c z k n : Nat} {Q : State → Prop} {g : JFrame} (h1 : c ≤ k) (h2 : z ≤ n) (kk : W p l e R s m args below meth cd H locs k n Q g) : W p l e R s m args below meth cd H locs c z Q g := W.widen h1 h2 kk
theorem CT.of {l : Launch} {D : DD} {y : MethodName} {b : ByteArray} {mL : Nat} {rt : Option FieldType} {rm : Room} {as : List SV} {u : Mem} {post : Option SV → Mem → Prop} (hfl : l.stackTraces = false) (hy : plainName y.cls = true) (hlen : (lv0 as).length ≤ mL)
    (body : ∀ C : Cx, CxOK C b y.cls rm mL → RetOK C rt rm post → cxL C = l → cxD C = D → cxN C = y.name → VW C 0 (lv0 as ++ List.replicate (mL - (lv0 as).length) none) [] u 0 0) : CT l D y b mL rt rm as u post := by
  refine Met.ofW (cc := b) (maxL := mL) (ret := rt) hy rfl ?_
  intro p e s m args below meth c s₁ B hml hv
  obtain ⟨rfl, hu, hK⟩ := hv
  have hts := atoms_spec (ws := wsY y b mL rt) B.pre
  have hown : s.vm.findClass y.cls = some m.cls := findClass_of_methodNamed B.named
  have hnm := (name_of_methodNamed B.named B.method).1
  have hs0 : D.1 ≤ s.heap.size := by rw [hu.1]; exact hu.2.1
  rw [lg_entry_eq]
  have hl := lv_entry (as.map toV) (n := mL) (by rw [lg_sl_len]; exact hlen)
  generalize (lg_sl (as.map toV) ++ List.replicate (mL - (lg_sl (as.map toV)).length) Slot.unset).toArray = ls at hl ⊢
  rw [lv0_args, ← lvals_pad _ (mL - (lv0 as).length)] at hl
  exact body (p, l, e, _, s, m, (as.map toV).toArray, below, meth, c, _, D) ⟨B.exec, B.bytes, hml, hown, fun w hw => hts w (List.mem_cons_of_mem _ hw), hK, rfl, hs0, hfl, B.notSynchronized⟩ ⟨B.returns, fun _ _ _ h => h⟩ rfl rfl hnm s.heap [] ls hu va_S.rf (by rw [hml]; exact hl)
section RC
variable {C : Cx} {cc : ByteArray} {own : String} {R : Room} {nL : Nat} {pc : Nat} {lv : LV} {st : List SV} {u : Mem} {c z : Nat}
variable {rt : Option FieldType} {rm : Room} {post : Option SV → Mem → Prop}
theorem QcD.intro {D : DD} {a : Array Value} {s t : State} {H : Heap} {locs : List Loc} {r : Option SV} {u : Mem} (hp : post r u) (hu : Rel D s u H) (hS : va_S (dA_ D) s.heap H locs) (ht : t.heap = H) (hW : s.WarmedH t.vm) : QcD D post a s (.returned (r.map toV)) t :=
  ⟨r, u, rfl, hp, by rw [ht]; exact hu.alike hW.alike, hS.F ht⟩
theorem r_iret (hC : CxOK C cc own R nL) (hr : RetOK C (some .int) rm post) {i : Int} (hd : decode cc pc = .ok (.ireturn, 1)) (hc : c ≤ rm.cells) (hz : z ≤ rm.slots) (hp : post (some (xI i)) u) : VW C pc lv [xI i] u c z := by
  obtain ⟨p, l, e, R1, s, m, args, below, meth, cd, Q, D⟩ := C
  obtain ⟨hx, hb, hml, hown, hts, hK, hR, hbs, hfl, hlk⟩ := hC
  obtain ⟨hrt, hQ⟩ := hr
  intro H locs ls hu hS hl
  exact W.widen hc hz (hQ H locs _ (W.iret hx hb hrt (fun t ht hW => QcD.intro (r := some (xI i)) hp hu hS ht hW) hS.2.2 hd hlk))
theorem r_zret (hC : CxOK C cc own R nL) (hr : RetOK C (some .boolean) rm post) {i : Int} (hd : decode cc pc = .ok (.ireturn, 1)) (h01 : i = 0 ∨ i = 1) (hc : c ≤ rm.cells) (hz : z ≤ rm.slots) (hp : post (some (xI i)) u) : VW C pc lv [xI i] u c z := by
  obtain ⟨p, l, e, R1, s, m, args, below, meth, cd, Q, D⟩ := C
  obtain ⟨hx, hb, hml, hown, hts, hK, hR, hbs, hfl, hlk⟩ := hC
  obtain ⟨hrt, hQ⟩ := hr
  intro H locs ls hu hS hl
  exact W.widen hc hz (hQ H locs _ (W.zret (v := Int32.ofInt i) hx hb hrt (by rcases h01 with h | h <;> subst h <;> rfl) (fun t ht hW => QcD.intro (r := some (xI i)) hp hu hS ht hW) hS.2.2 hd hlk))
theorem r_vret (hC : CxOK C cc own R nL) (hr : RetOK C none rm post) (hd : decode cc pc = .ok (.return_, 1)) (hc : c ≤ rm.cells) (hz : z ≤ rm.slots) (hp : post none u) : VW C pc lv [] u c z := by
  obtain ⟨p, l, e, R1, s, m, args, below, meth, cd, Q, D⟩ := C
  obtain ⟨hx, hb, hml, hown, hts, hK, hR, hbs, hfl, hlk⟩ := hC
  obtain ⟨hrt, hQ⟩ := hr
  intro H locs ls hu hS hl
  exact W.widen hc hz (hQ H locs _ (W.vret hx hb hrt (fun t ht hW => QcD.intro (r := none) hp hu hS ht hW) hS.2.2 hd hlk))
theorem r_lret (hC : CxOK C cc own R nL) (hr : RetOK C (some .long) rm post) {i : Int64} (hd : decode cc pc = .ok (.lreturn, 1)) (hc : c ≤ rm.cells) (hz : z ≤ rm.slots) (hp : post (some (xJ i)) u) : VW C pc lv [xJ i] u c z := by
  obtain ⟨p, l, e, R1, s, m, args, below, meth, cd, Q, D⟩ := C
  obtain ⟨hx, hb, hml, hown, hts, hK, hR, hbs, hfl, hlk⟩ := hC
  obtain ⟨hrt, hQ⟩ := hr
  intro H locs ls hu hS hl
  exact W.widen hc hz (hQ H locs _ (W.lret hx hb hrt (fun t ht hW => QcD.intro (r := some (xJ i)) hp hu hS ht hW) hS.2.2 hd hlk))
theorem r_dret (hC : CxOK C cc own R nL) (hr : RetOK C (some .double) rm post) {i : UInt64} (hd : decode cc pc = .ok (.dreturn, 1)) (hc : c ≤ rm.cells) (hz : z ≤ rm.slots) (hp : post (some (xD i)) u) : VW C pc lv [xD i] u c z := by
  obtain ⟨p, l, e, R1, s, m, args, below, meth, cd, Q, D⟩ := C
  obtain ⟨hx, hb, hml, hown, hts, hK, hR, hbs, hfl, hlk⟩ := hC
  obtain ⟨hrt, hQ⟩ := hr
  intro H locs ls hu hS hl
  exact W.widen hc hz (hQ H locs _ (W.dret hx hb hrt (fun t ht hW => QcD.intro (r := some (xD i)) hp hu hS ht hW) hS.2.2 hd hlk))
theorem r_fret (hC : CxOK C cc own R nL) (hr : RetOK C (some .float) rm post) {i : UInt32} (hd : decode cc pc = .ok (.freturn, 1)) (hc : c ≤ rm.cells) (hz : z ≤ rm.slots) (hp : post (some (xF i)) u) : VW C pc lv [xF i] u c z := by
  obtain ⟨p, l, e, R1, s, m, args, below, meth, cd, Q, D⟩ := C
  obtain ⟨hx, hb, hml, hown, hts, hK, hR, hbs, hfl, hlk⟩ := hC
  obtain ⟨hrt, hQ⟩ := hr
  intro H locs ls hu hS hl
  exact W.widen hc hz (hQ H locs _ (W.fret hx hb hrt (fun t ht hW => QcD.intro (r := some (xF i)) hp hu hS ht hW) hS.2.2 hd hlk))
theorem r_aret (hC : CxOK C cc own R nL) {nm : String} (hr : RetOK C (some (.object nm)) rm post) {r : Option Nat} (hd : decode cc pc = .ok (.areturn, 1)) (hc : c ≤ rm.cells) (hz : z ≤ rm.slots) (hp : post (some (xR r)) u) : VW C pc lv [xR r] u c z := by
  obtain ⟨p, l, e, R1, s, m, args, below, meth, cd, Q, D⟩ := C
  obtain ⟨hx, hb, hml, hown, hts, hK, hR, hbs, hfl, hlk⟩ := hC
  obtain ⟨hrt, hQ⟩ := hr
  intro H locs ls hu hS hl
  exact W.widen hc hz (hQ H locs _ (W.aret (v := va_rf r) hx hb hrt (Or.inl ⟨_, rfl⟩) (by cases r; exact Or.inl rfl; exact Or.inr ⟨_, rfl⟩) (fun t ht hW => QcD.intro (r := some (xR r)) hp hu hS ht hW) hS.2.2 hd hlk))
/-! calls -/
/-- what the tables say of a method that is called -/
def MI (y : MethodName) (b : ByteArray) (mL : Nat) (rt : Option FieldType) (n : Nat) : Prop := Cond.initialized y.cls ∈ wAll ∧ Cond.code y b mL rt ∈ wAll ∧ (y.cls ≠ "java/lang/invoke/MethodHandle" ∧ y.cls ≠ "java/lang/invoke/VarHandle" ∧ (parseMethodDescriptor y.desc).map (fun d => d.parameters.length) = some n)
theorem wAll_good {w : Cond} (h : w ∈ wAll) : (w.onTables && w.keeps) = true ∨ ∃ ty, w = .arrayClass ty := good_of_word (List.mem_filter.mp h).2
theorem callB_a {s : State} {args : Array Value} {y : MethodName} {b : ByteArray} {mL n idx : Nat} {rt : Option FieldType} {rm : Room} (hts : ∀ w ∈ wAll, w.before args s = true) (hm : MI y b mL rt n) (hl : Cond.methodLink own idx y ∈ wAll) (hR : rm.frames + 1 ≤ R.frames ∧ 8 + (mL + 11) + rm.locals ≤ R.locals) : CallB R s args own idx y b mL rt (wsY y b mL rt) rm rm.cells rm.slots n := by
  refine callB_of (Ts := wAll) n hts (fun w hw => ?_) rfl rfl rfl (hts _ hm.1) (hts _ hl) hm.2.2 hR
  rcases List.mem_cons.mp hw with h | h
  · rw [h]; exact ⟨hm.2.1, wAll_good hm.2.1⟩
  · exact ⟨h, wAll_good h⟩
theorem PcD_blind {D : DD} {u : Mem} {av : List Value} : FrameBlind (va_Pc av (PcD D u)) := fun a U g mk q => ⟨q.1, Rel.alike (U := U) (V := U.calling g mk a) (Vm.Alike.refl U.vm) q.2.1, KD.warm (s := U) (U := U.calling g mk a) (State.WarmedH.refl U) q.2.2⟩
theorem run_go {p : Program} {l : Launch} {e : Env} {s : State} {m : MethodId} {args : Array Value} {below : List Frame} {meth : Method} {cd : Code} {Q : State → Prop} {D : DD} {H : Heap} {locs : List Loc} {ls : Array Slot} {mc ms : Nat} {st0 : List SV} {a : Array Value} (hr : va_Run p l e R s m args below meth cd H locs c z mc ms (F0 m pc ls (st0.map toV)) (st.map toV) (QcD D post a) (dA_ D)) (hS : va_S (dA_ D) s.heap H locs) (hl : lv_has ls cd.maxLocals (lvals 0 lv))
    (kk : ∀ (r : Option SV) (u1 : Mem), post r u1 → VW (p, l, e, R, s, m, args, below, meth, cd, Q, D) (pc + 3) lv (r.toList ++ st) u1 (c + mc) (z + ms)) : W p l e R s m args below meth cd H locs c z Q (F0 m pc ls (st0.map toV)) := by
  intro T hT X
  obtain ⟨v, st₀, t, T', L, h0, X', hL, e1, e2, ⟨r, u1, hv, hp, hu1, hF⟩, st1⟩ := hr T hT X
  cases hv
  have hS' : va_S (dA_ D) s.heap T'.heap (locs ++ L) := by
    obtain ⟨hz, hk⟩ := hF
    rw [h0] at hz hk
    refine ⟨Nat.le_trans hS.1 (by rw [e1]; exact hz), fun q h1 h2 => ?_, fun q hq => ?_⟩
    · rw [e1, hk q (Nat.lt_of_lt_of_le h1 hS.1) h2]
      exact hS.2.1 q h1 h2
    · rcases List.mem_append.mp hq with h | h
      · exact hS.2.2 q h
      · exact hL q h
  have hvm : t.vm.Alike s.vm := by rw [← e2]; exact X'.warmed.alike.symm
  obtain ⟨t2, a1, b1⟩ := kk r u1 hp T'.heap (locs ++ L) ls (by rw [e1]; exact hu1.alike hvm) hS' hl T' rfl X'
  refine ⟨t2, st1 t2 ?_, b1⟩
  have he : (r.toList ++ st).map toV = (r.map toV).toList ++ st.map toV := by cases r <;> simp
  rw [he] at a1
  exact a1
/-- a call of an instance method -/
theorem r_callV (hC : CxOK C cc own R nL) {y : MethodName} {b : ByteArray} {mL idx n ci a : Nat} {as : List SV} {rv : vw_C} (hd : decode cc pc = .ok (.invokevirtual idx, 3)) (hm : MI y b mL rt n) (hse : Cond.selects y.cls y y ∈ wAll ∧ Cond.instanceMethod y ∈ wAll) (hlk : Cond.methodLink own idx y ∈ wAll) (hR : rm.frames + 1 ≤ R.frames ∧ 8 + (mL + 11) + rm.locals ≤ R.locals) (hs : mSh u a = some (.inl ci)) (hcl : vwCl[ci]? = some rv) (hcn : rv.1 = y.cls) (hn : as.length = n) (hw : (st.map fun v => ca_t v).sum ≤ 8) (hc : c + rm.cells ≤ R.cells) (hz : z + rm.slots ≤ R.slots)
    (hct : CT (cxL C) (cxD C) y b mL rt rm (xA a :: as) u post) (kk : ∀ (r : Option SV) (u1 : Mem), post r u1 → VW C (pc + 3) lv (r.toList ++ st) u1 (c + rm.cells) (z + rm.slots)) {st0 : List SV} (h0 : as.reverse ++ xA a :: st = st0) : VW C pc lv st0 u c z := by
  subst h0
  obtain ⟨p, l, e, R1, s, m, args, below, meth, cd, Q, D⟩ := C
  obtain ⟨hx, hb, hml, hown, hts, hK, hR1, hbs, hfl, hlk0⟩ := hC
  intro H locs ls hu hS hl
  subst hR1
  obtain ⟨-, r', h1, cell, g1, g2, g3, -⟩ := hu.obj hs
  cases hcl.symm.trans h1
  have hrun := va_runV (As := as.map toV) (rest := st.map toV) (cc := cc) (nL := nL) (index := idx) (C := y.cls) (b := a) (H := H) (locs := locs) (cells := c) (slots := z) (g := F0 m pc ls ((as.reverse ++ xA a :: st).map toV)) (below := below) (meth := meth) (e := e) (Ts := wAll) (own := own) (s := s) (p := p) ⟨hx, hb, hml, hown, hts⟩ hct ⟨callB_a hts hm hlk hR, hts _ hse.2, hts _ hse.1⟩
    ⟨PcD_blind, ⟨cell, g1, by rw [g3]; rfl, by rw [g2, ← hcn]; exact (hK.1.1 ci rv hcl).2.1⟩, fun U hU hW => ⟨by simp [toV, va_rf], by rw [hU]; exact hu.alike hW.alike, hK.warm hW⟩⟩ rfl (by simp [hn]) (by rw [← hml]; exact hl.1) (by simp [toV, va_rf]) (lv_room (by
      have : (st.map toV).map (fun v => v.category) = st.map fun v => ca_t v := by rw [List.map_map]; exact List.map_congr_left fun v _ => toV_cat v
      rw [this]; exact hw)) hd ⟨hc, hz⟩
  exact run_go hrun hS hl kk
/-- .. of a static one -/
theorem r_callS (hC : CxOK C cc own R nL) {y : MethodName} {b : ByteArray} {mL idx n : Nat} {as : List SV} (hd : decode cc pc = .ok (.invokestatic idx, 3)) (hm : MI y b mL rt n) (hse : Cond.static y ∈ wAll) (hlk : Cond.methodLink own idx y ∈ wAll) (hR : rm.frames + 1 ≤ R.frames ∧ 8 + (mL + 11) + rm.locals ≤ R.locals) (hn : as.length = n) (hw : (st.map fun v => ca_t v).sum ≤ 8) (hc : c + rm.cells ≤ R.cells) (hz : z + rm.slots ≤ R.slots)
    (hct : CT (cxL C) (cxD C) y b mL rt rm as u post) (kk : ∀ (r : Option SV) (u1 : Mem), post r u1 → VW C (pc + 3) lv (r.toList ++ st) u1 (c + rm.cells) (z + rm.slots)) {st0 : List SV} (h0 : as.reverse ++ st = st0) : VW C pc lv st0 u c z := by
  subst h0
  obtain ⟨p, l, e, R1, s, m, args, below, meth, cd, Q, D⟩ := C
  obtain ⟨hx, hb, hml, hown, hts, hK, hR1, hbs, hfl, hlk0⟩ := hC
  intro H locs ls hu hS hl
  subst hR1
  have hrun := va_runS (As := as.map toV) (rest := st.map toV) (cc := cc) (nL := nL) (index := idx) (H := H) (locs := locs) (cells := c) (slots := z) (g := F0 m pc ls ((as.reverse ++ st).map toV)) (below := below) (meth := meth) (e := e) (Ts := wAll) (own := own) (s := s) (p := p) ⟨hx, hb, hml, hown, hts⟩ hct ⟨callB_a hts hm hlk hR, hts _ hse⟩
    ⟨PcD_blind, fun U hU hW => ⟨rfl, by rw [hU]; exact hu.alike hW.alike, hK.warm hW⟩⟩ rfl (by simp [hn]) (by rw [← hml]; exact hl.1) (by simp) (lv_room (by
      have : (st.map toV).map (fun v => v.category) = st.map fun v => ca_t v := by rw [List.map_map]; exact List.map_congr_left fun v _ => toV_cat v
      rw [this]; exact hw)) hd ⟨hc, hz⟩
  exact run_go hrun hS hl kk
/-- .. of a constructor -/
theorem r_callI (hC : CxOK C cc own R nL) {y : MethodName} {b : ByteArray} {mL idx n a : Nat} {as : List SV} (hd : decode cc pc = .ok (.invokespecial idx, 3)) (hm : MI y b mL none n) (hse : Cond.instanceMethod y ∈ wAll) (hy : y.name = "<init>") (hlk : Cond.methodLink own idx y ∈ wAll) (hR : rm.frames + 1 ≤ R.frames ∧ 8 + (mL + 11) + rm.locals ≤ R.locals) (hn : as.length = n) (hw : (st.map fun v => ca_t v).sum ≤ 8) (hc : c + rm.cells ≤ R.cells) (hz : z + rm.slots ≤ R.slots)
    (hct : CT (cxL C) (cxD C) y b mL none rm (xA a :: as) u post) (kk : ∀ (r : Option SV) (u1 : Mem), post r u1 → VW C (pc + 3) lv (r.toList ++ st) u1 (c + rm.cells) (z + rm.slots)) {st0 : List SV} (h0 : as.reverse ++ xA a :: st = st0) : VW C pc lv st0 u c z := by
  subst h0
  obtain ⟨p, l, e, R1, s, m, args, below, meth, cd, Q, D⟩ := C
  obtain ⟨hx, hb, hml, hown, hts, hK, hR1, hbs, hfl, hlk0⟩ := hC
  intro H locs ls hu hS hl
  subst hR1
  have hrun := va_runI (As := as.map toV) (rest := st.map toV) (b := a) (cc := cc) (nL := nL) (index := idx) (H := H) (locs := locs) (cells := c) (slots := z) (g := F0 m pc ls ((as.reverse ++ xA a :: st).map toV)) (below := below) (meth := meth) (e := e) (Ts := wAll) (own := own) (s := s) (p := p) ⟨hx, hb, hml, hown, hts⟩ hct ⟨callB_a hts hm hlk hR, hy, hts _ hse⟩
    ⟨PcD_blind, fun U hU hW => ⟨by simp [toV, va_rf], by rw [hU]; exact hu.alike hW.alike, hK.warm hW⟩⟩ rfl (by simp [hn]) (by rw [← hml]; exact hl.1) (by simp [toV, va_rf]) (lv_room (by
      have : (st.map toV).map (fun v => v.category) = st.map fun v => ca_t v := by rw [List.map_map]; exact List.map_congr_left fun v _ => toV_cat v
      rw [this]; exact hw)) hd ⟨hc, hz⟩
  exact run_go hrun hS hl kk
theorem r_objInit (hC : CxOK C cc own R nL) {idx a : Nat} (hd : decode cc pc = .ok (.invokespecial idx, 3)) (hlk : Cond.methodLink own idx objectInit ∈ wAll) (hse : Cond.instanceMethod objectInit ∈ wAll) (hco : Cond.code objectInit ⟨#[0xb1]⟩ 1 none ∈ wAll) (hR : 1 ≤ R.frames ∧ 12 ≤ R.locals) (kk : VW C (pc + 3) lv [] u c z) : VW C pc lv [xA a] u c z := by
  obtain ⟨p, l, e, R1, s, m, args, below, meth, cd, Q, D⟩ := C
  obtain ⟨hx, hb, hml, hown, hts, hK, hR1, hbs, hfl, hlk0⟩ := hC
  intro H locs ls hu hS hl
  subst hR1
  exact W.objInit hx hb hown (hts _ hlk) (hts _ hse) (hts _ hco) rfl (by rw [← hl.1]) rfl hd (by omega) (by first | omega | (simp; omega)) (kk H locs ls hu hS hl)
end RC
