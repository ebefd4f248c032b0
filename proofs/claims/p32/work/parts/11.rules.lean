theorem r_iconst {C : Cx} {cc : ByteArray} {own : String} {R : Room} {nL : Nat} (hC : CxOK C cc own R nL) {pc : Nat} {lv : LV} {st : List SV} {u : Mem} {c z : Nat} {n : Int} (hd : decode cc pc = .ok (.iconst n, 1)) (kk : VW C (pc + 1) lv (xI n :: st) u c z) : VW C pc lv st u c z := by
  obtain ⟨p, l, e, R, s, m, args, below, meth, cd, Q, D⟩ := C
  obtain ⟨hx, hb, hml, hown, hts, ⟨hK, hKX⟩, hR, hbs, hfl, hlk⟩ := hC
  intro H locs ls hu hS hl
  exact lv_iconst hx hb hd rfl (kk H locs ls hu hS hl)

theorem r_bipush {C : Cx} {cc : ByteArray} {own : String} {R : Room} {nL : Nat} (hC : CxOK C cc own R nL) {pc : Nat} {lv : LV} {st : List SV} {u : Mem} {c z : Nat} {n : Int} (hd : decode cc pc = .ok (.bipush n, 2)) (hn : (Int8.ofInt n).toInt32 = Int32.ofInt n) (kk : VW C (pc + 2) lv (xI n :: st) u c z) : VW C pc lv st u c z := by
  obtain ⟨p, l, e, R, s, m, args, below, meth, cd, Q, D⟩ := C
  obtain ⟨hx, hb, hml, hown, hts, ⟨hK, hKX⟩, hR, hbs, hfl, hlk⟩ := hC
  intro H locs ls hu hS hl
  exact lv_bipush hx hb hd hn (kk H locs ls hu hS hl)

theorem r_sipush {C : Cx} {cc : ByteArray} {own : String} {R : Room} {nL : Nat} (hC : CxOK C cc own R nL) {pc : Nat} {lv : LV} {st : List SV} {u : Mem} {c z : Nat} {n : Int} (hd : decode cc pc = .ok (.sipush n, 3)) (hn : (Int16.ofInt n).toInt32 = Int32.ofInt n) (kk : VW C (pc + 3) lv (xI n :: st) u c z) : VW C pc lv st u c z := by
  obtain ⟨p, l, e, R, s, m, args, below, meth, cd, Q, D⟩ := C
  obtain ⟨hx, hb, hml, hown, hts, ⟨hK, hKX⟩, hR, hbs, hfl, hlk⟩ := hC
  intro H locs ls hu hS hl
  exact lv_sipush hx hb hd hn (kk H locs ls hu hS hl)

theorem r_lconst {C : Cx} {cc : ByteArray} {own : String} {R : Room} {nL : Nat} (hC : CxOK C cc own R nL) {pc : Nat} {lv : LV} {st : List SV} {u : Mem} {c z : Nat} {n : Fin 2} {j : Int64} (hd : decode cc pc = .ok (.lconst n, 1)) (hn : Int64.ofNat (n : Nat) = j) (kk : VW C (pc + 1) lv (xJ j :: st) u c z) : VW C pc lv st u c z := by
  obtain ⟨p, l, e, R, s, m, args, below, meth, cd, Q, D⟩ := C
  obtain ⟨hx, hb, hml, hown, hts, ⟨hK, hKX⟩, hR, hbs, hfl, hlk⟩ := hC
  intro H locs ls hu hS hl
  exact lv_lconst hx hb hd hn (kk H locs ls hu hS hl)

theorem r_null {C : Cx} {cc : ByteArray} {own : String} {R : Room} {nL : Nat} (hC : CxOK C cc own R nL) {pc : Nat} {lv : LV} {st : List SV} {u : Mem} {c z : Nat} (hd : decode cc pc = .ok (.aconst_null, 1)) (kk : VW C (pc + 1) lv (xN :: st) u c z) : VW C pc lv st u c z := by
  obtain ⟨p, l, e, R, s, m, args, below, meth, cd, Q, D⟩ := C
  obtain ⟨hx, hb, hml, hown, hts, ⟨hK, hKX⟩, hR, hbs, hfl, hlk⟩ := hC
  intro H locs ls hu hS hl
  exact lv_null hx hb hd (kk H locs ls hu hS hl)

theorem r_ldc2 {C : Cx} {cc : ByteArray} {own : String} {R : Room} {nL : Nat} (hC : CxOK C cc own R nL) {pc : Nat} {lv : LV} {st : List SV} {u : Mem} {c z : Nat} {i : Nat} {j : Int64} (hd : decode cc pc = .ok (.ldc2_w i, 3)) (hw : Cond.constantLong own i j ∈ wAll) (kk : VW C (pc + 3) lv (xJ j :: st) u c z) : VW C pc lv st u c z := by
  obtain ⟨p, l, e, R, s, m, args, below, meth, cd, Q, D⟩ := C
  obtain ⟨hx, hb, hml, hown, hts, ⟨hK, hKX⟩, hR, hbs, hfl, hlk⟩ := hC
  intro H locs ls hu hS hl
  exact lv_ldc2 hx hb hown (hts _ hw) hd (kk H locs ls hu hS hl)

theorem r_ldc2d {C : Cx} {cc : ByteArray} {own : String} {R : Room} {nL : Nat} (hC : CxOK C cc own R nL) {pc : Nat} {lv : LV} {st : List SV} {u : Mem} {c z : Nat} {i : Nat} {j : UInt64} (hd : decode cc pc = .ok (.ldc2_w i, 3)) (hw : Cond.constantDouble own i j ∈ wAll) (kk : VW C (pc + 3) lv (xD j :: st) u c z) : VW C pc lv st u c z := by
  obtain ⟨p, l, e, R, s, m, args, below, meth, cd, Q, D⟩ := C
  obtain ⟨hx, hb, hml, hown, hts, ⟨hK, hKX⟩, hR, hbs, hfl, hlk⟩ := hC
  intro H locs ls hu hS hl
  exact lv_ldc2d hx hb hown (hts _ hw) hd (kk H locs ls hu hS hl)

theorem r_iload_n {C : Cx} {cc : ByteArray} {own : String} {R : Room} {nL : Nat} (hC : CxOK C cc own R nL) {pc : Nat} {lv : LV} {st : List SV} {u : Mem} {c z : Nat} {i : Fin 4} {v : Int} (hd : decode cc pc = .ok (.iload_n i, 1)) (hv : lv[(i : Nat)]? = some (some (xI v))) (kk : VW C (pc + 1) lv (xI v :: st) u c z) : VW C pc lv st u c z := by
  obtain ⟨p, l, e, R, s, m, args, below, meth, cd, Q, D⟩ := C
  obtain ⟨hx, hb, hml, hown, hts, ⟨hK, hKX⟩, hR, hbs, hfl, hlk⟩ := hC
  intro H locs ls hu hS hl
  exact lv_iload_n hx hb hd rfl (lv_get' hl hv) (kk H locs ls hu hS hl)

theorem r_iload {C : Cx} {cc : ByteArray} {own : String} {R : Room} {nL : Nat} (hC : CxOK C cc own R nL) {pc : Nat} {lv : LV} {st : List SV} {u : Mem} {c z : Nat} {i : Nat} {v : Int} (hd : decode cc pc = .ok (.iload i, 2)) (hv : lv[i]? = some (some (xI v))) (kk : VW C (pc + 2) lv (xI v :: st) u c z) : VW C pc lv st u c z := by
  obtain ⟨p, l, e, R, s, m, args, below, meth, cd, Q, D⟩ := C
  obtain ⟨hx, hb, hml, hown, hts, ⟨hK, hKX⟩, hR, hbs, hfl, hlk⟩ := hC
  intro H locs ls hu hS hl
  exact lv_iload hx hb hd (lv_get' hl hv) (kk H locs ls hu hS hl)

theorem r_lload_n {C : Cx} {cc : ByteArray} {own : String} {R : Room} {nL : Nat} (hC : CxOK C cc own R nL) {pc : Nat} {lv : LV} {st : List SV} {u : Mem} {c z : Nat} {i : Fin 4} {v : Int64} (hd : decode cc pc = .ok (.lload_n i, 1)) (hv : lv[(i : Nat)]? = some (some (xJ v))) (kk : VW C (pc + 1) lv (xJ v :: st) u c z) : VW C pc lv st u c z := by
  obtain ⟨p, l, e, R, s, m, args, below, meth, cd, Q, D⟩ := C
  obtain ⟨hx, hb, hml, hown, hts, ⟨hK, hKX⟩, hR, hbs, hfl, hlk⟩ := hC
  intro H locs ls hu hS hl
  exact lv_lload_n hx hb hd rfl (lv_get' hl hv) (kk H locs ls hu hS hl)

theorem r_lload {C : Cx} {cc : ByteArray} {own : String} {R : Room} {nL : Nat} (hC : CxOK C cc own R nL) {pc : Nat} {lv : LV} {st : List SV} {u : Mem} {c z : Nat} {i : Nat} {v : Int64} (hd : decode cc pc = .ok (.lload i, 2)) (hv : lv[i]? = some (some (xJ v))) (kk : VW C (pc + 2) lv (xJ v :: st) u c z) : VW C pc lv st u c z := by
  obtain ⟨p, l, e, R, s, m, args, below, meth, cd, Q, D⟩ := C
  obtain ⟨hx, hb, hml, hown, hts, ⟨hK, hKX⟩, hR, hbs, hfl, hlk⟩ := hC
  intro H locs ls hu hS hl
  exact lv_lload hx hb hd (lv_get' hl hv) (kk H locs ls hu hS hl)

theorem r_dload_n {C : Cx} {cc : ByteArray} {own : String} {R : Room} {nL : Nat} (hC : CxOK C cc own R nL) {pc : Nat} {lv : LV} {st : List SV} {u : Mem} {c z : Nat} {i : Fin 4} {v : UInt64} (hd : decode cc pc = .ok (.dload_n i, 1)) (hv : lv[(i : Nat)]? = some (some (xD v))) (kk : VW C (pc + 1) lv (xD v :: st) u c z) : VW C pc lv st u c z := by
  obtain ⟨p, l, e, R, s, m, args, below, meth, cd, Q, D⟩ := C
  obtain ⟨hx, hb, hml, hown, hts, ⟨hK, hKX⟩, hR, hbs, hfl, hlk⟩ := hC
  intro H locs ls hu hS hl
  exact lv_dload_n hx hb hd rfl (lv_get' hl hv) (kk H locs ls hu hS hl)

theorem r_dload {C : Cx} {cc : ByteArray} {own : String} {R : Room} {nL : Nat} (hC : CxOK C cc own R nL) {pc : Nat} {lv : LV} {st : List SV} {u : Mem} {c z : Nat} {i : Nat} {v : UInt64} (hd : decode cc pc = .ok (.dload i, 2)) (hv : lv[i]? = some (some (xD v))) (kk : VW C (pc + 2) lv (xD v :: st) u c z) : VW C pc lv st u c z := by
  obtain ⟨p, l, e, R, s, m, args, below, meth, cd, Q, D⟩ := C
  obtain ⟨hx, hb, hml, hown, hts, ⟨hK, hKX⟩, hR, hbs, hfl, hlk⟩ := hC
  intro H locs ls hu hS hl
  exact lv_dload hx hb hd (lv_get' hl hv) (kk H locs ls hu hS hl)

theorem r_fload_n {C : Cx} {cc : ByteArray} {own : String} {R : Room} {nL : Nat} (hC : CxOK C cc own R nL) {pc : Nat} {lv : LV} {st : List SV} {u : Mem} {c z : Nat} {i : Fin 4} {v : UInt32} (hd : decode cc pc = .ok (.fload_n i, 1)) (hv : lv[(i : Nat)]? = some (some (xF v))) (kk : VW C (pc + 1) lv (xF v :: st) u c z) : VW C pc lv st u c z := by
  obtain ⟨p, l, e, R, s, m, args, below, meth, cd, Q, D⟩ := C
  obtain ⟨hx, hb, hml, hown, hts, ⟨hK, hKX⟩, hR, hbs, hfl, hlk⟩ := hC
  intro H locs ls hu hS hl
  exact lv_fload_n hx hb hd rfl (lv_get' hl hv) (kk H locs ls hu hS hl)

theorem r_fload {C : Cx} {cc : ByteArray} {own : String} {R : Room} {nL : Nat} (hC : CxOK C cc own R nL) {pc : Nat} {lv : LV} {st : List SV} {u : Mem} {c z : Nat} {i : Nat} {v : UInt32} (hd : decode cc pc = .ok (.fload i, 2)) (hv : lv[i]? = some (some (xF v))) (kk : VW C (pc + 2) lv (xF v :: st) u c z) : VW C pc lv st u c z := by
  obtain ⟨p, l, e, R, s, m, args, below, meth, cd, Q, D⟩ := C
  obtain ⟨hx, hb, hml, hown, hts, ⟨hK, hKX⟩, hR, hbs, hfl, hlk⟩ := hC
  intro H locs ls hu hS hl
  exact lv_fload hx hb hd (lv_get' hl hv) (kk H locs ls hu hS hl)

theorem r_aload_n {C : Cx} {cc : ByteArray} {own : String} {R : Room} {nL : Nat} (hC : CxOK C cc own R nL) {pc : Nat} {lv : LV} {st : List SV} {u : Mem} {c z : Nat} {i : Fin 4} {v : Option Nat} (hd : decode cc pc = .ok (.aload_n i, 1)) (hv : lv[(i : Nat)]? = some (some (xR v))) (kk : VW C (pc + 1) lv (xR v :: st) u c z) : VW C pc lv st u c z := by
  obtain ⟨p, l, e, R, s, m, args, below, meth, cd, Q, D⟩ := C
  obtain ⟨hx, hb, hml, hown, hts, ⟨hK, hKX⟩, hR, hbs, hfl, hlk⟩ := hC
  intro H locs ls hu hS hl
  cases v with
  | some a => exact lv_aload_n hx hb hd rfl (lv_get' hl hv) (kk H locs ls hu hS hl)
  | none => exact lv_aload_nN hx hb hd rfl (lv_get' hl hv) (kk H locs ls hu hS hl)

theorem r_aload {C : Cx} {cc : ByteArray} {own : String} {R : Room} {nL : Nat} (hC : CxOK C cc own R nL) {pc : Nat} {lv : LV} {st : List SV} {u : Mem} {c z : Nat} {i : Nat} {v : Option Nat} (hd : decode cc pc = .ok (.aload i, 2)) (hv : lv[i]? = some (some (xR v))) (kk : VW C (pc + 2) lv (xR v :: st) u c z) : VW C pc lv st u c z := by
  obtain ⟨p, l, e, R, s, m, args, below, meth, cd, Q, D⟩ := C
  obtain ⟨hx, hb, hml, hown, hts, ⟨hK, hKX⟩, hR, hbs, hfl, hlk⟩ := hC
  intro H locs ls hu hS hl
  cases v with
  | some a => exact lv_aload hx hb hd (lv_get' hl hv) (kk H locs ls hu hS hl)
  | none => exact lv_aloadN hx hb hd (lv_get' hl hv) (kk H locs ls hu hS hl)

theorem r_istore_n {C : Cx} {cc : ByteArray} {own : String} {R : Room} {nL : Nat} (hC : CxOK C cc own R nL) {pc : Nat} {lv : LV} {st : List SV} {u : Mem} {c z : Nat} {i : Fin 4} {v : Int} {lv' : LV} (hd : decode cc pc = .ok (.istore_n i, 1)) (hi : (i : Nat) < lv.length) (hok : lok lv (i : Nat) = true) (hn : (i : Nat) < nL) (hv : lv.set (i : Nat) (some (xI v)) = lv') (kk : VW C (pc + 1) lv' st u c z) : VW C pc lv (xI v :: st) u c z := by
  obtain ⟨p, l, e, R, s, m, args, below, meth, cd, Q, D⟩ := C
  obtain ⟨hx, hb, hml, hown, hts, ⟨hK, hKX⟩, hR, hbs, hfl, hlk⟩ := hC
  intro H locs ls hu hS hl
  subst hv
  exact lv_istore_n hx hb hd rfl hl (by omega) rfl fun ls' hl' => kk H locs ls' hu hS (lv_set1 hok hi hl')

theorem r_istore {C : Cx} {cc : ByteArray} {own : String} {R : Room} {nL : Nat} (hC : CxOK C cc own R nL) {pc : Nat} {lv : LV} {st : List SV} {u : Mem} {c z : Nat} {i : Nat} {v : Int} {lv' : LV} (hd : decode cc pc = .ok (.istore i, 2)) (hi : i < lv.length) (hok : lok lv i = true) (hn : i < nL) (hv : lv.set i (some (xI v)) = lv') (kk : VW C (pc + 2) lv' st u c z) : VW C pc lv (xI v :: st) u c z := by
  obtain ⟨p, l, e, R, s, m, args, below, meth, cd, Q, D⟩ := C
  obtain ⟨hx, hb, hml, hown, hts, ⟨hK, hKX⟩, hR, hbs, hfl, hlk⟩ := hC
  intro H locs ls hu hS hl
  subst hv
  exact lv_istore hx hb hd hl (by omega) rfl fun ls' hl' => kk H locs ls' hu hS (lv_set1 hok hi hl')

theorem r_fstore_n {C : Cx} {cc : ByteArray} {own : String} {R : Room} {nL : Nat} (hC : CxOK C cc own R nL) {pc : Nat} {lv : LV} {st : List SV} {u : Mem} {c z : Nat} {i : Fin 4} {v : UInt32} {lv' : LV} (hd : decode cc pc = .ok (.fstore_n i, 1)) (hi : (i : Nat) < lv.length) (hok : lok lv (i : Nat) = true) (hn : (i : Nat) < nL) (hv : lv.set (i : Nat) (some (xF v)) = lv') (kk : VW C (pc + 1) lv' st u c z) : VW C pc lv (xF v :: st) u c z := by
  obtain ⟨p, l, e, R, s, m, args, below, meth, cd, Q, D⟩ := C
  obtain ⟨hx, hb, hml, hown, hts, ⟨hK, hKX⟩, hR, hbs, hfl, hlk⟩ := hC
  intro H locs ls hu hS hl
  subst hv
  exact lv_fstore_n hx hb hd rfl hl (by omega) rfl fun ls' hl' => kk H locs ls' hu hS (lv_set1 hok hi hl')

theorem r_fstore {C : Cx} {cc : ByteArray} {own : String} {R : Room} {nL : Nat} (hC : CxOK C cc own R nL) {pc : Nat} {lv : LV} {st : List SV} {u : Mem} {c z : Nat} {i : Nat} {v : UInt32} {lv' : LV} (hd : decode cc pc = .ok (.fstore i, 2)) (hi : i < lv.length) (hok : lok lv i = true) (hn : i < nL) (hv : lv.set i (some (xF v)) = lv') (kk : VW C (pc + 2) lv' st u c z) : VW C pc lv (xF v :: st) u c z := by
  obtain ⟨p, l, e, R, s, m, args, below, meth, cd, Q, D⟩ := C
  obtain ⟨hx, hb, hml, hown, hts, ⟨hK, hKX⟩, hR, hbs, hfl, hlk⟩ := hC
  intro H locs ls hu hS hl
  subst hv
  exact lv_fstore hx hb hd hl (by omega) rfl fun ls' hl' => kk H locs ls' hu hS (lv_set1 hok hi hl')

theorem r_astore_n {C : Cx} {cc : ByteArray} {own : String} {R : Room} {nL : Nat} (hC : CxOK C cc own R nL) {pc : Nat} {lv : LV} {st : List SV} {u : Mem} {c z : Nat} {i : Fin 4} {v : Option Nat} {lv' : LV} (hd : decode cc pc = .ok (.astore_n i, 1)) (hi : (i : Nat) < lv.length) (hok : lok lv (i : Nat) = true) (hn : (i : Nat) < nL) (hv : lv.set (i : Nat) (some (xR v)) = lv') (kk : VW C (pc + 1) lv' st u c z) : VW C pc lv (xR v :: st) u c z := by
  obtain ⟨p, l, e, R, s, m, args, below, meth, cd, Q, D⟩ := C
  obtain ⟨hx, hb, hml, hown, hts, ⟨hK, hKX⟩, hR, hbs, hfl, hlk⟩ := hC
  intro H locs ls hu hS hl
  subst hv
  cases v with
  | some a => exact lv_astore_n hx hb hd rfl hl (by omega) rfl fun ls' hl' => kk H locs ls' hu hS (lv_set1 hok hi hl')
  | none => exact lv_astore_nN hx hb hd rfl hl (by omega) rfl fun ls' hl' => kk H locs ls' hu hS (lv_set1 hok hi hl')

theorem r_astore {C : Cx} {cc : ByteArray} {own : String} {R : Room} {nL : Nat} (hC : CxOK C cc own R nL) {pc : Nat} {lv : LV} {st : List SV} {u : Mem} {c z : Nat} {i : Nat} {v : Option Nat} {lv' : LV} (hd : decode cc pc = .ok (.astore i, 2)) (hi : i < lv.length) (hok : lok lv i = true) (hn : i < nL) (hv : lv.set i (some (xR v)) = lv') (kk : VW C (pc + 2) lv' st u c z) : VW C pc lv (xR v :: st) u c z := by
  obtain ⟨p, l, e, R, s, m, args, below, meth, cd, Q, D⟩ := C
  obtain ⟨hx, hb, hml, hown, hts, ⟨hK, hKX⟩, hR, hbs, hfl, hlk⟩ := hC
  intro H locs ls hu hS hl
  subst hv
  cases v with
  | some a => exact lv_astore hx hb hd hl (by omega) rfl fun ls' hl' => kk H locs ls' hu hS (lv_set1 hok hi hl')
  | none => exact lv_astoreN hx hb hd hl (by omega) rfl fun ls' hl' => kk H locs ls' hu hS (lv_set1 hok hi hl')

theorem r_lstore_n {C : Cx} {cc : ByteArray} {own : String} {R : Room} {nL : Nat} (hC : CxOK C cc own R nL) {pc : Nat} {lv : LV} {st : List SV} {u : Mem} {c z : Nat} {i : Fin 4} {v : Int64} {lv' : LV} (hd : decode cc pc = .ok (.lstore_n i, 1)) (hi : (i : Nat) < lv.length) (hok : lok lv (i : Nat) = true) (hn : (i : Nat) + 1 < nL) (hv : (lv.set (i : Nat) (some (xJ v))).set ((i : Nat) + 1) none = lv') (kk : VW C (pc + 1) lv' st u c z) : VW C pc lv (xJ v :: st) u c z := by
  obtain ⟨p, l, e, R, s, m, args, below, meth, cd, Q, D⟩ := C
  obtain ⟨hx, hb, hml, hown, hts, ⟨hK, hKX⟩, hR, hbs, hfl, hlk⟩ := hC
  intro H locs ls hu hS hl
  subst hv
  exact lv_lstore_n hx hb hd rfl hl (by omega) rfl fun ls' hl' => kk H locs ls' hu hS (lv_set2 hok hi hl')

theorem r_lstore {C : Cx} {cc : ByteArray} {own : String} {R : Room} {nL : Nat} (hC : CxOK C cc own R nL) {pc : Nat} {lv : LV} {st : List SV} {u : Mem} {c z : Nat} {i : Nat} {v : Int64} {lv' : LV} (hd : decode cc pc = .ok (.lstore i, 2)) (hi : i < lv.length) (hok : lok lv i = true) (hn : i + 1 < nL) (hv : (lv.set i (some (xJ v))).set (i + 1) none = lv') (kk : VW C (pc + 2) lv' st u c z) : VW C pc lv (xJ v :: st) u c z := by
  obtain ⟨p, l, e, R, s, m, args, below, meth, cd, Q, D⟩ := C
  obtain ⟨hx, hb, hml, hown, hts, ⟨hK, hKX⟩, hR, hbs, hfl, hlk⟩ := hC
  intro H locs ls hu hS hl
  subst hv
  exact lv_lstore hx hb hd hl (by omega) rfl fun ls' hl' => kk H locs ls' hu hS (lv_set2 hok hi hl')

theorem r_dstore_n {C : Cx} {cc : ByteArray} {own : String} {R : Room} {nL : Nat} (hC : CxOK C cc own R nL) {pc : Nat} {lv : LV} {st : List SV} {u : Mem} {c z : Nat} {i : Fin 4} {v : UInt64} {lv' : LV} (hd : decode cc pc = .ok (.dstore_n i, 1)) (hi : (i : Nat) < lv.length) (hok : lok lv (i : Nat) = true) (hn : (i : Nat) + 1 < nL) (hv : (lv.set (i : Nat) (some (xD v))).set ((i : Nat) + 1) none = lv') (kk : VW C (pc + 1) lv' st u c z) : VW C pc lv (xD v :: st) u c z := by
  obtain ⟨p, l, e, R, s, m, args, below, meth, cd, Q, D⟩ := C
  obtain ⟨hx, hb, hml, hown, hts, ⟨hK, hKX⟩, hR, hbs, hfl, hlk⟩ := hC
  intro H locs ls hu hS hl
  subst hv
  exact lv_dstore_n hx hb hd rfl hl (by omega) rfl fun ls' hl' => kk H locs ls' hu hS (lv_set2 hok hi hl')

theorem r_dstore {C : Cx} {cc : ByteArray} {own : String} {R : Room} {nL : Nat} (hC : CxOK C cc own R nL) {pc : Nat} {lv : LV} {st : List SV} {u : Mem} {c z : Nat} {i : Nat} {v : UInt64} {lv' : LV} (hd : decode cc pc = .ok (.dstore i, 2)) (hi : i < lv.length) (hok : lok lv i = true) (hn : i + 1 < nL) (hv : (lv.set i (some (xD v))).set (i + 1) none = lv') (kk : VW C (pc + 2) lv' st u c z) : VW C pc lv (xD v :: st) u c z := by
  obtain ⟨p, l, e, R, s, m, args, below, meth, cd, Q, D⟩ := C
  obtain ⟨hx, hb, hml, hown, hts, ⟨hK, hKX⟩, hR, hbs, hfl, hlk⟩ := hC
  intro H locs ls hu hS hl
  subst hv
  exact lv_dstore hx hb hd hl (by omega) rfl fun ls' hl' => kk H locs ls' hu hS (lv_set2 hok hi hl')

theorem r_iinc {C : Cx} {cc : ByteArray} {own : String} {R : Room} {nL : Nat} (hC : CxOK C cc own R nL) {pc : Nat} {lv : LV} {st : List SV} {u : Mem} {c z : Nat} {i : Nat} {n v : Int} {lv' : LV} (hd : decode cc pc = .ok (.iinc i n, 3)) (hv0 : lv[i]? = some (some (xI v))) (hi : i < lv.length) (hok : lok lv i = true) (hn : i < nL) (hv : lv.set i (some (xI (v + n))) = lv') (kk : VW C (pc + 3) lv' st u c z) : VW C pc lv st u c z := by
  obtain ⟨p, l, e, R, s, m, args, below, meth, cd, Q, D⟩ := C
  obtain ⟨hx, hb, hml, hown, hts, ⟨hK, hKX⟩, hR, hbs, hfl, hlk⟩ := hC
  intro H locs ls hu hS hl
  subst hv
  obtain ⟨k, hk⟩ := List.getElem?_of_mem ((lvals_mem lv 0 (i, toV (xI v))).mpr ⟨i, _, hv0, by simp⟩)
  exact lv_iinc (v := Int32.ofInt (v + n)) hx hb hd hl hk (Int32.ofInt_add v n).symm (by omega) rfl fun ls' hl' => kk H locs ls' hu hS (lv_set1 hok hi hl')

theorem r_iadd {C : Cx} {cc : ByteArray} {own : String} {R : Room} {nL : Nat} (hC : CxOK C cc own R nL) {pc : Nat} {lv : LV} {st : List SV} {u : Mem} {c z : Nat} {i j : Int} (hd : decode cc pc = .ok (.iadd, 1)) (kk : VW C (pc + 1) lv (xI (i + j) :: st) u c z) : VW C pc lv (xI j :: xI i :: st) u c z := by
  obtain ⟨p, l, e, R, s, m, args, below, meth, cd, Q, D⟩ := C
  obtain ⟨hx, hb, hml, hown, hts, ⟨hK, hKX⟩, hR, hbs, hfl, hlk⟩ := hC
  intro H locs ls hu hS hl
  refine lv_iadd hx hb hd ?_
  rw [← Int32.ofInt_add i j]
  exact kk H locs ls hu hS hl

theorem r_isub {C : Cx} {cc : ByteArray} {own : String} {R : Room} {nL : Nat} (hC : CxOK C cc own R nL) {pc : Nat} {lv : LV} {st : List SV} {u : Mem} {c z : Nat} {i j : Int} (hd : decode cc pc = .ok (.isub, 1)) (kk : VW C (pc + 1) lv (xI (i - j) :: st) u c z) : VW C pc lv (xI j :: xI i :: st) u c z := by
  obtain ⟨p, l, e, R, s, m, args, below, meth, cd, Q, D⟩ := C
  obtain ⟨hx, hb, hml, hown, hts, ⟨hK, hKX⟩, hR, hbs, hfl, hlk⟩ := hC
  intro H locs ls hu hS hl
  refine lv_isub hx hb hd ?_
  rw [← Int32.ofInt_sub i j]
  exact kk H locs ls hu hS hl

theorem r_imul {C : Cx} {cc : ByteArray} {own : String} {R : Room} {nL : Nat} (hC : CxOK C cc own R nL) {pc : Nat} {lv : LV} {st : List SV} {u : Mem} {c z : Nat} {i j : Int} (hd : decode cc pc = .ok (.imul, 1)) (kk : VW C (pc + 1) lv (xI (i * j) :: st) u c z) : VW C pc lv (xI j :: xI i :: st) u c z := by
  obtain ⟨p, l, e, R, s, m, args, below, meth, cd, Q, D⟩ := C
  obtain ⟨hx, hb, hml, hown, hts, ⟨hK, hKX⟩, hR, hbs, hfl, hlk⟩ := hC
  intro H locs ls hu hS hl
  refine lv_imul hx hb hd ?_
  rw [← Int32.ofInt_mul i j]
  exact kk H locs ls hu hS hl

def b_and (i j : Int) : Int := (Int32.ofInt i &&& Int32.ofInt j).toInt
def b_or (i j : Int) : Int := (Int32.ofInt i ||| Int32.ofInt j).toInt
def b_shl (i j : Int) : Int := (Int32.ofInt i <<< (Int32.ofInt j &&& 31)).toInt
def b_shr (i j : Int) : Int := (Int32.ofInt i >>> (Int32.ofInt j &&& 31)).toInt
theorem rg_and (i j : Int) : rg (b_and i j) := rg_toInt _
theorem rg_or (i j : Int) : rg (b_or i j) := rg_toInt _
theorem rg_shl (i j : Int) : rg (b_shl i j) := rg_toInt _
theorem rg_shr (i j : Int) : rg (b_shr i j) := rg_toInt _

theorem r_iand {C : Cx} {cc : ByteArray} {own : String} {R : Room} {nL : Nat} (hC : CxOK C cc own R nL) {pc : Nat} {lv : LV} {st : List SV} {u : Mem} {c z : Nat} {i j : Int} (hd : decode cc pc = .ok (.iand, 1)) (kk : VW C (pc + 1) lv (xI (b_and i j) :: st) u c z) : VW C pc lv (xI j :: xI i :: st) u c z := by
  obtain ⟨p, l, e, R, s, m, args, below, meth, cd, Q, D⟩ := C
  obtain ⟨hx, hb, hml, hown, hts, ⟨hK, hKX⟩, hR, hbs, hfl, hlk⟩ := hC
  intro H locs ls hu hS hl
  refine lv_iand hx hb hd ?_
  have h := kk H locs ls hu hS hl
  rw [show (xI (b_and i j) :: st).map toV = .int (Int32.ofInt (b_and i j)) :: st.map toV from rfl, show Int32.ofInt (b_and i j) = _ from Int32.ofInt_toInt _] at h
  exact h

theorem r_ior {C : Cx} {cc : ByteArray} {own : String} {R : Room} {nL : Nat} (hC : CxOK C cc own R nL) {pc : Nat} {lv : LV} {st : List SV} {u : Mem} {c z : Nat} {i j : Int} (hd : decode cc pc = .ok (.ior, 1)) (kk : VW C (pc + 1) lv (xI (b_or i j) :: st) u c z) : VW C pc lv (xI j :: xI i :: st) u c z := by
  obtain ⟨p, l, e, R, s, m, args, below, meth, cd, Q, D⟩ := C
  obtain ⟨hx, hb, hml, hown, hts, ⟨hK, hKX⟩, hR, hbs, hfl, hlk⟩ := hC
  intro H locs ls hu hS hl
  refine lv_ior hx hb hd ?_
  have h := kk H locs ls hu hS hl
  rw [show (xI (b_or i j) :: st).map toV = .int (Int32.ofInt (b_or i j)) :: st.map toV from rfl, show Int32.ofInt (b_or i j) = _ from Int32.ofInt_toInt _] at h
  exact h

theorem r_ishl {C : Cx} {cc : ByteArray} {own : String} {R : Room} {nL : Nat} (hC : CxOK C cc own R nL) {pc : Nat} {lv : LV} {st : List SV} {u : Mem} {c z : Nat} {i j : Int} (hd : decode cc pc = .ok (.ishl, 1)) (kk : VW C (pc + 1) lv (xI (b_shl i j) :: st) u c z) : VW C pc lv (xI j :: xI i :: st) u c z := by
  obtain ⟨p, l, e, R, s, m, args, below, meth, cd, Q, D⟩ := C
  obtain ⟨hx, hb, hml, hown, hts, ⟨hK, hKX⟩, hR, hbs, hfl, hlk⟩ := hC
  intro H locs ls hu hS hl
  refine lv_ishl hx hb hd ?_
  have h := kk H locs ls hu hS hl
  rw [show (xI (b_shl i j) :: st).map toV = .int (Int32.ofInt (b_shl i j)) :: st.map toV from rfl, show Int32.ofInt (b_shl i j) = _ from Int32.ofInt_toInt _] at h
  exact h

theorem r_ishr {C : Cx} {cc : ByteArray} {own : String} {R : Room} {nL : Nat} (hC : CxOK C cc own R nL) {pc : Nat} {lv : LV} {st : List SV} {u : Mem} {c z : Nat} {i j : Int} (hd : decode cc pc = .ok (.ishr, 1)) (kk : VW C (pc + 1) lv (xI (b_shr i j) :: st) u c z) : VW C pc lv (xI j :: xI i :: st) u c z := by
  obtain ⟨p, l, e, R, s, m, args, below, meth, cd, Q, D⟩ := C
  obtain ⟨hx, hb, hml, hown, hts, ⟨hK, hKX⟩, hR, hbs, hfl, hlk⟩ := hC
  intro H locs ls hu hS hl
  refine lv_ishr hx hb hd ?_
  have h := kk H locs ls hu hS hl
  rw [show (xI (b_shr i j) :: st).map toV = .int (Int32.ofInt (b_shr i j)) :: st.map toV from rfl, show Int32.ofInt (b_shr i j) = _ from Int32.ofInt_toInt _] at h
  exact h

theorem r_idiv {C : Cx} {cc : ByteArray} {own : String} {R : Room} {nL : Nat} (hC : CxOK C cc own R nL) {pc : Nat} {lv : LV} {st : List SV} {u : Mem} {c z : Nat} {i j : Int} (hi : rg i) (hj : rg j) (hj0 : j ≠ 0) (hd : decode cc pc = .ok (.idiv, 1)) (kk : VW C (pc + 1) lv (xI (i.tdiv j) :: st) u c z) : VW C pc lv (xI j :: xI i :: st) u c z := by
  obtain ⟨p, l, e, R, s, m, args, below, meth, cd, Q, D⟩ := C
  obtain ⟨hx, hb, hml, hown, hts, ⟨hK, hKX⟩, hR, hbs, hfl, hlk⟩ := hC
  intro H locs ls hu hS hl
  refine lv_idiv hx hb hd (fun q => hj0 ((i3_eq hj rg_0).mp q)) ?_
  have h := kk H locs ls hu hS hl
  have e : Int32.ofInt (i.tdiv j) = Int32.ofInt i / Int32.ofInt j := by
    rw [← Int32.toInt_inj, Int32.toInt_div]
    show wr (i.tdiv j) = Int.bmod ((wr i).tdiv (wr j)) (2 ^ 32)
    rw [wr_id hi, wr_id hj, wr_bmod]
  rw [show (xI (i.tdiv j) :: st).map toV = .int (Int32.ofInt (i.tdiv j)) :: st.map toV from rfl, e] at h
  exact h

theorem r_irem {C : Cx} {cc : ByteArray} {own : String} {R : Room} {nL : Nat} (hC : CxOK C cc own R nL) {pc : Nat} {lv : LV} {st : List SV} {u : Mem} {c z : Nat} {i j : Int} (hi : rg i) (hj : rg j) (hj0 : j ≠ 0) (hd : decode cc pc = .ok (.irem, 1)) (kk : VW C (pc + 1) lv (xI (i.tmod j) :: st) u c z) : VW C pc lv (xI j :: xI i :: st) u c z := by
  obtain ⟨p, l, e, R, s, m, args, below, meth, cd, Q, D⟩ := C
  obtain ⟨hx, hb, hml, hown, hts, ⟨hK, hKX⟩, hR, hbs, hfl, hlk⟩ := hC
  intro H locs ls hu hS hl
  refine lv_irem hx hb hd (fun q => hj0 ((i3_eq hj rg_0).mp q)) ?_
  have h := kk H locs ls hu hS hl
  have e : Int32.ofInt (i.tmod j) = Int32.ofInt i - Int32.ofInt i / Int32.ofInt j * Int32.ofInt j := by
    rw [← Int32.toInt_inj, rem_toInt]
    have hb : rg (i.tmod j) := by
      rcases Int.lt_or_gt_of_ne hj0 with q | q
      · have := tmod_bounds (a := i) (M := -j) (by omega)
        rw [Int.tmod_neg] at this
        constructor <;> omega
      · have := tmod_bounds (a := i) (M := j) (by omega)
        constructor <;> omega
    show wr (i.tmod j) = (wr i).tmod (wr j)
    rw [wr_id hi, wr_id hj, wr_id hb]
  rw [show (xI (i.tmod j) :: st).map toV = .int (Int32.ofInt (i.tmod j)) :: st.map toV from rfl, e] at h
  exact h

theorem r_ladd {C : Cx} {cc : ByteArray} {own : String} {R : Room} {nL : Nat} (hC : CxOK C cc own R nL) {pc : Nat} {lv : LV} {st : List SV} {u : Mem} {c z : Nat} {i j : Int64} (hd : decode cc pc = .ok (.ladd, 1)) (kk : VW C (pc + 1) lv (xJ (i + j) :: st) u c z) : VW C pc lv (xJ j :: xJ i :: st) u c z := by
  obtain ⟨p, l, e, R, s, m, args, below, meth, cd, Q, D⟩ := C
  obtain ⟨hx, hb, hml, hown, hts, ⟨hK, hKX⟩, hR, hbs, hfl, hlk⟩ := hC
  intro H locs ls hu hS hl
  exact lv_ladd hx hb hd (kk H locs ls hu hS hl)

theorem r_lsub {C : Cx} {cc : ByteArray} {own : String} {R : Room} {nL : Nat} (hC : CxOK C cc own R nL) {pc : Nat} {lv : LV} {st : List SV} {u : Mem} {c z : Nat} {i j : Int64} (hd : decode cc pc = .ok (.lsub, 1)) (kk : VW C (pc + 1) lv (xJ (i - j) :: st) u c z) : VW C pc lv (xJ j :: xJ i :: st) u c z := by
  obtain ⟨p, l, e, R, s, m, args, below, meth, cd, Q, D⟩ := C
  obtain ⟨hx, hb, hml, hown, hts, ⟨hK, hKX⟩, hR, hbs, hfl, hlk⟩ := hC
  intro H locs ls hu hS hl
  exact lv_lsub hx hb hd (kk H locs ls hu hS hl)

theorem r_lmul {C : Cx} {cc : ByteArray} {own : String} {R : Room} {nL : Nat} (hC : CxOK C cc own R nL) {pc : Nat} {lv : LV} {st : List SV} {u : Mem} {c z : Nat} {i j : Int64} (hd : decode cc pc = .ok (.lmul, 1)) (kk : VW C (pc + 1) lv (xJ (i * j) :: st) u c z) : VW C pc lv (xJ j :: xJ i :: st) u c z := by
  obtain ⟨p, l, e, R, s, m, args, below, meth, cd, Q, D⟩ := C
  obtain ⟨hx, hb, hml, hown, hts, ⟨hK, hKX⟩, hR, hbs, hfl, hlk⟩ := hC
  intro H locs ls hu hS hl
  exact lv_lmul hx hb hd (kk H locs ls hu hS hl)

def i2j (i : Int) : Int64 := (Int32.ofInt i).toInt64

theorem r_i2l {C : Cx} {cc : ByteArray} {own : String} {R : Room} {nL : Nat} (hC : CxOK C cc own R nL) {pc : Nat} {lv : LV} {st : List SV} {u : Mem} {c z : Nat} {i : Int} (hd : decode cc pc = .ok (.i2l, 1)) (kk : VW C (pc + 1) lv (xJ (i2j i) :: st) u c z) : VW C pc lv (xI i :: st) u c z := by
  obtain ⟨p, l, e, R, s, m, args, below, meth, cd, Q, D⟩ := C
  obtain ⟨hx, hb, hml, hown, hts, ⟨hK, hKX⟩, hR, hbs, hfl, hlk⟩ := hC
  intro H locs ls hu hS hl
  exact lv_i2l hx hb hd rfl (kk H locs ls hu hS hl)

theorem r_lcmp {C : Cx} {cc : ByteArray} {own : String} {R : Room} {nL : Nat} (hC : CxOK C cc own R nL) {pc : Nat} {lv : LV} {st : List SV} {u : Mem} {c z : Nat} {i j : Int64} (hd : decode cc pc = .ok (.lcmp, 1)) (kk : VW C (pc + 1) lv (xI (lg_cmp i j).toInt :: st) u c z) : VW C pc lv (xJ j :: xJ i :: st) u c z := by
  obtain ⟨p, l, e, R, s, m, args, below, meth, cd, Q, D⟩ := C
  obtain ⟨hx, hb, hml, hown, hts, ⟨hK, hKX⟩, hR, hbs, hfl, hlk⟩ := hC
  intro H locs ls hu hS hl
  refine W.lcmp hx hb hd ?_
  have h := kk H locs ls hu hS hl
  rw [show (xI (lg_cmp i j).toInt :: st).map toV = .int (Int32.ofInt (lg_cmp i j).toInt) :: st.map toV from rfl, Int32.ofInt_toInt] at h
  exact h

theorem r_lshl {C : Cx} {cc : ByteArray} {own : String} {R : Room} {nL : Nat} (hC : CxOK C cc own R nL) {pc : Nat} {lv : LV} {st : List SV} {u : Mem} {c z : Nat} {i : Int64} {j : Int} {v : Int64} (hd : decode cc pc = .ok (.lshl, 1)) (hv : i <<< ((Int32.ofInt j).toInt64 &&& 63) = v) (kk : VW C (pc + 1) lv (xJ v :: st) u c z) : VW C pc lv (xI j :: xJ i :: st) u c z := by
  obtain ⟨p, l, e, R, s, m, args, below, meth, cd, Q, D⟩ := C
  obtain ⟨hx, hb, hml, hown, hts, ⟨hK, hKX⟩, hR, hbs, hfl, hlk⟩ := hC
  intro H locs ls hu hS hl
  exact lv_lshl hx hb hd hv (kk H locs ls hu hS hl)

theorem r_dup {C : Cx} {cc : ByteArray} {own : String} {R : Room} {nL : Nat} (hC : CxOK C cc own R nL) {pc : Nat} {lv : LV} {st : List SV} {u : Mem} {c z : Nat} {v : SV} (hd : decode cc pc = .ok (.dup, 1)) (hv : ca_t v = 1) (kk : VW C (pc + 1) lv (v :: v :: st) u c z) : VW C pc lv (v :: st) u c z := by
  obtain ⟨p, l, e, R, s, m, args, below, meth, cd, Q, D⟩ := C
  obtain ⟨hx, hb, hml, hown, hts, ⟨hK, hKX⟩, hR, hbs, hfl, hlk⟩ := hC
  intro H locs ls hu hS hl
  exact lv_dup hx hb hd ((toV_cat v).trans hv) (kk H locs ls hu hS hl)

theorem r_pop {C : Cx} {cc : ByteArray} {own : String} {R : Room} {nL : Nat} (hC : CxOK C cc own R nL) {pc : Nat} {lv : LV} {st : List SV} {u : Mem} {c z : Nat} {v : SV} (hd : decode cc pc = .ok (.pop, 1)) (hv : ca_t v = 1) (kk : VW C (pc + 1) lv st u c z) : VW C pc lv (v :: st) u c z := by
  obtain ⟨p, l, e, R, s, m, args, below, meth, cd, Q, D⟩ := C
  obtain ⟨hx, hb, hml, hown, hts, ⟨hK, hKX⟩, hR, hbs, hfl, hlk⟩ := hC
  intro H locs ls hu hS hl
  exact lv_pop hx hb hd ((toV_cat v).trans hv) (kk H locs ls hu hS hl)

theorem r_dup2 {C : Cx} {cc : ByteArray} {own : String} {R : Room} {nL : Nat} (hC : CxOK C cc own R nL) {pc : Nat} {lv : LV} {st : List SV} {u : Mem} {c z : Nat} {v w : SV} (hd : decode cc pc = .ok (.dup2, 1)) (hv : ca_t v = 1) (hw : ca_t w = 1) (kk : VW C (pc + 1) lv (v :: w :: v :: w :: st) u c z) : VW C pc lv (v :: w :: st) u c z := by
  obtain ⟨p, l, e, R, s, m, args, below, meth, cd, Q, D⟩ := C
  obtain ⟨hx, hb, hml, hown, hts, ⟨hK, hKX⟩, hR, hbs, hfl, hlk⟩ := hC
  intro H locs ls hu hS hl
  exact lv_dup2_11 hx hb hd ((toV_cat v).trans hv) ((toV_cat w).trans hw) (kk H locs ls hu hS hl)

theorem r_dup_x1 {C : Cx} {cc : ByteArray} {own : String} {R : Room} {nL : Nat} (hC : CxOK C cc own R nL) {pc : Nat} {lv : LV} {st : List SV} {u : Mem} {c z : Nat} {v w : SV} (hd : decode cc pc = .ok (.dup_x1, 1)) (hv : ca_t v = 1) (hw : ca_t w = 1) (kk : VW C (pc + 1) lv (v :: w :: v :: st) u c z) : VW C pc lv (v :: w :: st) u c z := by
  obtain ⟨p, l, e, R, s, m, args, below, meth, cd, Q, D⟩ := C
  obtain ⟨hx, hb, hml, hown, hts, ⟨hK, hKX⟩, hR, hbs, hfl, hlk⟩ := hC
  intro H locs ls hu hS hl
  exact lv_dup_x1 hx hb hd ((toV_cat v).trans hv) ((toV_cat w).trans hw) (kk H locs ls hu hS hl)

theorem r_goto {C : Cx} {cc : ByteArray} {own : String} {R : Room} {nL : Nat} (hC : CxOK C cc own R nL) {pc : Nat} {lv : LV} {st : List SV} {u : Mem} {c z : Nat} {off : Int} {t : Nat} (hd : decode cc pc = .ok (.goto off, 3)) (ht : (pc : Int) + off = (t : Int)) (kk : VW C t lv st u c z) : VW C pc lv st u c z := by
  obtain ⟨p, l, e, R, s, m, args, below, meth, cd, Q, D⟩ := C
  obtain ⟨hx, hb, hml, hown, hts, ⟨hK, hKX⟩, hR, hbs, hfl, hlk⟩ := hC
  intro H locs ls hu hS hl
  exact lv_goto hx hb hd ht (kk H locs ls hu hS hl)

theorem r_icmp_eq {C : Cx} {cc : ByteArray} {own : String} {R : Room} {nL : Nat} (hC : CxOK C cc own R nL) {pc : Nat} {lv : LV} {st : List SV} {u : Mem} {c z : Nat} {i j : Int} {off : Int} {t : Nat} (hd : decode cc pc = .ok (.if_icmp .eq off, 3)) (ht : (pc : Int) + off = (t : Int)) (hi : rg i) (hj : rg j) (kt : i = j → VW C t lv st u c z) (kf : ¬ (i = j) → VW C (pc + 3) lv st u c z) : VW C pc lv (xI j :: xI i :: st) u c z := by
  obtain ⟨p, l, e, R, s, m, args, below, meth, cd, Q, D⟩ := C
  obtain ⟨hx, hb, hml, hown, hts, ⟨hK, hKX⟩, hR, hbs, hfl, hlk⟩ := hC
  intro H locs ls hu hS hl
  exact lv_icmp_eq hx hb hd ht (fun q => kt ((i3_eq hi hj).mp q) H locs ls hu hS hl) (fun q => kf (fun q2 => q ((i3_eq hi hj).mpr q2)) H locs ls hu hS hl)

theorem r_if_eq {C : Cx} {cc : ByteArray} {own : String} {R : Room} {nL : Nat} (hC : CxOK C cc own R nL) {pc : Nat} {lv : LV} {st : List SV} {u : Mem} {c z : Nat} {i : Int} {off : Int} {t : Nat} (hd : decode cc pc = .ok (.ifCond .eq off, 3)) (ht : (pc : Int) + off = (t : Int)) (hi : rg i) (kt : i = 0 → VW C t lv st u c z) (kf : ¬ (i = 0) → VW C (pc + 3) lv st u c z) : VW C pc lv (xI i :: st) u c z := by
  obtain ⟨p, l, e, R, s, m, args, below, meth, cd, Q, D⟩ := C
  obtain ⟨hx, hb, hml, hown, hts, ⟨hK, hKX⟩, hR, hbs, hfl, hlk⟩ := hC
  intro H locs ls hu hS hl
  exact lv_if_eq hx hb hd ht (fun q => kt ((i3_eq hi rg_0).mp q) H locs ls hu hS hl) (fun q => kf (fun q2 => q ((i3_eq hi rg_0).mpr q2)) H locs ls hu hS hl)

theorem r_icmp_lt {C : Cx} {cc : ByteArray} {own : String} {R : Room} {nL : Nat} (hC : CxOK C cc own R nL) {pc : Nat} {lv : LV} {st : List SV} {u : Mem} {c z : Nat} {i j : Int} {off : Int} {t : Nat} (hd : decode cc pc = .ok (.if_icmp .lt off, 3)) (ht : (pc : Int) + off = (t : Int)) (hi : rg i) (hj : rg j) (kt : i < j → VW C t lv st u c z) (kf : ¬ (i < j) → VW C (pc + 3) lv st u c z) : VW C pc lv (xI j :: xI i :: st) u c z := by
  obtain ⟨p, l, e, R, s, m, args, below, meth, cd, Q, D⟩ := C
  obtain ⟨hx, hb, hml, hown, hts, ⟨hK, hKX⟩, hR, hbs, hfl, hlk⟩ := hC
  intro H locs ls hu hS hl
  exact lv_icmp_lt hx hb hd ht (fun q => kt ((i3_lt hi hj).mp q) H locs ls hu hS hl) (fun q => kf (fun q2 => q ((i3_lt hi hj).mpr q2)) H locs ls hu hS hl)

theorem r_if_lt {C : Cx} {cc : ByteArray} {own : String} {R : Room} {nL : Nat} (hC : CxOK C cc own R nL) {pc : Nat} {lv : LV} {st : List SV} {u : Mem} {c z : Nat} {i : Int} {off : Int} {t : Nat} (hd : decode cc pc = .ok (.ifCond .lt off, 3)) (ht : (pc : Int) + off = (t : Int)) (hi : rg i) (kt : i < 0 → VW C t lv st u c z) (kf : ¬ (i < 0) → VW C (pc + 3) lv st u c z) : VW C pc lv (xI i :: st) u c z := by
  obtain ⟨p, l, e, R, s, m, args, below, meth, cd, Q, D⟩ := C
  obtain ⟨hx, hb, hml, hown, hts, ⟨hK, hKX⟩, hR, hbs, hfl, hlk⟩ := hC
  intro H locs ls hu hS hl
  exact lv_if_lt hx hb hd ht (fun q => kt ((i3_lt hi rg_0).mp q) H locs ls hu hS hl) (fun q => kf (fun q2 => q ((i3_lt hi rg_0).mpr q2)) H locs ls hu hS hl)

theorem r_icmp_ge {C : Cx} {cc : ByteArray} {own : String} {R : Room} {nL : Nat} (hC : CxOK C cc own R nL) {pc : Nat} {lv : LV} {st : List SV} {u : Mem} {c z : Nat} {i j : Int} {off : Int} {t : Nat} (hd : decode cc pc = .ok (.if_icmp .ge off, 3)) (ht : (pc : Int) + off = (t : Int)) (hi : rg i) (hj : rg j) (kt : j ≤ i → VW C t lv st u c z) (kf : ¬ (j ≤ i) → VW C (pc + 3) lv st u c z) : VW C pc lv (xI j :: xI i :: st) u c z := by
  obtain ⟨p, l, e, R, s, m, args, below, meth, cd, Q, D⟩ := C
  obtain ⟨hx, hb, hml, hown, hts, ⟨hK, hKX⟩, hR, hbs, hfl, hlk⟩ := hC
  intro H locs ls hu hS hl
  exact lv_icmp_ge hx hb hd ht (fun q => kt ((i3_le hj hi).mp q) H locs ls hu hS hl) (fun q => kf (fun q2 => q ((i3_le hj hi).mpr q2)) H locs ls hu hS hl)

theorem r_if_ge {C : Cx} {cc : ByteArray} {own : String} {R : Room} {nL : Nat} (hC : CxOK C cc own R nL) {pc : Nat} {lv : LV} {st : List SV} {u : Mem} {c z : Nat} {i : Int} {off : Int} {t : Nat} (hd : decode cc pc = .ok (.ifCond .ge off, 3)) (ht : (pc : Int) + off = (t : Int)) (hi : rg i) (kt : 0 ≤ i → VW C t lv st u c z) (kf : ¬ (0 ≤ i) → VW C (pc + 3) lv st u c z) : VW C pc lv (xI i :: st) u c z := by
  obtain ⟨p, l, e, R, s, m, args, below, meth, cd, Q, D⟩ := C
  obtain ⟨hx, hb, hml, hown, hts, ⟨hK, hKX⟩, hR, hbs, hfl, hlk⟩ := hC
  intro H locs ls hu hS hl
  exact lv_if_ge hx hb hd ht (fun q => kt ((i3_le rg_0 hi).mp q) H locs ls hu hS hl) (fun q => kf (fun q2 => q ((i3_le rg_0 hi).mpr q2)) H locs ls hu hS hl)

theorem r_icmp_gt {C : Cx} {cc : ByteArray} {own : String} {R : Room} {nL : Nat} (hC : CxOK C cc own R nL) {pc : Nat} {lv : LV} {st : List SV} {u : Mem} {c z : Nat} {i j : Int} {off : Int} {t : Nat} (hd : decode cc pc = .ok (.if_icmp .gt off, 3)) (ht : (pc : Int) + off = (t : Int)) (hi : rg i) (hj : rg j) (kt : j < i → VW C t lv st u c z) (kf : ¬ (j < i) → VW C (pc + 3) lv st u c z) : VW C pc lv (xI j :: xI i :: st) u c z := by
  obtain ⟨p, l, e, R, s, m, args, below, meth, cd, Q, D⟩ := C
  obtain ⟨hx, hb, hml, hown, hts, ⟨hK, hKX⟩, hR, hbs, hfl, hlk⟩ := hC
  intro H locs ls hu hS hl
  exact lv_icmp_gt hx hb hd ht (fun q => kt ((i3_lt hj hi).mp q) H locs ls hu hS hl) (fun q => kf (fun q2 => q ((i3_lt hj hi).mpr q2)) H locs ls hu hS hl)

theorem r_if_gt {C : Cx} {cc : ByteArray} {own : String} {R : Room} {nL : Nat} (hC : CxOK C cc own R nL) {pc : Nat} {lv : LV} {st : List SV} {u : Mem} {c z : Nat} {i : Int} {off : Int} {t : Nat} (hd : decode cc pc = .ok (.ifCond .gt off, 3)) (ht : (pc : Int) + off = (t : Int)) (hi : rg i) (kt : 0 < i → VW C t lv st u c z) (kf : ¬ (0 < i) → VW C (pc + 3) lv st u c z) : VW C pc lv (xI i :: st) u c z := by
  obtain ⟨p, l, e, R, s, m, args, below, meth, cd, Q, D⟩ := C
  obtain ⟨hx, hb, hml, hown, hts, ⟨hK, hKX⟩, hR, hbs, hfl, hlk⟩ := hC
  intro H locs ls hu hS hl
  exact lv_if_gt hx hb hd ht (fun q => kt ((i3_lt rg_0 hi).mp q) H locs ls hu hS hl) (fun q => kf (fun q2 => q ((i3_lt rg_0 hi).mpr q2)) H locs ls hu hS hl)

theorem r_icmp_le {C : Cx} {cc : ByteArray} {own : String} {R : Room} {nL : Nat} (hC : CxOK C cc own R nL) {pc : Nat} {lv : LV} {st : List SV} {u : Mem} {c z : Nat} {i j : Int} {off : Int} {t : Nat} (hd : decode cc pc = .ok (.if_icmp .le off, 3)) (ht : (pc : Int) + off = (t : Int)) (hi : rg i) (hj : rg j) (kt : i ≤ j → VW C t lv st u c z) (kf : ¬ (i ≤ j) → VW C (pc + 3) lv st u c z) : VW C pc lv (xI j :: xI i :: st) u c z := by
  obtain ⟨p, l, e, R, s, m, args, below, meth, cd, Q, D⟩ := C
  obtain ⟨hx, hb, hml, hown, hts, ⟨hK, hKX⟩, hR, hbs, hfl, hlk⟩ := hC
  intro H locs ls hu hS hl
  exact lv_icmp_le hx hb hd ht (fun q => kt ((i3_le hi hj).mp q) H locs ls hu hS hl) (fun q => kf (fun q2 => q ((i3_le hi hj).mpr q2)) H locs ls hu hS hl)

theorem r_if_le {C : Cx} {cc : ByteArray} {own : String} {R : Room} {nL : Nat} (hC : CxOK C cc own R nL) {pc : Nat} {lv : LV} {st : List SV} {u : Mem} {c z : Nat} {i : Int} {off : Int} {t : Nat} (hd : decode cc pc = .ok (.ifCond .le off, 3)) (ht : (pc : Int) + off = (t : Int)) (hi : rg i) (kt : i ≤ 0 → VW C t lv st u c z) (kf : ¬ (i ≤ 0) → VW C (pc + 3) lv st u c z) : VW C pc lv (xI i :: st) u c z := by
  obtain ⟨p, l, e, R, s, m, args, below, meth, cd, Q, D⟩ := C
  obtain ⟨hx, hb, hml, hown, hts, ⟨hK, hKX⟩, hR, hbs, hfl, hlk⟩ := hC
  intro H locs ls hu hS hl
  exact lv_if_le hx hb hd ht (fun q => kt ((i3_le hi rg_0).mp q) H locs ls hu hS hl) (fun q => kf (fun q2 => q ((i3_le hi rg_0).mpr q2)) H locs ls hu hS hl)

theorem r_icmp_ne {C : Cx} {cc : ByteArray} {own : String} {R : Room} {nL : Nat} (hC : CxOK C cc own R nL) {pc : Nat} {lv : LV} {st : List SV} {u : Mem} {c z : Nat} {i j : Int} {off : Int} {t : Nat} (hd : decode cc pc = .ok (.if_icmp .ne off, 3)) (ht : (pc : Int) + off = (t : Int)) (hi : rg i) (hj : rg j) (kt : i ≠ j → VW C t lv st u c z) (kf : i = j → VW C (pc + 3) lv st u c z) : VW C pc lv (xI j :: xI i :: st) u c z := by
  obtain ⟨p, l, e, R, s, m, args, below, meth, cd, Q, D⟩ := C
  obtain ⟨hx, hb, hml, hown, hts, ⟨hK, hKX⟩, hR, hbs, hfl, hlk⟩ := hC
  intro H locs ls hu hS hl
  exact lv_icmp_ne hx hb hd ht (fun q => kt ((not_congr (i3_eq hi hj)).mp q) H locs ls hu hS hl) (fun q => kf ((i3_eq hi hj).mp q) H locs ls hu hS hl)

theorem r_if_ne {C : Cx} {cc : ByteArray} {own : String} {R : Room} {nL : Nat} (hC : CxOK C cc own R nL) {pc : Nat} {lv : LV} {st : List SV} {u : Mem} {c z : Nat} {i : Int} {off : Int} {t : Nat} (hd : decode cc pc = .ok (.ifCond .ne off, 3)) (ht : (pc : Int) + off = (t : Int)) (hi : rg i) (kt : i ≠ 0 → VW C t lv st u c z) (kf : i = 0 → VW C (pc + 3) lv st u c z) : VW C pc lv (xI i :: st) u c z := by
  obtain ⟨p, l, e, R, s, m, args, below, meth, cd, Q, D⟩ := C
  obtain ⟨hx, hb, hml, hown, hts, ⟨hK, hKX⟩, hR, hbs, hfl, hlk⟩ := hC
  intro H locs ls hu hS hl
  exact lv_if_ne hx hb hd ht (fun q => kt ((not_congr (i3_eq hi rg_0)).mp q) H locs ls hu hS hl) (fun q => kf ((i3_eq hi rg_0).mp q) H locs ls hu hS hl)

theorem r_ifnull {C : Cx} {cc : ByteArray} {own : String} {R : Room} {nL : Nat} (hC : CxOK C cc own R nL) {pc : Nat} {lv : LV} {st : List SV} {u : Mem} {c z : Nat} {r : Option Nat} {off : Int} {t : Nat} (hd : decode cc pc = .ok (.ifnull off, 3)) (ht : (pc : Int) + off = (t : Int)) (kt : r = none → VW C t lv st u c z) (kf : ∀ a, r = some a → VW C (pc + 3) lv st u c z) : VW C pc lv (xR r :: st) u c z := by
  obtain ⟨p, l, e, R, s, m, args, below, meth, cd, Q, D⟩ := C
  obtain ⟨hx, hb, hml, hown, hts, ⟨hK, hKX⟩, hR, hbs, hfl, hlk⟩ := hC
  intro H locs ls hu hS hl
  cases r with
  | none => exact lv_ifnullN hx hb hd ht (kt rfl H locs ls hu hS hl)
  | some a => exact lv_ifnull hx hb hd (kf a rfl H locs ls hu hS hl)

theorem r_ifnonnull {C : Cx} {cc : ByteArray} {own : String} {R : Room} {nL : Nat} (hC : CxOK C cc own R nL) {pc : Nat} {lv : LV} {st : List SV} {u : Mem} {c z : Nat} {r : Option Nat} {off : Int} {t : Nat} (hd : decode cc pc = .ok (.ifnonnull off, 3)) (ht : (pc : Int) + off = (t : Int)) (kt : ∀ a, r = some a → VW C t lv st u c z) (kf : r = none → VW C (pc + 3) lv st u c z) : VW C pc lv (xR r :: st) u c z := by
  obtain ⟨p, l, e, R, s, m, args, below, meth, cd, Q, D⟩ := C
  obtain ⟨hx, hb, hml, hown, hts, ⟨hK, hKX⟩, hR, hbs, hfl, hlk⟩ := hC
  intro H locs ls hu hS hl
  cases r with
  | none => exact lv_ifnonnullN hx hb hd (kf rfl H locs ls hu hS hl)
  | some a => exact lv_ifnonnull hx hb hd ht (kt a rfl H locs ls hu hS hl)

theorem r_tableOut {C : Cx} {cc : ByteArray} {own : String} {R : Room} {nL : Nat} (hC : CxOK C cc own R nL) {pc : Nat} {lv : LV} {st : List SV} {u : Mem} {c z : Nat} {dflt lo hi : Int} {offs : Array Int} {len : Nat} {i : Int} {t : Nat} (hd : decode cc pc = .ok (.tableswitch dflt lo hi offs, len)) (hg : rg i) (h : i < lo ∨ hi < i) (ht : (pc : Int) + dflt = (t : Int)) (kk : VW C t lv st u c z) : VW C pc lv (xI i :: st) u c z := by
  obtain ⟨p, l, e, R, s, m, args, below, meth, cd, Q, D⟩ := C
  obtain ⟨hx, hb, hml, hown, hts, ⟨hK, hKX⟩, hR, hbs, hfl, hlk⟩ := hC
  intro H locs ls hu hS hl
  exact lv_tableOut hx hb hd (by show wr i < lo ∨ _ < wr i; rw [wr_id hg]; exact h) ht (kk H locs ls hu hS hl)

theorem r_tableIn {C : Cx} {cc : ByteArray} {own : String} {R : Room} {nL : Nat} (hC : CxOK C cc own R nL) {pc : Nat} {lv : LV} {st : List SV} {u : Mem} {c z : Nat} {dflt lo hi : Int} {offs : Array Int} {len : Nat} {i : Int} {off : Int} {t : Nat} (hd : decode cc pc = .ok (.tableswitch dflt lo hi offs, len)) (hg : rg i) (h1 : lo ≤ i) (h2 : i ≤ hi) (ho : offs[(i - lo).toNat]? = some off) (ht : (pc : Int) + off = (t : Int)) (kk : VW C t lv st u c z) : VW C pc lv (xI i :: st) u c z := by
  obtain ⟨p, l, e, R, s, m, args, below, meth, cd, Q, D⟩ := C
  obtain ⟨hx, hb, hml, hown, hts, ⟨hK, hKX⟩, hR, hbs, hfl, hlk⟩ := hC
  intro H locs ls hu hS hl
  exact lv_tableIn hx hb hd (by show ¬ wr i < lo; rw [wr_id hg]; omega) (by show ¬ hi < wr i; rw [wr_id hg]; omega) (by show offs[(wr i - lo).toNat]? = _; rw [wr_id hg]; exact ho) ht (kk H locs ls hu hS hl)

theorem r_lookup {C : Cx} {cc : ByteArray} {own : String} {R : Room} {nL : Nat} (hC : CxOK C cc own R nL) {pc : Nat} {lv : LV} {st : List SV} {u : Mem} {c z : Nat} {dflt : Int} {ps : Array (Int × Int)} {len : Nat} {i : Int} {off : Int} {t : Nat} (hd : decode cc pc = .ok (.lookupswitch dflt ps, len)) (hp : (ps.toList.zip (ps.toList.drop 1)).all (fun (a, next) => a.1 < next.1) = true) (hg : rg i) (ho : Op.lookupswitch.offset ps.toList dflt i = off) (ht : (pc : Int) + off = (t : Int)) (kk : VW C t lv st u c z) : VW C pc lv (xI i :: st) u c z := by
  obtain ⟨p, l, e, R, s, m, args, below, meth, cd, Q, D⟩ := C
  obtain ⟨hx, hb, hml, hown, hts, ⟨hK, hKX⟩, hR, hbs, hfl, hlk⟩ := hC
  intro H locs ls hu hS hl
  exact lv_lookup hx hb hd hp (by show Op.lookupswitch.offset ps.toList dflt (wr i) = off; rw [wr_id hg]; exact ho) ht (kk H locs ls hu hS hl)

theorem r_ddiv {C : Cx} {cc : ByteArray} {own : String} {R : Room} {nL : Nat} (hC : CxOK C cc own R nL) {pc : Nat} {lv : LV} {st : List SV} {u : Mem} {c z : Nat} {i j : UInt64} (hd : decode cc pc = .ok (.ddiv, 1)) (hne : vf_n64 (FP.ddiv i j)) (kk : VW C (pc + 1) lv (xD (FP.ddiv i j) :: st) u c z) : VW C pc lv (xD j :: xD i :: st) u c z := by
  obtain ⟨p, l, e, R, s, m, args, below, meth, cd, Q, D⟩ := C
  obtain ⟨hx, hb, hml, hown, hts, ⟨hK, hKX⟩, hR, hbs, hfl, hlk⟩ := hC
  intro H locs ls hu hS hl
  exact lv_ddiv hx hb hd hne (kk H locs ls hu hS hl)

theorem r_dmul {C : Cx} {cc : ByteArray} {own : String} {R : Room} {nL : Nat} (hC : CxOK C cc own R nL) {pc : Nat} {lv : LV} {st : List SV} {u : Mem} {c z : Nat} {i j : UInt64} (hd : decode cc pc = .ok (.dmul, 1)) (hne : vf_n64 (FP.dmul i j)) (kk : VW C (pc + 1) lv (xD (FP.dmul i j) :: st) u c z) : VW C pc lv (xD j :: xD i :: st) u c z := by
  obtain ⟨p, l, e, R, s, m, args, below, meth, cd, Q, D⟩ := C
  obtain ⟨hx, hb, hml, hown, hts, ⟨hK, hKX⟩, hR, hbs, hfl, hlk⟩ := hC
  intro H locs ls hu hS hl
  exact lv_dmul hx hb hd hne (kk H locs ls hu hS hl)

theorem r_dsub {C : Cx} {cc : ByteArray} {own : String} {R : Room} {nL : Nat} (hC : CxOK C cc own R nL) {pc : Nat} {lv : LV} {st : List SV} {u : Mem} {c z : Nat} {i j : UInt64} (hd : decode cc pc = .ok (.dsub, 1)) (hne : vf_n64 (FP.dsub i j)) (kk : VW C (pc + 1) lv (xD (FP.dsub i j) :: st) u c z) : VW C pc lv (xD j :: xD i :: st) u c z := by
  obtain ⟨p, l, e, R, s, m, args, below, meth, cd, Q, D⟩ := C
  obtain ⟨hx, hb, hml, hown, hts, ⟨hK, hKX⟩, hR, hbs, hfl, hlk⟩ := hC
  intro H locs ls hu hS hl
  exact lv_dsub hx hb hd hne (kk H locs ls hu hS hl)

theorem r_fdiv {C : Cx} {cc : ByteArray} {own : String} {R : Room} {nL : Nat} (hC : CxOK C cc own R nL) {pc : Nat} {lv : LV} {st : List SV} {u : Mem} {c z : Nat} {i j : UInt32} (hd : decode cc pc = .ok (.fdiv, 1)) (hne : vf_n32 (FP.fdiv i j)) (kk : VW C (pc + 1) lv (xF (FP.fdiv i j) :: st) u c z) : VW C pc lv (xF j :: xF i :: st) u c z := by
  obtain ⟨p, l, e, R, s, m, args, below, meth, cd, Q, D⟩ := C
  obtain ⟨hx, hb, hml, hown, hts, ⟨hK, hKX⟩, hR, hbs, hfl, hlk⟩ := hC
  intro H locs ls hu hS hl
  exact lv_fdiv hx hb hd hne (kk H locs ls hu hS hl)

theorem r_i2d {C : Cx} {cc : ByteArray} {own : String} {R : Room} {nL : Nat} (hC : CxOK C cc own R nL) {pc : Nat} {lv : LV} {st : List SV} {u : Mem} {c z : Nat} {i : Int} (hd : decode cc pc = .ok (.i2d, 1)) (kk : VW C (pc + 1) lv (xD (FP.i2d (Int32.ofInt i)) :: st) u c z) : VW C pc lv (xI i :: st) u c z := by
  obtain ⟨p, l, e, R, s, m, args, below, meth, cd, Q, D⟩ := C
  obtain ⟨hx, hb, hml, hown, hts, ⟨hK, hKX⟩, hR, hbs, hfl, hlk⟩ := hC
  intro H locs ls hu hS hl
  exact lv_i2d hx hb hd (kk H locs ls hu hS hl)

theorem r_i2f {C : Cx} {cc : ByteArray} {own : String} {R : Room} {nL : Nat} (hC : CxOK C cc own R nL) {pc : Nat} {lv : LV} {st : List SV} {u : Mem} {c z : Nat} {i : Int} (hd : decode cc pc = .ok (.i2f, 1)) (kk : VW C (pc + 1) lv (xF (FP.i2f (Int32.ofInt i)) :: st) u c z) : VW C pc lv (xI i :: st) u c z := by
  obtain ⟨p, l, e, R, s, m, args, below, meth, cd, Q, D⟩ := C
  obtain ⟨hx, hb, hml, hown, hts, ⟨hK, hKX⟩, hR, hbs, hfl, hlk⟩ := hC
  intro H locs ls hu hS hl
  exact lv_i2f hx hb hd (kk H locs ls hu hS hl)

theorem r_l2d {C : Cx} {cc : ByteArray} {own : String} {R : Room} {nL : Nat} (hC : CxOK C cc own R nL) {pc : Nat} {lv : LV} {st : List SV} {u : Mem} {c z : Nat} {i : Int64} (hd : decode cc pc = .ok (.l2d, 1)) (kk : VW C (pc + 1) lv (xD (FP.l2d i) :: st) u c z) : VW C pc lv (xJ i :: st) u c z := by
  obtain ⟨p, l, e, R, s, m, args, below, meth, cd, Q, D⟩ := C
  obtain ⟨hx, hb, hml, hown, hts, ⟨hK, hKX⟩, hR, hbs, hfl, hlk⟩ := hC
  intro H locs ls hu hS hl
  exact lv_l2d hx hb hd (kk H locs ls hu hS hl)

theorem r_d2l {C : Cx} {cc : ByteArray} {own : String} {R : Room} {nL : Nat} (hC : CxOK C cc own R nL) {pc : Nat} {lv : LV} {st : List SV} {u : Mem} {c z : Nat} {i : UInt64} (hd : decode cc pc = .ok (.d2l, 1)) (kk : VW C (pc + 1) lv (xJ (FP.d2l i) :: st) u c z) : VW C pc lv (xD i :: st) u c z := by
  obtain ⟨p, l, e, R, s, m, args, below, meth, cd, Q, D⟩ := C
  obtain ⟨hx, hb, hml, hown, hts, ⟨hK, hKX⟩, hR, hbs, hfl, hlk⟩ := hC
  intro H locs ls hu hS hl
  exact lv_d2l hx hb hd (kk H locs ls hu hS hl)

theorem r_f2d {C : Cx} {cc : ByteArray} {own : String} {R : Room} {nL : Nat} (hC : CxOK C cc own R nL) {pc : Nat} {lv : LV} {st : List SV} {u : Mem} {c z : Nat} {i : UInt32} (hd : decode cc pc = .ok (.f2d, 1)) (hne : vf_n64 (FP.f2d i)) (kk : VW C (pc + 1) lv (xD (FP.f2d i) :: st) u c z) : VW C pc lv (xF i :: st) u c z := by
  obtain ⟨p, l, e, R, s, m, args, below, meth, cd, Q, D⟩ := C
  obtain ⟨hx, hb, hml, hown, hts, ⟨hK, hKX⟩, hR, hbs, hfl, hlk⟩ := hC
  intro H locs ls hu hS hl
  exact lv_f2d hx hb hd hne (kk H locs ls hu hS hl)

theorem r_dcmp {C : Cx} {cc : ByteArray} {own : String} {R : Room} {nL : Nat} (hC : CxOK C cc own R nL) {pc : Nat} {lv : LV} {st : List SV} {u : Mem} {c z : Nat} {i j : UInt64} {op : CmpOp} (hd : decode cc pc = .ok (.dcmp op, 1)) (kk : VW C (pc + 1) lv (xI (Op.cmpValue (FP.dcmp i j) op).toInt :: st) u c z) : VW C pc lv (xD j :: xD i :: st) u c z := by
  obtain ⟨p, l, e, R, s, m, args, below, meth, cd, Q, D⟩ := C
  obtain ⟨hx, hb, hml, hown, hts, ⟨hK, hKX⟩, hR, hbs, hfl, hlk⟩ := hC
  intro H locs ls hu hS hl
  refine lv_dcmp hx hb hd ?_
  have h := kk H locs ls hu hS hl
  rw [show (xI (Op.cmpValue (FP.dcmp i j) op).toInt :: st).map toV = .int (Int32.ofInt (Op.cmpValue (FP.dcmp i j) op).toInt) :: st.map toV from rfl, Int32.ofInt_toInt] at h
  exact h

theorem r_fconst0 {C : Cx} {cc : ByteArray} {own : String} {R : Room} {nL : Nat} (hC : CxOK C cc own R nL) {pc : Nat} {lv : LV} {st : List SV} {u : Mem} {c z : Nat} (hd : decode cc pc = .ok (.fconst 0, 1)) (kk : VW C (pc + 1) lv (xF 0 :: st) u c z) : VW C pc lv st u c z := by
  obtain ⟨p, l, e, R, s, m, args, below, meth, cd, Q, D⟩ := C
  obtain ⟨hx, hb, hml, hown, hts, ⟨hK, hKX⟩, hR, hbs, hfl, hlk⟩ := hC
  intro H locs ls hu hS hl
  exact lv_fconst0 hx hb hd (kk H locs ls hu hS hl)

theorem r_dconst0 {C : Cx} {cc : ByteArray} {own : String} {R : Room} {nL : Nat} (hC : CxOK C cc own R nL) {pc : Nat} {lv : LV} {st : List SV} {u : Mem} {c z : Nat} (hd : decode cc pc = .ok (.dconst 0, 1)) (kk : VW C (pc + 1) lv (xD 0 :: st) u c z) : VW C pc lv st u c z := by
  obtain ⟨p, l, e, R, s, m, args, below, meth, cd, Q, D⟩ := C
  obtain ⟨hx, hb, hml, hown, hts, ⟨hK, hKX⟩, hR, hbs, hfl, hlk⟩ := hC
  intro H locs ls hu hS hl
  exact lv_dconst0 hx hb hd (kk H locs ls hu hS hl)

theorem r_dconst1 {C : Cx} {cc : ByteArray} {own : String} {R : Room} {nL : Nat} (hC : CxOK C cc own R nL) {pc : Nat} {lv : LV} {st : List SV} {u : Mem} {c z : Nat} (hd : decode cc pc = .ok (.dconst 1, 1)) (kk : VW C (pc + 1) lv (xD 0x3ff0000000000000 :: st) u c z) : VW C pc lv st u c z := by
  obtain ⟨p, l, e, R, s, m, args, below, meth, cd, Q, D⟩ := C
  obtain ⟨hx, hb, hml, hown, hts, ⟨hK, hKX⟩, hR, hbs, hfl, hlk⟩ := hC
  intro H locs ls hu hS hl
  exact lv_dconst1 hx hb hd (kk H locs ls hu hS hl)
