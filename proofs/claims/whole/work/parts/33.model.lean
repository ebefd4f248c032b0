section RSWT
variable {C : Cx} {cc : ByteArray} {own : String} {R : Room} {nL : Nat} {pc : Nat} {lv : LV} {st : List SV} {u : Mem} {c z : Nat}
theorem lk_hit {a o d i : Int} {ps : List (Int × Int)} (h : i = a) : Op.lookupswitch.offset ((a, o) :: ps) d i = o := by subst h; simp [Op.lookupswitch.offset]
theorem lk_miss {a o d i : Int} {ps : List (Int × Int)} (h : ¬ i = a) : Op.lookupswitch.offset ((a, o) :: ps) d i = Op.lookupswitch.offset ps d i := by
  rw [Op.lookupswitch.offset]; exact if_neg fun q => h q.symm
theorem r_lk4 (hC : CxOK C cc own R nL) {d a0 o0 a1 o1 a2 o2 a3 o3 i : Int} {len td t0 t1 t2 t3 : Nat} (hd : decode cc pc = .ok (.lookupswitch d #[(a0, o0), (a1, o1), (a2, o2), (a3, o3)], len)) (hp : (([(a0, o0), (a1, o1), (a2, o2), (a3, o3)] : List (Int × Int)).zip (([(a0, o0), (a1, o1), (a2, o2), (a3, o3)] : List (Int × Int)).drop 1)).all (fun (a, next) => a.1 < next.1) = true) (hg : rg i) (hT : (pc : Int) + d = (td : Int)) (h0 : (pc : Int) + o0 = (t0 : Int)) (h1 : (pc : Int) + o1 = (t1 : Int)) (h2 : (pc : Int) + o2 = (t2 : Int)) (h3 : (pc : Int) + o3 = (t3 : Int)) (k0 : i = a0 → VW C t0 lv st u c z) (k1 : i = a1 → VW C t1 lv st u c z) (k2 : i = a2 → VW C t2 lv st u c z) (k3 : i = a3 → VW C t3 lv st u c z) (kd : ¬ i = a0 → ¬ i = a1 → ¬ i = a2 → ¬ i = a3 → VW C td lv st u c z) : VW C pc lv (xI i :: st) u c z := by
  by_cases q0 : i = a0
  · exact r_lookup hC hd hp hg (by show Op.lookupswitch.offset [(a0, o0), (a1, o1), (a2, o2), (a3, o3)] d i = _; exact lk_hit q0) h0 (k0 q0)
  by_cases q1 : i = a1
  · exact r_lookup hC hd hp hg (by show Op.lookupswitch.offset [(a0, o0), (a1, o1), (a2, o2), (a3, o3)] d i = _; rw [lk_miss q0]; exact lk_hit q1) h1 (k1 q1)
  by_cases q2 : i = a2
  · exact r_lookup hC hd hp hg (by show Op.lookupswitch.offset [(a0, o0), (a1, o1), (a2, o2), (a3, o3)] d i = _; rw [lk_miss q0]; rw [lk_miss q1]; exact lk_hit q2) h2 (k2 q2)
  by_cases q3 : i = a3
  · exact r_lookup hC hd hp hg (by show Op.lookupswitch.offset [(a0, o0), (a1, o1), (a2, o2), (a3, o3)] d i = _; rw [lk_miss q0]; rw [lk_miss q1]; rw [lk_miss q2]; exact lk_hit q3) h3 (k3 q3)
  exact r_lookup hC hd hp hg (by show Op.lookupswitch.offset [(a0, o0), (a1, o1), (a2, o2), (a3, o3)] d i = _; rw [lk_miss q0]; rw [lk_miss q1]; rw [lk_miss q2]; rw [lk_miss q3]; rfl) hT (kd q0 q1 q2 q3)
theorem r_lk5 (hC : CxOK C cc own R nL) {d a0 o0 a1 o1 a2 o2 a3 o3 a4 o4 i : Int} {len td t0 t1 t2 t3 t4 : Nat} (hd : decode cc pc = .ok (.lookupswitch d #[(a0, o0), (a1, o1), (a2, o2), (a3, o3), (a4, o4)], len)) (hp : (([(a0, o0), (a1, o1), (a2, o2), (a3, o3), (a4, o4)] : List (Int × Int)).zip (([(a0, o0), (a1, o1), (a2, o2), (a3, o3), (a4, o4)] : List (Int × Int)).drop 1)).all (fun (a, next) => a.1 < next.1) = true) (hg : rg i) (hT : (pc : Int) + d = (td : Int)) (h0 : (pc : Int) + o0 = (t0 : Int)) (h1 : (pc : Int) + o1 = (t1 : Int)) (h2 : (pc : Int) + o2 = (t2 : Int)) (h3 : (pc : Int) + o3 = (t3 : Int)) (h4 : (pc : Int) + o4 = (t4 : Int)) (k0 : i = a0 → VW C t0 lv st u c z) (k1 : i = a1 → VW C t1 lv st u c z) (k2 : i = a2 → VW C t2 lv st u c z) (k3 : i = a3 → VW C t3 lv st u c z) (k4 : i = a4 → VW C t4 lv st u c z) (kd : ¬ i = a0 → ¬ i = a1 → ¬ i = a2 → ¬ i = a3 → ¬ i = a4 → VW C td lv st u c z) : VW C pc lv (xI i :: st) u c z := by
  by_cases q0 : i = a0
  · exact r_lookup hC hd hp hg (by show Op.lookupswitch.offset [(a0, o0), (a1, o1), (a2, o2), (a3, o3), (a4, o4)] d i = _; exact lk_hit q0) h0 (k0 q0)
  by_cases q1 : i = a1
  · exact r_lookup hC hd hp hg (by show Op.lookupswitch.offset [(a0, o0), (a1, o1), (a2, o2), (a3, o3), (a4, o4)] d i = _; rw [lk_miss q0]; exact lk_hit q1) h1 (k1 q1)
  by_cases q2 : i = a2
  · exact r_lookup hC hd hp hg (by show Op.lookupswitch.offset [(a0, o0), (a1, o1), (a2, o2), (a3, o3), (a4, o4)] d i = _; rw [lk_miss q0]; rw [lk_miss q1]; exact lk_hit q2) h2 (k2 q2)
  by_cases q3 : i = a3
  · exact r_lookup hC hd hp hg (by show Op.lookupswitch.offset [(a0, o0), (a1, o1), (a2, o2), (a3, o3), (a4, o4)] d i = _; rw [lk_miss q0]; rw [lk_miss q1]; rw [lk_miss q2]; exact lk_hit q3) h3 (k3 q3)
  by_cases q4 : i = a4
  · exact r_lookup hC hd hp hg (by show Op.lookupswitch.offset [(a0, o0), (a1, o1), (a2, o2), (a3, o3), (a4, o4)] d i = _; rw [lk_miss q0]; rw [lk_miss q1]; rw [lk_miss q2]; rw [lk_miss q3]; exact lk_hit q4) h4 (k4 q4)
  exact r_lookup hC hd hp hg (by show Op.lookupswitch.offset [(a0, o0), (a1, o1), (a2, o2), (a3, o3), (a4, o4)] d i = _; rw [lk_miss q0]; rw [lk_miss q1]; rw [lk_miss q2]; rw [lk_miss q3]; rw [lk_miss q4]; rfl) hT (kd q0 q1 q2 q3 q4)
theorem r_lk6 (hC : CxOK C cc own R nL) {d a0 o0 a1 o1 a2 o2 a3 o3 a4 o4 a5 o5 i : Int} {len td t0 t1 t2 t3 t4 t5 : Nat} (hd : decode cc pc = .ok (.lookupswitch d #[(a0, o0), (a1, o1), (a2, o2), (a3, o3), (a4, o4), (a5, o5)], len)) (hp : (([(a0, o0), (a1, o1), (a2, o2), (a3, o3), (a4, o4), (a5, o5)] : List (Int × Int)).zip (([(a0, o0), (a1, o1), (a2, o2), (a3, o3), (a4, o4), (a5, o5)] : List (Int × Int)).drop 1)).all (fun (a, next) => a.1 < next.1) = true) (hg : rg i) (hT : (pc : Int) + d = (td : Int)) (h0 : (pc : Int) + o0 = (t0 : Int)) (h1 : (pc : Int) + o1 = (t1 : Int)) (h2 : (pc : Int) + o2 = (t2 : Int)) (h3 : (pc : Int) + o3 = (t3 : Int)) (h4 : (pc : Int) + o4 = (t4 : Int)) (h5 : (pc : Int) + o5 = (t5 : Int)) (k0 : i = a0 → VW C t0 lv st u c z) (k1 : i = a1 → VW C t1 lv st u c z) (k2 : i = a2 → VW C t2 lv st u c z) (k3 : i = a3 → VW C t3 lv st u c z) (k4 : i = a4 → VW C t4 lv st u c z) (k5 : i = a5 → VW C t5 lv st u c z) (kd : ¬ i = a0 → ¬ i = a1 → ¬ i = a2 → ¬ i = a3 → ¬ i = a4 → ¬ i = a5 → VW C td lv st u c z) : VW C pc lv (xI i :: st) u c z := by
  by_cases q0 : i = a0
  · exact r_lookup hC hd hp hg (by show Op.lookupswitch.offset [(a0, o0), (a1, o1), (a2, o2), (a3, o3), (a4, o4), (a5, o5)] d i = _; exact lk_hit q0) h0 (k0 q0)
  by_cases q1 : i = a1
  · exact r_lookup hC hd hp hg (by show Op.lookupswitch.offset [(a0, o0), (a1, o1), (a2, o2), (a3, o3), (a4, o4), (a5, o5)] d i = _; rw [lk_miss q0]; exact lk_hit q1) h1 (k1 q1)
  by_cases q2 : i = a2
  · exact r_lookup hC hd hp hg (by show Op.lookupswitch.offset [(a0, o0), (a1, o1), (a2, o2), (a3, o3), (a4, o4), (a5, o5)] d i = _; rw [lk_miss q0]; rw [lk_miss q1]; exact lk_hit q2) h2 (k2 q2)
  by_cases q3 : i = a3
  · exact r_lookup hC hd hp hg (by show Op.lookupswitch.offset [(a0, o0), (a1, o1), (a2, o2), (a3, o3), (a4, o4), (a5, o5)] d i = _; rw [lk_miss q0]; rw [lk_miss q1]; rw [lk_miss q2]; exact lk_hit q3) h3 (k3 q3)
  by_cases q4 : i = a4
  · exact r_lookup hC hd hp hg (by show Op.lookupswitch.offset [(a0, o0), (a1, o1), (a2, o2), (a3, o3), (a4, o4), (a5, o5)] d i = _; rw [lk_miss q0]; rw [lk_miss q1]; rw [lk_miss q2]; rw [lk_miss q3]; exact lk_hit q4) h4 (k4 q4)
  by_cases q5 : i = a5
  · exact r_lookup hC hd hp hg (by show Op.lookupswitch.offset [(a0, o0), (a1, o1), (a2, o2), (a3, o3), (a4, o4), (a5, o5)] d i = _; rw [lk_miss q0]; rw [lk_miss q1]; rw [lk_miss q2]; rw [lk_miss q3]; rw [lk_miss q4]; exact lk_hit q5) h5 (k5 q5)
  exact r_lookup hC hd hp hg (by show Op.lookupswitch.offset [(a0, o0), (a1, o1), (a2, o2), (a3, o3), (a4, o4), (a5, o5)] d i = _; rw [lk_miss q0]; rw [lk_miss q1]; rw [lk_miss q2]; rw [lk_miss q3]; rw [lk_miss q4]; rw [lk_miss q5]; rfl) hT (kd q0 q1 q2 q3 q4 q5)
theorem r_tb3 (hC : CxOK C cc own R nL) {d lo hi o0 o1 o2 i : Int} {len td t0 t1 t2 : Nat} (hd : decode cc pc = .ok (.tableswitch d lo hi #[o0, o1, o2], len)) (hn : hi = lo + 2) (hg : rg i) (hT : (pc : Int) + d = (td : Int)) (h0 : (pc : Int) + o0 = (t0 : Int)) (h1 : (pc : Int) + o1 = (t1 : Int)) (h2 : (pc : Int) + o2 = (t2 : Int)) (k0 : i = lo + 0 → VW C t0 lv st u c z) (k1 : i = lo + 1 → VW C t1 lv st u c z) (k2 : i = lo + 2 → VW C t2 lv st u c z) (kd : (i < lo ∨ hi < i) → VW C td lv st u c z) : VW C pc lv (xI i :: st) u c z := by
  by_cases q0 : i = lo + 0
  · exact r_tableIn hC hd hg (by omega) (by omega) (by rw [show (i - lo).toNat = 0 by omega]; rfl) h0 (k0 q0)
  by_cases q1 : i = lo + 1
  · exact r_tableIn hC hd hg (by omega) (by omega) (by rw [show (i - lo).toNat = 1 by omega]; rfl) h1 (k1 q1)
  by_cases q2 : i = lo + 2
  · exact r_tableIn hC hd hg (by omega) (by omega) (by rw [show (i - lo).toNat = 2 by omega]; rfl) h2 (k2 q2)
  exact r_tableOut hC hd hg (by omega) hT (kd (by omega))
theorem r_tb4 (hC : CxOK C cc own R nL) {d lo hi o0 o1 o2 o3 i : Int} {len td t0 t1 t2 t3 : Nat} (hd : decode cc pc = .ok (.tableswitch d lo hi #[o0, o1, o2, o3], len)) (hn : hi = lo + 3) (hg : rg i) (hT : (pc : Int) + d = (td : Int)) (h0 : (pc : Int) + o0 = (t0 : Int)) (h1 : (pc : Int) + o1 = (t1 : Int)) (h2 : (pc : Int) + o2 = (t2 : Int)) (h3 : (pc : Int) + o3 = (t3 : Int)) (k0 : i = lo + 0 → VW C t0 lv st u c z) (k1 : i = lo + 1 → VW C t1 lv st u c z) (k2 : i = lo + 2 → VW C t2 lv st u c z) (k3 : i = lo + 3 → VW C t3 lv st u c z) (kd : (i < lo ∨ hi < i) → VW C td lv st u c z) : VW C pc lv (xI i :: st) u c z := by
  by_cases q0 : i = lo + 0
  · exact r_tableIn hC hd hg (by omega) (by omega) (by rw [show (i - lo).toNat = 0 by omega]; rfl) h0 (k0 q0)
  by_cases q1 : i = lo + 1
  · exact r_tableIn hC hd hg (by omega) (by omega) (by rw [show (i - lo).toNat = 1 by omega]; rfl) h1 (k1 q1)
  by_cases q2 : i = lo + 2
  · exact r_tableIn hC hd hg (by omega) (by omega) (by rw [show (i - lo).toNat = 2 by omega]; rfl) h2 (k2 q2)
  by_cases q3 : i = lo + 3
  · exact r_tableIn hC hd hg (by omega) (by omega) (by rw [show (i - lo).toNat = 3 by omega]; rfl) h3 (k3 q3)
  exact r_tableOut hC hd hg (by omega) hT (kd (by omega))
theorem r_tb5 (hC : CxOK C cc own R nL) {d lo hi o0 o1 o2 o3 o4 i : Int} {len td t0 t1 t2 t3 t4 : Nat} (hd : decode cc pc = .ok (.tableswitch d lo hi #[o0, o1, o2, o3, o4], len)) (hn : hi = lo + 4) (hg : rg i) (hT : (pc : Int) + d = (td : Int)) (h0 : (pc : Int) + o0 = (t0 : Int)) (h1 : (pc : Int) + o1 = (t1 : Int)) (h2 : (pc : Int) + o2 = (t2 : Int)) (h3 : (pc : Int) + o3 = (t3 : Int)) (h4 : (pc : Int) + o4 = (t4 : Int)) (k0 : i = lo + 0 → VW C t0 lv st u c z) (k1 : i = lo + 1 → VW C t1 lv st u c z) (k2 : i = lo + 2 → VW C t2 lv st u c z) (k3 : i = lo + 3 → VW C t3 lv st u c z) (k4 : i = lo + 4 → VW C t4 lv st u c z) (kd : (i < lo ∨ hi < i) → VW C td lv st u c z) : VW C pc lv (xI i :: st) u c z := by
  by_cases q0 : i = lo + 0
  · exact r_tableIn hC hd hg (by omega) (by omega) (by rw [show (i - lo).toNat = 0 by omega]; rfl) h0 (k0 q0)
  by_cases q1 : i = lo + 1
  · exact r_tableIn hC hd hg (by omega) (by omega) (by rw [show (i - lo).toNat = 1 by omega]; rfl) h1 (k1 q1)
  by_cases q2 : i = lo + 2
  · exact r_tableIn hC hd hg (by omega) (by omega) (by rw [show (i - lo).toNat = 2 by omega]; rfl) h2 (k2 q2)
  by_cases q3 : i = lo + 3
  · exact r_tableIn hC hd hg (by omega) (by omega) (by rw [show (i - lo).toNat = 3 by omega]; rfl) h3 (k3 q3)
  by_cases q4 : i = lo + 4
  · exact r_tableIn hC hd hg (by omega) (by omega) (by rw [show (i - lo).toNat = 4 by omega]; rfl) h4 (k4 q4)
  exact r_tableOut hC hd hg (by omega) hT (kd (by omega))
theorem r_tb7 (hC : CxOK C cc own R nL) {d lo hi o0 o1 o2 o3 o4 o5 o6 i : Int} {len td t0 t1 t2 t3 t4 t5 t6 : Nat} (hd : decode cc pc = .ok (.tableswitch d lo hi #[o0, o1, o2, o3, o4, o5, o6], len)) (hn : hi = lo + 6) (hg : rg i) (hT : (pc : Int) + d = (td : Int)) (h0 : (pc : Int) + o0 = (t0 : Int)) (h1 : (pc : Int) + o1 = (t1 : Int)) (h2 : (pc : Int) + o2 = (t2 : Int)) (h3 : (pc : Int) + o3 = (t3 : Int)) (h4 : (pc : Int) + o4 = (t4 : Int)) (h5 : (pc : Int) + o5 = (t5 : Int)) (h6 : (pc : Int) + o6 = (t6 : Int)) (k0 : i = lo + 0 → VW C t0 lv st u c z) (k1 : i = lo + 1 → VW C t1 lv st u c z) (k2 : i = lo + 2 → VW C t2 lv st u c z) (k3 : i = lo + 3 → VW C t3 lv st u c z) (k4 : i = lo + 4 → VW C t4 lv st u c z) (k5 : i = lo + 5 → VW C t5 lv st u c z) (k6 : i = lo + 6 → VW C t6 lv st u c z) (kd : (i < lo ∨ hi < i) → VW C td lv st u c z) : VW C pc lv (xI i :: st) u c z := by
  by_cases q0 : i = lo + 0
  · exact r_tableIn hC hd hg (by omega) (by omega) (by rw [show (i - lo).toNat = 0 by omega]; rfl) h0 (k0 q0)
  by_cases q1 : i = lo + 1
  · exact r_tableIn hC hd hg (by omega) (by omega) (by rw [show (i - lo).toNat = 1 by omega]; rfl) h1 (k1 q1)
  by_cases q2 : i = lo + 2
  · exact r_tableIn hC hd hg (by omega) (by omega) (by rw [show (i - lo).toNat = 2 by omega]; rfl) h2 (k2 q2)
  by_cases q3 : i = lo + 3
  · exact r_tableIn hC hd hg (by omega) (by omega) (by rw [show (i - lo).toNat = 3 by omega]; rfl) h3 (k3 q3)
  by_cases q4 : i = lo + 4
  · exact r_tableIn hC hd hg (by omega) (by omega) (by rw [show (i - lo).toNat = 4 by omega]; rfl) h4 (k4 q4)
  by_cases q5 : i = lo + 5
  · exact r_tableIn hC hd hg (by omega) (by omega) (by rw [show (i - lo).toNat = 5 by omega]; rfl) h5 (k5 q5)
  by_cases q6 : i = lo + 6
  · exact r_tableIn hC hd hg (by omega) (by omega) (by rw [show (i - lo).toNat = 6 by omega]; rfl) h6 (k6 q6)
  exact r_tableOut hC hd hg (by omega) hT (kd (by omega))
theorem r_tb8 (hC : CxOK C cc own R nL) {d lo hi o0 o1 o2 o3 o4 o5 o6 o7 i : Int} {len td t0 t1 t2 t3 t4 t5 t6 t7 : Nat} (hd : decode cc pc = .ok (.tableswitch d lo hi #[o0, o1, o2, o3, o4, o5, o6, o7], len)) (hn : hi = lo + 7) (hg : rg i) (hT : (pc : Int) + d = (td : Int)) (h0 : (pc : Int) + o0 = (t0 : Int)) (h1 : (pc : Int) + o1 = (t1 : Int)) (h2 : (pc : Int) + o2 = (t2 : Int)) (h3 : (pc : Int) + o3 = (t3 : Int)) (h4 : (pc : Int) + o4 = (t4 : Int)) (h5 : (pc : Int) + o5 = (t5 : Int)) (h6 : (pc : Int) + o6 = (t6 : Int)) (h7 : (pc : Int) + o7 = (t7 : Int)) (k0 : i = lo + 0 → VW C t0 lv st u c z) (k1 : i = lo + 1 → VW C t1 lv st u c z) (k2 : i = lo + 2 → VW C t2 lv st u c z) (k3 : i = lo + 3 → VW C t3 lv st u c z) (k4 : i = lo + 4 → VW C t4 lv st u c z) (k5 : i = lo + 5 → VW C t5 lv st u c z) (k6 : i = lo + 6 → VW C t6 lv st u c z) (k7 : i = lo + 7 → VW C t7 lv st u c z) (kd : (i < lo ∨ hi < i) → VW C td lv st u c z) : VW C pc lv (xI i :: st) u c z := by
  by_cases q0 : i = lo + 0
  · exact r_tableIn hC hd hg (by omega) (by omega) (by rw [show (i - lo).toNat = 0 by omega]; rfl) h0 (k0 q0)
  by_cases q1 : i = lo + 1
  · exact r_tableIn hC hd hg (by omega) (by omega) (by rw [show (i - lo).toNat = 1 by omega]; rfl) h1 (k1 q1)
  by_cases q2 : i = lo + 2
  · exact r_tableIn hC hd hg (by omega) (by omega) (by rw [show (i - lo).toNat = 2 by omega]; rfl) h2 (k2 q2)
  by_cases q3 : i = lo + 3
  · exact r_tableIn hC hd hg (by omega) (by omega) (by rw [show (i - lo).toNat = 3 by omega]; rfl) h3 (k3 q3)
  by_cases q4 : i = lo + 4
  · exact r_tableIn hC hd hg (by omega) (by omega) (by rw [show (i - lo).toNat = 4 by omega]; rfl) h4 (k4 q4)
  by_cases q5 : i = lo + 5
  · exact r_tableIn hC hd hg (by omega) (by omega) (by rw [show (i - lo).toNat = 5 by omega]; rfl) h5 (k5 q5)
  by_cases q6 : i = lo + 6
  · exact r_tableIn hC hd hg (by omega) (by omega) (by rw [show (i - lo).toNat = 6 by omega]; rfl) h6 (k6 q6)
  by_cases q7 : i = lo + 7
  · exact r_tableIn hC hd hg (by omega) (by omega) (by rw [show (i - lo).toNat = 7 by omega]; rfl) h7 (k7 q7)
  exact r_tableOut hC hd hg (by omega) hT (kd (by omega))
theorem r_tb9 (hC : CxOK C cc own R nL) {d lo hi o0 o1 o2 o3 o4 o5 o6 o7 o8 i : Int} {len td t0 t1 t2 t3 t4 t5 t6 t7 t8 : Nat} (hd : decode cc pc = .ok (.tableswitch d lo hi #[o0, o1, o2, o3, o4, o5, o6, o7, o8], len)) (hn : hi = lo + 8) (hg : rg i) (hT : (pc : Int) + d = (td : Int)) (h0 : (pc : Int) + o0 = (t0 : Int)) (h1 : (pc : Int) + o1 = (t1 : Int)) (h2 : (pc : Int) + o2 = (t2 : Int)) (h3 : (pc : Int) + o3 = (t3 : Int)) (h4 : (pc : Int) + o4 = (t4 : Int)) (h5 : (pc : Int) + o5 = (t5 : Int)) (h6 : (pc : Int) + o6 = (t6 : Int)) (h7 : (pc : Int) + o7 = (t7 : Int)) (h8 : (pc : Int) + o8 = (t8 : Int)) (k0 : i = lo + 0 → VW C t0 lv st u c z) (k1 : i = lo + 1 → VW C t1 lv st u c z) (k2 : i = lo + 2 → VW C t2 lv st u c z) (k3 : i = lo + 3 → VW C t3 lv st u c z) (k4 : i = lo + 4 → VW C t4 lv st u c z) (k5 : i = lo + 5 → VW C t5 lv st u c z) (k6 : i = lo + 6 → VW C t6 lv st u c z) (k7 : i = lo + 7 → VW C t7 lv st u c z) (k8 : i = lo + 8 → VW C t8 lv st u c z) (kd : (i < lo ∨ hi < i) → VW C td lv st u c z) : VW C pc lv (xI i :: st) u c z := by
  by_cases q0 : i = lo + 0
  · exact r_tableIn hC hd hg (by omega) (by omega) (by rw [show (i - lo).toNat = 0 by omega]; rfl) h0 (k0 q0)
  by_cases q1 : i = lo + 1
  · exact r_tableIn hC hd hg (by omega) (by omega) (by rw [show (i - lo).toNat = 1 by omega]; rfl) h1 (k1 q1)
  by_cases q2 : i = lo + 2
  · exact r_tableIn hC hd hg (by omega) (by omega) (by rw [show (i - lo).toNat = 2 by omega]; rfl) h2 (k2 q2)
  by_cases q3 : i = lo + 3
  · exact r_tableIn hC hd hg (by omega) (by omega) (by rw [show (i - lo).toNat = 3 by omega]; rfl) h3 (k3 q3)
  by_cases q4 : i = lo + 4
  · exact r_tableIn hC hd hg (by omega) (by omega) (by rw [show (i - lo).toNat = 4 by omega]; rfl) h4 (k4 q4)
  by_cases q5 : i = lo + 5
  · exact r_tableIn hC hd hg (by omega) (by omega) (by rw [show (i - lo).toNat = 5 by omega]; rfl) h5 (k5 q5)
  by_cases q6 : i = lo + 6
  · exact r_tableIn hC hd hg (by omega) (by omega) (by rw [show (i - lo).toNat = 6 by omega]; rfl) h6 (k6 q6)
  by_cases q7 : i = lo + 7
  · exact r_tableIn hC hd hg (by omega) (by omega) (by rw [show (i - lo).toNat = 7 by omega]; rfl) h7 (k7 q7)
  by_cases q8 : i = lo + 8
  · exact r_tableIn hC hd hg (by omega) (by omega) (by rw [show (i - lo).toNat = 8 by omega]; rfl) h8 (k8 q8)
  exact r_tableOut hC hd hg (by omega) hT (kd (by omega))
theorem r_tb10 (hC : CxOK C cc own R nL) {d lo hi o0 o1 o2 o3 o4 o5 o6 o7 o8 o9 i : Int} {len td t0 t1 t2 t3 t4 t5 t6 t7 t8 t9 : Nat} (hd : decode cc pc = .ok (.tableswitch d lo hi #[o0, o1, o2, o3, o4, o5, o6, o7, o8, o9], len)) (hn : hi = lo + 9) (hg : rg i) (hT : (pc : Int) + d = (td : Int)) (h0 : (pc : Int) + o0 = (t0 : Int)) (h1 : (pc : Int) + o1 = (t1 : Int)) (h2 : (pc : Int) + o2 = (t2 : Int)) (h3 : (pc : Int) + o3 = (t3 : Int)) (h4 : (pc : Int) + o4 = (t4 : Int)) (h5 : (pc : Int) + o5 = (t5 : Int)) (h6 : (pc : Int) + o6 = (t6 : Int)) (h7 : (pc : Int) + o7 = (t7 : Int)) (h8 : (pc : Int) + o8 = (t8 : Int)) (h9 : (pc : Int) + o9 = (t9 : Int)) (k0 : i = lo + 0 → VW C t0 lv st u c z) (k1 : i = lo + 1 → VW C t1 lv st u c z) (k2 : i = lo + 2 → VW C t2 lv st u c z) (k3 : i = lo + 3 → VW C t3 lv st u c z) (k4 : i = lo + 4 → VW C t4 lv st u c z) (k5 : i = lo + 5 → VW C t5 lv st u c z) (k6 : i = lo + 6 → VW C t6 lv st u c z) (k7 : i = lo + 7 → VW C t7 lv st u c z) (k8 : i = lo + 8 → VW C t8 lv st u c z) (k9 : i = lo + 9 → VW C t9 lv st u c z) (kd : (i < lo ∨ hi < i) → VW C td lv st u c z) : VW C pc lv (xI i :: st) u c z := by
  by_cases q0 : i = lo + 0
  · exact r_tableIn hC hd hg (by omega) (by omega) (by rw [show (i - lo).toNat = 0 by omega]; rfl) h0 (k0 q0)
  by_cases q1 : i = lo + 1
  · exact r_tableIn hC hd hg (by omega) (by omega) (by rw [show (i - lo).toNat = 1 by omega]; rfl) h1 (k1 q1)
  by_cases q2 : i = lo + 2
  · exact r_tableIn hC hd hg (by omega) (by omega) (by rw [show (i - lo).toNat = 2 by omega]; rfl) h2 (k2 q2)
  by_cases q3 : i = lo + 3
  · exact r_tableIn hC hd hg (by omega) (by omega) (by rw [show (i - lo).toNat = 3 by omega]; rfl) h3 (k3 q3)
  by_cases q4 : i = lo + 4
  · exact r_tableIn hC hd hg (by omega) (by omega) (by rw [show (i - lo).toNat = 4 by omega]; rfl) h4 (k4 q4)
  by_cases q5 : i = lo + 5
  · exact r_tableIn hC hd hg (by omega) (by omega) (by rw [show (i - lo).toNat = 5 by omega]; rfl) h5 (k5 q5)
  by_cases q6 : i = lo + 6
  · exact r_tableIn hC hd hg (by omega) (by omega) (by rw [show (i - lo).toNat = 6 by omega]; rfl) h6 (k6 q6)
  by_cases q7 : i = lo + 7
  · exact r_tableIn hC hd hg (by omega) (by omega) (by rw [show (i - lo).toNat = 7 by omega]; rfl) h7 (k7 q7)
  by_cases q8 : i = lo + 8
  · exact r_tableIn hC hd hg (by omega) (by omega) (by rw [show (i - lo).toNat = 8 by omega]; rfl) h8 (k8 q8)
  by_cases q9 : i = lo + 9
  · exact r_tableIn hC hd hg (by omega) (by omega) (by rw [show (i - lo).toNat = 9 by omega]; rfl) h9 (k9 q9)
  exact r_tableOut hC hd hg (by omega) hT (kd (by omega))
theorem r_tb12 (hC : CxOK C cc own R nL) {d lo hi o0 o1 o2 o3 o4 o5 o6 o7 o8 o9 o10 o11 i : Int} {len td t0 t1 t2 t3 t4 t5 t6 t7 t8 t9 t10 t11 : Nat} (hd : decode cc pc = .ok (.tableswitch d lo hi #[o0, o1, o2, o3, o4, o5, o6, o7, o8, o9, o10, o11], len)) (hn : hi = lo + 11) (hg : rg i) (hT : (pc : Int) + d = (td : Int)) (h0 : (pc : Int) + o0 = (t0 : Int)) (h1 : (pc : Int) + o1 = (t1 : Int)) (h2 : (pc : Int) + o2 = (t2 : Int)) (h3 : (pc : Int) + o3 = (t3 : Int)) (h4 : (pc : Int) + o4 = (t4 : Int)) (h5 : (pc : Int) + o5 = (t5 : Int)) (h6 : (pc : Int) + o6 = (t6 : Int)) (h7 : (pc : Int) + o7 = (t7 : Int)) (h8 : (pc : Int) + o8 = (t8 : Int)) (h9 : (pc : Int) + o9 = (t9 : Int)) (h10 : (pc : Int) + o10 = (t10 : Int)) (h11 : (pc : Int) + o11 = (t11 : Int)) (k0 : i = lo + 0 → VW C t0 lv st u c z) (k1 : i = lo + 1 → VW C t1 lv st u c z) (k2 : i = lo + 2 → VW C t2 lv st u c z) (k3 : i = lo + 3 → VW C t3 lv st u c z) (k4 : i = lo + 4 → VW C t4 lv st u c z) (k5 : i = lo + 5 → VW C t5 lv st u c z) (k6 : i = lo + 6 → VW C t6 lv st u c z) (k7 : i = lo + 7 → VW C t7 lv st u c z) (k8 : i = lo + 8 → VW C t8 lv st u c z) (k9 : i = lo + 9 → VW C t9 lv st u c z) (k10 : i = lo + 10 → VW C t10 lv st u c z) (k11 : i = lo + 11 → VW C t11 lv st u c z) (kd : (i < lo ∨ hi < i) → VW C td lv st u c z) : VW C pc lv (xI i :: st) u c z := by
  by_cases q0 : i = lo + 0
  · exact r_tableIn hC hd hg (by omega) (by omega) (by rw [show (i - lo).toNat = 0 by omega]; rfl) h0 (k0 q0)
  by_cases q1 : i = lo + 1
  · exact r_tableIn hC hd hg (by omega) (by omega) (by rw [show (i - lo).toNat = 1 by omega]; rfl) h1 (k1 q1)
  by_cases q2 : i = lo + 2
  · exact r_tableIn hC hd hg (by omega) (by omega) (by rw [show (i - lo).toNat = 2 by omega]; rfl) h2 (k2 q2)
  by_cases q3 : i = lo + 3
  · exact r_tableIn hC hd hg (by omega) (by omega) (by rw [show (i - lo).toNat = 3 by omega]; rfl) h3 (k3 q3)
  by_cases q4 : i = lo + 4
  · exact r_tableIn hC hd hg (by omega) (by omega) (by rw [show (i - lo).toNat = 4 by omega]; rfl) h4 (k4 q4)
  by_cases q5 : i = lo + 5
  · exact r_tableIn hC hd hg (by omega) (by omega) (by rw [show (i - lo).toNat = 5 by omega]; rfl) h5 (k5 q5)
  by_cases q6 : i = lo + 6
  · exact r_tableIn hC hd hg (by omega) (by omega) (by rw [show (i - lo).toNat = 6 by omega]; rfl) h6 (k6 q6)
  by_cases q7 : i = lo + 7
  · exact r_tableIn hC hd hg (by omega) (by omega) (by rw [show (i - lo).toNat = 7 by omega]; rfl) h7 (k7 q7)
  by_cases q8 : i = lo + 8
  · exact r_tableIn hC hd hg (by omega) (by omega) (by rw [show (i - lo).toNat = 8 by omega]; rfl) h8 (k8 q8)
  by_cases q9 : i = lo + 9
  · exact r_tableIn hC hd hg (by omega) (by omega) (by rw [show (i - lo).toNat = 9 by omega]; rfl) h9 (k9 q9)
  by_cases q10 : i = lo + 10
  · exact r_tableIn hC hd hg (by omega) (by omega) (by rw [show (i - lo).toNat = 10 by omega]; rfl) h10 (k10 q10)
  by_cases q11 : i = lo + 11
  · exact r_tableIn hC hd hg (by omega) (by omega) (by rw [show (i - lo).toNat = 11 by omega]; rfl) h11 (k11 q11)
  exact r_tableOut hC hd hg (by omega) hT (kd (by omega))
theorem r_tb14 (hC : CxOK C cc own R nL) {d lo hi o0 o1 o2 o3 o4 o5 o6 o7 o8 o9 o10 o11 o12 o13 i : Int} {len td t0 t1 t2 t3 t4 t5 t6 t7 t8 t9 t10 t11 t12 t13 : Nat} (hd : decode cc pc = .ok (.tableswitch d lo hi #[o0, o1, o2, o3, o4, o5, o6, o7, o8, o9, o10, o11, o12, o13], len)) (hn : hi = lo + 13) (hg : rg i) (hT : (pc : Int) + d = (td : Int)) (h0 : (pc : Int) + o0 = (t0 : Int)) (h1 : (pc : Int) + o1 = (t1 : Int)) (h2 : (pc : Int) + o2 = (t2 : Int)) (h3 : (pc : Int) + o3 = (t3 : Int)) (h4 : (pc : Int) + o4 = (t4 : Int)) (h5 : (pc : Int) + o5 = (t5 : Int)) (h6 : (pc : Int) + o6 = (t6 : Int)) (h7 : (pc : Int) + o7 = (t7 : Int)) (h8 : (pc : Int) + o8 = (t8 : Int)) (h9 : (pc : Int) + o9 = (t9 : Int)) (h10 : (pc : Int) + o10 = (t10 : Int)) (h11 : (pc : Int) + o11 = (t11 : Int)) (h12 : (pc : Int) + o12 = (t12 : Int)) (h13 : (pc : Int) + o13 = (t13 : Int)) (k0 : i = lo + 0 → VW C t0 lv st u c z) (k1 : i = lo + 1 → VW C t1 lv st u c z) (k2 : i = lo + 2 → VW C t2 lv st u c z) (k3 : i = lo + 3 → VW C t3 lv st u c z) (k4 : i = lo + 4 → VW C t4 lv st u c z) (k5 : i = lo + 5 → VW C t5 lv st u c z) (k6 : i = lo + 6 → VW C t6 lv st u c z) (k7 : i = lo + 7 → VW C t7 lv st u c z) (k8 : i = lo + 8 → VW C t8 lv st u c z) (k9 : i = lo + 9 → VW C t9 lv st u c z) (k10 : i = lo + 10 → VW C t10 lv st u c z) (k11 : i = lo + 11 → VW C t11 lv st u c z) (k12 : i = lo + 12 → VW C t12 lv st u c z) (k13 : i = lo + 13 → VW C t13 lv st u c z) (kd : (i < lo ∨ hi < i) → VW C td lv st u c z) : VW C pc lv (xI i :: st) u c z := by
  by_cases q0 : i = lo + 0
  · exact r_tableIn hC hd hg (by omega) (by omega) (by rw [show (i - lo).toNat = 0 by omega]; rfl) h0 (k0 q0)
  by_cases q1 : i = lo + 1
  · exact r_tableIn hC hd hg (by omega) (by omega) (by rw [show (i - lo).toNat = 1 by omega]; rfl) h1 (k1 q1)
  by_cases q2 : i = lo + 2
  · exact r_tableIn hC hd hg (by omega) (by omega) (by rw [show (i - lo).toNat = 2 by omega]; rfl) h2 (k2 q2)
  by_cases q3 : i = lo + 3
  · exact r_tableIn hC hd hg (by omega) (by omega) (by rw [show (i - lo).toNat = 3 by omega]; rfl) h3 (k3 q3)
  by_cases q4 : i = lo + 4
  · exact r_tableIn hC hd hg (by omega) (by omega) (by rw [show (i - lo).toNat = 4 by omega]; rfl) h4 (k4 q4)
  by_cases q5 : i = lo + 5
  · exact r_tableIn hC hd hg (by omega) (by omega) (by rw [show (i - lo).toNat = 5 by omega]; rfl) h5 (k5 q5)
  by_cases q6 : i = lo + 6
  · exact r_tableIn hC hd hg (by omega) (by omega) (by rw [show (i - lo).toNat = 6 by omega]; rfl) h6 (k6 q6)
  by_cases q7 : i = lo + 7
  · exact r_tableIn hC hd hg (by omega) (by omega) (by rw [show (i - lo).toNat = 7 by omega]; rfl) h7 (k7 q7)
  by_cases q8 : i = lo + 8
  · exact r_tableIn hC hd hg (by omega) (by omega) (by rw [show (i - lo).toNat = 8 by omega]; rfl) h8 (k8 q8)
  by_cases q9 : i = lo + 9
  · exact r_tableIn hC hd hg (by omega) (by omega) (by rw [show (i - lo).toNat = 9 by omega]; rfl) h9 (k9 q9)
  by_cases q10 : i = lo + 10
  · exact r_tableIn hC hd hg (by omega) (by omega) (by rw [show (i - lo).toNat = 10 by omega]; rfl) h10 (k10 q10)
  by_cases q11 : i = lo + 11
  · exact r_tableIn hC hd hg (by omega) (by omega) (by rw [show (i - lo).toNat = 11 by omega]; rfl) h11 (k11 q11)
  by_cases q12 : i = lo + 12
  · exact r_tableIn hC hd hg (by omega) (by omega) (by rw [show (i - lo).toNat = 12 by omega]; rfl) h12 (k12 q12)
  by_cases q13 : i = lo + 13
  · exact r_tableIn hC hd hg (by omega) (by omega) (by rw [show (i - lo).toNat = 13 by omega]; rfl) h13 (k13 q13)
  exact r_tableOut hC hd hg (by omega) hT (kd (by omega))
theorem r_tb29 (hC : CxOK C cc own R nL) {d lo hi o0 o1 o2 o3 o4 o5 o6 o7 o8 o9 o10 o11 o12 o13 o14 o15 o16 o17 o18 o19 o20 o21 o22 o23 o24 o25 o26 o27 o28 i : Int} {len td t0 t1 t2 t3 t4 t5 t6 t7 t8 t9 t10 t11 t12 t13 t14 t15 t16 t17 t18 t19 t20 t21 t22 t23 t24 t25 t26 t27 t28 : Nat} (hd : decode cc pc = .ok (.tableswitch d lo hi #[o0, o1, o2, o3, o4, o5, o6, o7, o8, o9, o10, o11, o12, o13, o14, o15, o16, o17, o18, o19, o20, o21, o22, o23, o24, o25, o26, o27, o28], len)) (hn : hi = lo + 28) (hg : rg i) (hT : (pc : Int) + d = (td : Int)) (h0 : (pc : Int) + o0 = (t0 : Int)) (h1 : (pc : Int) + o1 = (t1 : Int)) (h2 : (pc : Int) + o2 = (t2 : Int)) (h3 : (pc : Int) + o3 = (t3 : Int)) (h4 : (pc : Int) + o4 = (t4 : Int)) (h5 : (pc : Int) + o5 = (t5 : Int)) (h6 : (pc : Int) + o6 = (t6 : Int)) (h7 : (pc : Int) + o7 = (t7 : Int)) (h8 : (pc : Int) + o8 = (t8 : Int)) (h9 : (pc : Int) + o9 = (t9 : Int)) (h10 : (pc : Int) + o10 = (t10 : Int)) (h11 : (pc : Int) + o11 = (t11 : Int)) (h12 : (pc : Int) + o12 = (t12 : Int)) (h13 : (pc : Int) + o13 = (t13 : Int)) (h14 : (pc : Int) + o14 = (t14 : Int)) (h15 : (pc : Int) + o15 = (t15 : Int)) (h16 : (pc : Int) + o16 = (t16 : Int)) (h17 : (pc : Int) + o17 = (t17 : Int)) (h18 : (pc : Int) + o18 = (t18 : Int)) (h19 : (pc : Int) + o19 = (t19 : Int)) (h20 : (pc : Int) + o20 = (t20 : Int)) (h21 : (pc : Int) + o21 = (t21 : Int)) (h22 : (pc : Int) + o22 = (t22 : Int)) (h23 : (pc : Int) + o23 = (t23 : Int)) (h24 : (pc : Int) + o24 = (t24 : Int)) (h25 : (pc : Int) + o25 = (t25 : Int)) (h26 : (pc : Int) + o26 = (t26 : Int)) (h27 : (pc : Int) + o27 = (t27 : Int)) (h28 : (pc : Int) + o28 = (t28 : Int)) (k0 : i = lo + 0 → VW C t0 lv st u c z) (k1 : i = lo + 1 → VW C t1 lv st u c z) (k2 : i = lo + 2 → VW C t2 lv st u c z) (k3 : i = lo + 3 → VW C t3 lv st u c z) (k4 : i = lo + 4 → VW C t4 lv st u c z) (k5 : i = lo + 5 → VW C t5 lv st u c z) (k6 : i = lo + 6 → VW C t6 lv st u c z) (k7 : i = lo + 7 → VW C t7 lv st u c z) (k8 : i = lo + 8 → VW C t8 lv st u c z) (k9 : i = lo + 9 → VW C t9 lv st u c z) (k10 : i = lo + 10 → VW C t10 lv st u c z) (k11 : i = lo + 11 → VW C t11 lv st u c z) (k12 : i = lo + 12 → VW C t12 lv st u c z) (k13 : i = lo + 13 → VW C t13 lv st u c z) (k14 : i = lo + 14 → VW C t14 lv st u c z) (k15 : i = lo + 15 → VW C t15 lv st u c z) (k16 : i = lo + 16 → VW C t16 lv st u c z) (k17 : i = lo + 17 → VW C t17 lv st u c z) (k18 : i = lo + 18 → VW C t18 lv st u c z) (k19 : i = lo + 19 → VW C t19 lv st u c z) (k20 : i = lo + 20 → VW C t20 lv st u c z) (k21 : i = lo + 21 → VW C t21 lv st u c z) (k22 : i = lo + 22 → VW C t22 lv st u c z) (k23 : i = lo + 23 → VW C t23 lv st u c z) (k24 : i = lo + 24 → VW C t24 lv st u c z) (k25 : i = lo + 25 → VW C t25 lv st u c z) (k26 : i = lo + 26 → VW C t26 lv st u c z) (k27 : i = lo + 27 → VW C t27 lv st u c z) (k28 : i = lo + 28 → VW C t28 lv st u c z) (kd : (i < lo ∨ hi < i) → VW C td lv st u c z) : VW C pc lv (xI i :: st) u c z := by
  by_cases q0 : i = lo + 0
  · exact r_tableIn hC hd hg (by omega) (by omega) (by rw [show (i - lo).toNat = 0 by omega]; rfl) h0 (k0 q0)
  by_cases q1 : i = lo + 1
  · exact r_tableIn hC hd hg (by omega) (by omega) (by rw [show (i - lo).toNat = 1 by omega]; rfl) h1 (k1 q1)
  by_cases q2 : i = lo + 2
  · exact r_tableIn hC hd hg (by omega) (by omega) (by rw [show (i - lo).toNat = 2 by omega]; rfl) h2 (k2 q2)
  by_cases q3 : i = lo + 3
  · exact r_tableIn hC hd hg (by omega) (by omega) (by rw [show (i - lo).toNat = 3 by omega]; rfl) h3 (k3 q3)
  by_cases q4 : i = lo + 4
  · exact r_tableIn hC hd hg (by omega) (by omega) (by rw [show (i - lo).toNat = 4 by omega]; rfl) h4 (k4 q4)
  by_cases q5 : i = lo + 5
  · exact r_tableIn hC hd hg (by omega) (by omega) (by rw [show (i - lo).toNat = 5 by omega]; rfl) h5 (k5 q5)
  by_cases q6 : i = lo + 6
  · exact r_tableIn hC hd hg (by omega) (by omega) (by rw [show (i - lo).toNat = 6 by omega]; rfl) h6 (k6 q6)
  by_cases q7 : i = lo + 7
  · exact r_tableIn hC hd hg (by omega) (by omega) (by rw [show (i - lo).toNat = 7 by omega]; rfl) h7 (k7 q7)
  by_cases q8 : i = lo + 8
  · exact r_tableIn hC hd hg (by omega) (by omega) (by rw [show (i - lo).toNat = 8 by omega]; rfl) h8 (k8 q8)
  by_cases q9 : i = lo + 9
  · exact r_tableIn hC hd hg (by omega) (by omega) (by rw [show (i - lo).toNat = 9 by omega]; rfl) h9 (k9 q9)
  by_cases q10 : i = lo + 10
  · exact r_tableIn hC hd hg (by omega) (by omega) (by rw [show (i - lo).toNat = 10 by omega]; rfl) h10 (k10 q10)
  by_cases q11 : i = lo + 11
  · exact r_tableIn hC hd hg (by omega) (by omega) (by rw [show (i - lo).toNat = 11 by omega]; rfl) h11 (k11 q11)
  by_cases q12 : i = lo + 12
  · exact r_tableIn hC hd hg (by omega) (by omega) (by rw [show (i - lo).toNat = 12 by omega]; rfl) h12 (k12 q12)
  by_cases q13 : i = lo + 13
  · exact r_tableIn hC hd hg (by omega) (by omega) (by rw [show (i - lo).toNat = 13 by omega]; rfl) h13 (k13 q13)
  by_cases q14 : i = lo + 14
  · exact r_tableIn hC hd hg (by omega) (by omega) (by rw [show (i - lo).toNat = 14 by omega]; rfl) h14 (k14 q14)
  by_cases q15 : i = lo + 15
  · exact r_tableIn hC hd hg (by omega) (by omega) (by rw [show (i - lo).toNat = 15 by omega]; rfl) h15 (k15 q15)
  by_cases q16 : i = lo + 16
  · exact r_tableIn hC hd hg (by omega) (by omega) (by rw [show (i - lo).toNat = 16 by omega]; rfl) h16 (k16 q16)
  by_cases q17 : i = lo + 17
  · exact r_tableIn hC hd hg (by omega) (by omega) (by rw [show (i - lo).toNat = 17 by omega]; rfl) h17 (k17 q17)
  by_cases q18 : i = lo + 18
  · exact r_tableIn hC hd hg (by omega) (by omega) (by rw [show (i - lo).toNat = 18 by omega]; rfl) h18 (k18 q18)
  by_cases q19 : i = lo + 19
  · exact r_tableIn hC hd hg (by omega) (by omega) (by rw [show (i - lo).toNat = 19 by omega]; rfl) h19 (k19 q19)
  by_cases q20 : i = lo + 20
  · exact r_tableIn hC hd hg (by omega) (by omega) (by rw [show (i - lo).toNat = 20 by omega]; rfl) h20 (k20 q20)
  by_cases q21 : i = lo + 21
  · exact r_tableIn hC hd hg (by omega) (by omega) (by rw [show (i - lo).toNat = 21 by omega]; rfl) h21 (k21 q21)
  by_cases q22 : i = lo + 22
  · exact r_tableIn hC hd hg (by omega) (by omega) (by rw [show (i - lo).toNat = 22 by omega]; rfl) h22 (k22 q22)
  by_cases q23 : i = lo + 23
  · exact r_tableIn hC hd hg (by omega) (by omega) (by rw [show (i - lo).toNat = 23 by omega]; rfl) h23 (k23 q23)
  by_cases q24 : i = lo + 24
  · exact r_tableIn hC hd hg (by omega) (by omega) (by rw [show (i - lo).toNat = 24 by omega]; rfl) h24 (k24 q24)
  by_cases q25 : i = lo + 25
  · exact r_tableIn hC hd hg (by omega) (by omega) (by rw [show (i - lo).toNat = 25 by omega]; rfl) h25 (k25 q25)
  by_cases q26 : i = lo + 26
  · exact r_tableIn hC hd hg (by omega) (by omega) (by rw [show (i - lo).toNat = 26 by omega]; rfl) h26 (k26 q26)
  by_cases q27 : i = lo + 27
  · exact r_tableIn hC hd hg (by omega) (by omega) (by rw [show (i - lo).toNat = 27 by omega]; rfl) h27 (k27 q27)
  by_cases q28 : i = lo + 28
  · exact r_tableIn hC hd hg (by omega) (by omega) (by rw [show (i - lo).toNat = 28 by omega]; rfl) h28 (k28 q28)
  exact r_tableOut hC hd hg (by omega) hT (kd (by omega))
/-! reading the buffer -/
theorem sI_swap (u : Mem) {a b : Nat} (k j v w : Int) (h : a ≠ b) : sI (sI u a k v) b j w = sI (sI u b j w) a k v := by
  unfold sI up2
  simp only [Prod.mk.injEq, true_and, and_true]
  funext x i
  by_cases h1 : x = b ∧ i = j
  · rw [if_pos h1]; by_cases h2 : x = a ∧ i = k
    · exact absurd (h2.1.symm.trans h1.1) h
    · rw [if_neg h2, if_pos h1]
  · rw [if_neg h1]; by_cases h2 : x = a ∧ i = k
    · rw [if_pos h2, if_pos h2]
    · rw [if_neg h2, if_neg h2, if_neg h1]
theorem sI_mI (u : Mem) (a : Nat) (k : Int) : sI u a k (mI u a k) = u := by
  unfold sI up2
  refine Prod.ext rfl (Prod.ext ?_ rfl)
  funext x i
  show (if x = a ∧ i = k then _ else _) = _
  by_cases h1 : x = a ∧ i = k
  · rw [if_pos h1, h1.1, h1.2]; exact mI_ofInt u a k
  · rw [if_neg h1]
/-- the memory with the place `at` and the numbers read -/
def pM (u : Mem) (m : Nat) (a : Int) (N : RW) : Mem := sI (sA u (m + 6) N) m 8 a
theorem MO.pM {u : Mem} {m : Nat} (h : MO u m) (a : Int) (N : RW) : MO (pM u m a N) m := h
theorem pM_at {m : Nat} {a : Int} {N : RW} (ha : rg a) : mI (pM u m a N) m 8 = a := by unfold pM; rw [mI_sI_s, wr_id ha]
theorem pM_get {m : Nat} {a k : Int} {N : RW} (h : k ≠ 8) : mI (pM u m a N) m k = mI u m k := by unfold pM; rw [mI_sI_k _ _ _ _ h, mI_sA_n _ _ (by omega)]
theorem pM_arr {m q : Nat} {a : Int} {N : RW} (h : q ≠ m) (h6 : q ≠ m + 6) : mI (pM u m a N) q = mI u q := by funext j; unfold pM; rw [mI_sI_a _ _ _ _ h, mI_sA_n _ _ h6]
theorem pM_num {m : Nat} {a : Int} {N : RW} (hn : RF N) : mI (pM u m a N) (m + 6) = N := by funext j; unfold pM; rw [mI_sI_a _ _ _ _ (by omega), mI_sA_f u (m + 6) hn]
theorem pM_seta {m : Nat} (a v : Int) (N : RW) : sI (pM u m a N) m 8 v = pM u m v N := by unfold pM; rw [sI_sI]
theorem pM_setn {m : Nat} (a : Int) (N : RW) (i v : Int) : sI (pM u m a N) (m + 6) i v = pM u m a (up N i v) := by
  unfold pM; rw [sI_swap _ _ _ _ _ (by omega), sA_up]
theorem pM_id (u : Mem) (m : Nat) : pM u m (mI u m 8) (mI u (m + 6)) = u := by
  unfold pM
  rw [sA_mI, sI_mI]
theorem rP_at (hC : CxOK C cc own R nL) {m : Nat} (hM : MO u m) {a : Int} {N f : RW} (ha : rg a) {idx : Nat} (hd : decode cc pc = .ok (.getfield idx, 3)) (hF : FL own idx 8 8) (kk : VW C (pc + 3) lv (xI a :: st) (sA (pM u m a N) (m + 1) f) c z) : VW C pc lv (xA m :: st) (sA (pM u m a N) (m + 1) f) c z := by
  refine rM_getI (j := 8) hC (hM.pM a N) hd hF rfl rfl ?_
  rw [pM_at ha]; exact kk
theorem rP_len (hC : CxOK C cc own R nL) {m : Nat} (hM : MO u m) {a : Int} {N f : RW} (_ : rg a) {idx : Nat} (hd : decode cc pc = .ok (.getfield idx, 3)) (hF : FL own idx 8 7) (kk : VW C (pc + 3) lv (xI (mI u m 7) :: st) (sA (pM u m a N) (m + 1) f) c z) : VW C pc lv (xA m :: st) (sA (pM u m a N) (m + 1) f) c z := by
  refine rM_getI (j := 7) hC (hM.pM a N) hd hF rfl rfl ?_
  rw [pM_get (by decide)]; exact kk
theorem rP_buf (hC : CxOK C cc own R nL) {m : Nat} (hM : MO u m) {a i : Int} {N f : RW} (hd : decode cc pc = .ok (.iaload, 1)) (hi : 0 ≤ i ∧ i < (60 : Nat)) (kk : VW C (pc + 1) lv (xI (mI u (m + 5) i) :: st) (sA (pM u m a N) (m + 1) f) c z) : VW C pc lv (xI i :: xA (m + 5) :: st) (sA (pM u m a N) (m + 1) f) c z := by
  refine rM_ald2 hC hd (hM.pM a N).a_buffer rfl hi ?_
  rw [pM_arr (by omega) (by omega)]; exact kk
theorem rP_num (hC : CxOK C cc own R nL) {m : Nat} (hM : MO u m) {a i : Int} {N f : RW} (hn : RF N) (hd : decode cc pc = .ok (.iaload, 1)) (hi : 0 ≤ i ∧ i < (3 : Nat)) (kk : VW C (pc + 1) lv (xI (N i) :: st) (sA (pM u m a N) (m + 1) f) c z) : VW C pc lv (xI i :: xA (m + 6) :: st) (sA (pM u m a N) (m + 1) f) c z := by
  refine rM_ald2 hC hd (hM.pM a N).a_numbers rfl hi ?_
  rw [pM_num hn]; exact kk
theorem rP_setn (hC : CxOK C cc own R nL) {m : Nat} (hM : MO u m) {a i v : Int} {N f : RW} (hd : decode cc pc = .ok (.iastore, 1)) (hi : 0 ≤ i ∧ i < (3 : Nat)) (kk : VW C (pc + 1) lv st (sA (pM u m a (up N i v)) (m + 1) f) c z) : VW C pc lv (xI v :: xI i :: xA (m + 6) :: st) (sA (pM u m a N) (m + 1) f) c z := by
  refine rM_ast2 hC hd (hM.pM a N).a_numbers rfl hi ?_
  rw [pM_setn]; exact kk
theorem rP_seta (hC : CxOK C cc own R nL) {m : Nat} (hM : MO u m) {a v : Int} {N f : RW} {idx : Nat} (hd : decode cc pc = .ok (.putfield idx, 3)) (hF : FL own idx 8 8) (kk : VW C (pc + 3) lv st (sA (pM u m v N) (m + 1) f) c z) : VW C pc lv (xI v :: xA m :: st) (sA (pM u m a N) (m + 1) f) c z := by
  refine rM_putI (j := 8) hC (hM.pM a N) hd hF rfl (by rintro _ ⟨⟩; rfl) (Or.inl rfl) ?_
  rw [pM_seta]; exact kk
end RSWT
