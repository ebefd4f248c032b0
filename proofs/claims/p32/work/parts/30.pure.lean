section
/-- the base behind a save -/
def m_sv (u : Mem) (m : Nat) (f : RW) : Mem := sA (sI u m 4 (m_savedN (mI u m 4))) (m + 2) (m_saved (mI u (m + 2)) f (mI u m 4))
/-- a call's end: refused with t, or answered with v and the memory w -/
def m_pub (u : Mem) (m : Nat) (f : RW) (t v : Int) (w : Mem) : Option SV → Mem → Prop := if t ≠ 0 then RT (xI 0) (sA (sI u m 11 t) (m + 1) f) else RT (xI v) w
theorem m_sv_7 (u : Mem) (m : Nat) (f : RW) : mI (m_sv u m f) (m + 7) = mI u (m + 7) := by
  unfold m_sv
  rw [mI_sA_n _ _ (by omega), up_mI_n _ _ _ (by omega)]
theorem m_sv_q (u : Mem) (m : Nat) (f : RW) {a : Nat} (h1 : a ≠ m) (h2 : a ≠ m + 2) : mI (m_sv u m f) a = mI u a := by
  unfold m_sv
  rw [mI_sA_n _ _ h2, up_mI_n _ _ _ h1]
def q_begin (f : RW) : Int := if m_free f = -1 then 1 else 0
def q_write (f : RW) (p t v : Int) : Int := if m_open f p = false then 1 else if ¬ ((0 ≤ t ∧ t ≤ 3) ∧ (0 ≤ v ∧ v ≤ 99)) then 2 else if m_its f p 1 = 6 then 3 else 0
def q_commit (f : RW) (p : Int) : Int := if m_open f p = false then 1 else if m_kept f + m_its f p 1 > 60 ∨ f 2 + m_its f p 1 > 200 then 2 else 0
def q_drop (f : RW) (p : Int) : Int := if m_open f p = false then 1 else 0
def q_want (c t : Int) : Int := if ¬ (0 ≤ c ∧ c ≤ 2) then 1 else if ¬ (0 ≤ t ∧ t ≤ 15) then 2 else 0
def q_pass (n : Int) : Int := if ¬ (1 ≤ n ∧ n ≤ 99) then 1 else 0
def q_lose (f : RW) : Int := if f 9 = 0 then 1 else 0
def s_least (s : Int) : Int := if s = 0 ∨ s = 4 ∨ s = 5 then 0 else 1
def s_most (s : Int) : Int := if s = 0 ∨ s = 5 then 1 else if s = 2 then 8 else if s = 3 ∨ s = 6 then 20 else 9
def q_set (f : RW) (s v : Int) : Int := if ¬ (0 ≤ s ∧ s ≤ 6) then 1 else if ¬ (s_least s ≤ v ∧ v ≤ s_most s) ∨ (s = 4 ∧ v = 1) then 2 else if s = 0 ∧ 0 < f 2 then 3 else 0
abbrev rmX8_begin : Room := { frames := 3, cells := 0, slots := 0, locals := 64 }
abbrev rmX8_write : Room := { frames := 3, cells := 0, slots := 0, locals := 68 }
abbrev rmX8_commit : Room := { frames := 3, cells := 0, slots := 0, locals := 68 }
abbrev rmX8_drop : Room := { frames := 3, cells := 0, slots := 0, locals := 64 }
abbrev rmX8_want : Room := { frames := 1, cells := 0, slots := 0, locals := 23 }
abbrev rmX8_sweep : Room := { frames := 5, cells := 0, slots := 0, locals := 113 }
abbrev rmX8_leastOf : Room := { frames := 0, cells := 0, slots := 0, locals := 0 }
abbrev rmX8_mostOf : Room := { frames := 0, cells := 0, slots := 0, locals := 0 }
theorem rg_least (s : Int) : rg (s_least s) := by unfold s_least; split <;> exact ⟨by omega, by omega⟩
theorem rg_most (s : Int) : rg (s_most s) := by unfold s_most; repeat (first | exact ⟨by omega, by omega⟩ | split)
abbrev rmX8_set : Room := { frames := 1, cells := 0, slots := 0, locals := 22 }
end
section
def m_before (f : RW) (k i : Int) : Bool := decide (m_way f k 2 < m_way f i 2) || (decide (m_way f k 2 = m_way f i 2) && decide (k < i))
def m_ahead (f : RW) (i : Int) : Nat → Int
  | 0 => 0
  | k + 1 => m_ahead f i k + (if m_before f k i = true then 1 else 0)
def m_rankL (f : RW) (x : Int) : Nat → Int → Int
  | 0, _ => -1
  | n + 1, i => if m_ahead f i (f 9).toNat = x then i else m_rankL f x n (i + 1)
def m_ranked (f : RW) (x : Int) : Int := m_rankL f x (f 9).toNat 0
theorem m_ahead_rg (f : RW) (i : Int) (n : Nat) : 0 ≤ m_ahead f i n ∧ m_ahead f i n ≤ n := by
  induction n with
  | zero => simp [m_ahead]
  | succ n ih => simp only [m_ahead]; split <;> omega
abbrev rmX8_ranked : Room := { frames := 1, cells := 0, slots := 0, locals := 22 }
def m_lose (f : RW) : RW := up (m_takeOff f (m_ranked f 0)) 5 ((m_takeOff f (m_ranked f 0)) 5 + 1)
abbrev rmX8_lose : Room := { frames := 2, cells := 0, slots := 0, locals := 46 }
abbrev rmX8_pass : Room := { frames := 7, cells := 0, slots := 0, locals := 158 }
def m_past (P : RW) (s : Int) : RW := fun j => P (1651 * s + j)
theorem rf_past {P : RW} (h : RF P) (s : Int) : RF (m_past P s) := fun _ => h _
abbrev rmX8_undo : Room := { frames := 1, cells := 0, slots := 0, locals := 21 }
abbrev rmX8_layAside : Room := { frames := 0, cells := 0, slots := 0, locals := 0 }
abbrev rmX8_putBack : Room := { frames := 0, cells := 0, slots := 0, locals := 0 }
abbrev rmX8_keep : Room := { frames := 0, cells := 0, slots := 0, locals := 0 }
def q_back (u : Mem) (m : Nat) : Int := if mI u m 5 = 0 then 1 else 0
abbrev rmX8_goBack : Room := { frames := 1, cells := 0, slots := 0, locals := 21 }
end
section
section RSWT
variable {C : Cx} {cc : ByteArray} {own : String} {R : Room} {nL : Nat} {pc : Nat} {lv : LV} {st : List SV} {u : Mem} {c z : Nat}
theorem lk_hit {a o d i : Int} {ps : List (Int × Int)} (h : i = a) : Op.lookupswitch.offset ((a, o) :: ps) d i = o := by subst h; simp [Op.lookupswitch.offset]
theorem lk_miss {a o d i : Int} {ps : List (Int × Int)} (h : ¬ i = a) : Op.lookupswitch.offset ((a, o) :: ps) d i = Op.lookupswitch.offset ps d i := by
  rw [Op.lookupswitch.offset]; exact if_neg fun q => h q.symm
theorem r_lk4 (hC : CxOK C cc own R nL) {d a0 o0 a1 o1 a2 o2 a3 o3 i : Int} {len td t0 t1 t2 t3 : Nat} (hd : decode cc pc = .ok (.lookupswitch d #[(a0, o0), (a1, o1), (a2, o2), (a3, o3)], len)) (hp : (([(a0, o0), (a1, o1), (a2, o2), (a3, o3)] : List (Int × Int)).zip (([(a0, o0), (a1, o1), (a2, o2), (a3, o3)] : List (Int × Int)).drop 1)).all (fun (a, next) => a.1 < next.1) = true) (hg : rg i) (hT : (pc : Int) + d = (td : Int)) (h0 : (pc : Int) + o0 = (t0 : Int)) (h1 : (pc : Int) + o1 = (t1 : Int)) (h2 : (pc : Int) + o2 = (t2 : Int)) (h3 : (pc : Int) + o3 = (t3 : Int)) (k0 : i = a0 → VW C t0 lv st u c z) (k1 : i = a1 → VW C t1 lv st u c z) (k2 : i = a2 → VW C t2 lv st u c z) (k3 : i = a3 → VW C t3 lv st u c z) (kd : ¬ i = a0 → ¬ i = a1 → ¬ i = a2 → ¬ i = a3 → VW C td lv st u c z) : VW C pc lv (xI i :: st) u c z := by
  by_cases q0 : i = a0
  · exact r_lookup hC hd hp hg (by show Op.lookupswitch.offset [(a0, o0), (a1, o1), (a2, o2), (a3, o3)] d i = _; exact lk_hit q0) h0 (k0 q0)
  by_cases q1 : i = a1
  · exact r_lookup hC hd hp hg (by show Op.lookupswitch.offset [(a0, o0), (a1, o1), (a2, o2), (a3, o3)] d i = _; rw [lk_miss q0]; exact lk_hit q1) h1 (k1 q1)
  by_cases q2 : i = a2
  · exact r_lookup hC hd hp hg (by show Op.lookupswitch.offset [(a0, o0), (a1, o1), (a2, o2), (a3, o3)] d i = _; rw [lk_miss q0]; rw [lk_miss q1]; exact lk_hit q2) h2 (k2 q2)
  by_cases q3 : i = a3
  · exact r_lookup hC hd hp hg (by show Op.lookupswitch.offset [(a0, o0), (a1, o1), (a2, o2), (a3, o3)] d i = _; rw [lk_miss q0]; rw [lk_miss q1]; rw [lk_miss q2]; exact lk_hit q3) h3 (k3 q3)
  exact r_lookup hC hd hp hg (by show Op.lookupswitch.offset [(a0, o0), (a1, o1), (a2, o2), (a3, o3)] d i = _; rw [lk_miss q0]; rw [lk_miss q1]; rw [lk_miss q2]; rw [lk_miss q3]; rfl) hT (kd q0 q1 q2 q3)
theorem r_lk5 (hC : CxOK C cc own R nL) {d a0 o0 a1 o1 a2 o2 a3 o3 a4 o4 i : Int} {len td t0 t1 t2 t3 t4 : Nat} (hd : decode cc pc = .ok (.lookupswitch d #[(a0, o0), (a1, o1), (a2, o2), (a3, o3), (a4, o4)], len)) (hp : (([(a0, o0), (a1, o1), (a2, o2), (a3, o3), (a4, o4)] : List (Int × Int)).zip (([(a0, o0), (a1, o1), (a2, o2), (a3, o3), (a4, o4)] : List (Int × Int)).drop 1)).all (fun (a, next) => a.1 < next.1) = true) (hg : rg i) (hT : (pc : Int) + d = (td : Int)) (h0 : (pc : Int) + o0 = (t0 : Int)) (h1 : (pc : Int) + o1 = (t1 : Int)) (h2 : (pc : Int) + o2 = (t2 : Int)) (h3 : (pc : Int) + o3 = (t3 : Int)) (h4 : (pc : Int) + o4 = (t4 : Int)) (k0 : i = a0 → VW C t0 lv st u c z) (k1 : i = a1 → VW C t1 lv st u c z) (k2 : i = a2 → VW C t2 lv st u c z) (k3 : i = a3 → VW C t3 lv st u c z) (k4 : i = a4 → VW C t4 lv st u c z) (kd : ¬ i = a0 → ¬ i = a1 → ¬ i = a2 → ¬ i = a3 → ¬ i = a4 → VW C td lv st u c z) : VW C pc lv (xI i :: st) u c z := by
  by_cases q0 : i = a0
  · exact r_lookup hC hd hp hg (by show Op.lookupswitch.offset [(a0, o0), (a1, o1), (a2, o2), (a3, o3), (a4, o4)] d i = _; exact lk_hit q0) h0 (k0 q0)
  by_cases q1 : i = a1
  · exact r_lookup hC hd hp hg (by show Op.lookupswitch.offset [(a0, o0), (a1, o1), (a2, o2), (a3, o3), (a4, o4)] d i = _; rw [lk_miss q0]; exact lk_hit q1) h1 (k1 q1)
  by_cases q2 : i = a2
  · exact r_lookup hC hd hp hg (by show Op.lookupswitch.offset [(a0, o0), (a1, o1), (a2, o2), (a3, o3), (a4, o4)] d i = _; rw [lk_miss q0]; rw [lk_miss q1]; exact lk_hit q2) h2 (k2 q2)
  by_cases q3 : i = a3
  · exact r_lookup hC hd hp hg (by show Op.lookupswitch.offset [(a0, o0), (a1, o1), (a2, o2), (a3, o3), (a4, o4)] d i = _; rw [lk_miss q0]; rw [lk_miss q1]; rw [lk_miss q2]; exact lk_hit q3) h3 (k3 q3)
  by_cases q4 : i = a4
  · exact r_lookup hC hd hp hg (by show Op.lookupswitch.offset [(a0, o0), (a1, o1), (a2, o2), (a3, o3), (a4, o4)] d i = _; rw [lk_miss q0]; rw [lk_miss q1]; rw [lk_miss q2]; rw [lk_miss q3]; exact lk_hit q4) h4 (k4 q4)
  exact r_lookup hC hd hp hg (by show Op.lookupswitch.offset [(a0, o0), (a1, o1), (a2, o2), (a3, o3), (a4, o4)] d i = _; rw [lk_miss q0]; rw [lk_miss q1]; rw [lk_miss q2]; rw [lk_miss q3]; rw [lk_miss q4]; rfl) hT (kd q0 q1 q2 q3 q4)
theorem r_lk6 (hC : CxOK C cc own R nL) {d a0 o0 a1 o1 a2 o2 a3 o3 a4 o4 a5 o5 i : Int} {len td t0 t1 t2 t3 t4 t5 : Nat} (hd : decode cc pc = .ok (.lookupswitch d #[(a0, o0), (a1, o1), (a2, o2), (a3, o3), (a4, o4), (a5, o5)], len)) (hp : (([(a0, o0), (a1, o1), (a2, o2), (a3, o3), (a4, o4), (a5, o5)] : List (Int × Int)).zip (([(a0, o0), (a1, o1), (a2, o2), (a3, o3), (a4, o4), (a5, o5)] : List (Int × Int)).drop 1)).all (fun (a, next) => a.1 < next.1) = true) (hg : rg i) (hT : (pc : Int) + d = (td : Int)) (h0 : (pc : Int) + o0 = (t0 : Int)) (h1 : (pc : Int) + o1 = (t1 : Int)) (h2 : (pc : Int) + o2 = (t2 : Int)) (h3 : (pc : Int) + o3 = (t3 : Int)) (h4 : (pc : Int) + o4 = (t4 : Int)) (h5 : (pc : Int) + o5 = (t5 : Int)) (k0 : i = a0 → VW C t0 lv st u c z) (k1 : i = a1 → VW C t1 lv st u c z) (k2 : i = a2 → VW C t2 lv st u c z) (k3 : i = a3 → VW C t3 lv st u c z) (k4 : i = a4 → VW C t4 lv st u c z) (k5 : i = a5 → VW C t5 lv st u c z) (kd : ¬ i = a0 → ¬ i = a1 → ¬ i = a2 → ¬ i = a3 → ¬ i = a4 → ¬ i = a5 → VW C td lv st u c z) : VW C pc lv (xI i :: st) u c z := by
  by_cases q0 : i = a0
  · exact r_lookup hC hd hp hg (by show Op.lookupswitch.offset [(a0, o0), (a1, o1), (a2, o2), (a3, o3), (a4, o4), (a5, o5)] d i = _; exact lk_hit q0) h0 (k0 q0)
  by_cases q1 : i = a1
  · exact r_lookup hC hd hp hg (by show Op.lookupswitch.offset [(a0, o0), (a1, o1), (a2, o2), (a3, o3), (a4, o4), (a5, o5)] d i = _; rw [lk_miss q0]; exact lk_hit q1) h1 (k1 q1)
  by_cases q2 : i = a2
  · exact r_lookup hC hd hp hg (by show Op.lookupswitch.offset [(a0, o0), (a1, o1), (a2, o2), (a3, o3), (a4, o4), (a5, o5)] d i = _; rw [lk_miss q0]; rw [lk_miss q1]; exact lk_hit q2) h2 (k2 q2)
  by_cases q3 : i = a3
  · exact r_lookup hC hd hp hg (by show Op.lookupswitch.offset [(a0, o0), (a1, o1), (a2, o2), (a3, o3), (a4, o4), (a5, o5)] d i = _; rw [lk_miss q0]; rw [lk_miss q1]; rw [lk_miss q2]; exact lk_hit q3) h3 (k3 q3)
  by_cases q4 : i = a4
  · exact r_lookup hC hd hp hg (by show Op.lookupswitch.offset [(a0, o0), (a1, o1), (a2, o2), (a3, o3), (a4, o4), (a5, o5)] d i = _; rw [lk_miss q0]; rw [lk_miss q1]; rw [lk_miss q2]; rw [lk_miss q3]; exact lk_hit q4) h4 (k4 q4)
  by_cases q5 : i = a5
  · exact r_lookup hC hd hp hg (by show Op.lookupswitch.offset [(a0, o0), (a1, o1), (a2, o2), (a3, o3), (a4, o4), (a5, o5)] d i = _; rw [lk_miss q0]; rw [lk_miss q1]; rw [lk_miss q2]; rw [lk_miss q3]; rw [lk_miss q4]; exact lk_hit q5) h5 (k5 q5)
  exact r_lookup hC hd hp hg (by show Op.lookupswitch.offset [(a0, o0), (a1, o1), (a2, o2), (a3, o3), (a4, o4), (a5, o5)] d i = _; rw [lk_miss q0]; rw [lk_miss q1]; rw [lk_miss q2]; rw [lk_miss q3]; rw [lk_miss q4]; rw [lk_miss q5]; rfl) hT (kd q0 q1 q2 q3 q4 q5)
theorem r_tb3 (hC : CxOK C cc own R nL) {d lo hi o0 o1 o2 i : Int} {len td t0 t1 t2 : Nat} (hd : decode cc pc = .ok (.tableswitch d lo hi #[o0, o1, o2], len)) (hn : hi = lo + 2) (hg : rg i) (hT : (pc : Int) + d = (td : Int)) (h0 : (pc : Int) + o0 = (t0 : Int)) (h1 : (pc : Int) + o1 = (t1 : Int)) (h2 : (pc : Int) + o2 = (t2 : Int)) (k0 : i = lo + 0 → VW C t0 lv st u c z) (k1 : i = lo + 1 → VW C t1 lv st u c z) (k2 : i = lo + 2 → VW C t2 lv st u c z) (kd : (i < lo ∨ hi < i) → VW C td lv st u c z) : VW C pc lv (xI i :: st) u c z := by
  by_cases q0 : i = lo + 0
  · exact r_tableIn hC hd hg (by omega) (by omega) (by rw [show (i - lo).toNat = 0 by omega]; rfl) h0 (k0 q0)
  by_cases q1 : i = lo + 1
  · exact r_tableIn hC hd hg (by omega) (by omega) (by rw [show (i - lo).toNat = 1 by omega]; rfl) h1 (k1 q1)
  by_cases q2 : i = lo + 2
  · exact r_tableIn hC hd hg (by omega) (by omega) (by rw [show (i - lo).toNat = 2 by omega]; rfl) h2 (k2 q2)
  exact r_tableOut hC hd hg (by omega) hT (kd (by omega))
theorem r_tb4 (hC : CxOK C cc own R nL) {d lo hi o0 o1 o2 o3 i : Int} {len td t0 t1 t2 t3 : Nat} (hd : decode cc pc = .ok (.tableswitch d lo hi #[o0, o1, o2, o3], len)) (hn : hi = lo + 3) (hg : rg i) (hT : (pc : Int) + d = (td : Int)) (h0 : (pc : Int) + o0 = (t0 : Int)) (h1 : (pc : Int) + o1 = (t1 : Int)) (h2 : (pc : Int) + o2 = (t2 : Int)) (h3 : (pc : Int) + o3 = (t3 : Int)) (k0 : i = lo + 0 → VW C t0 lv st u c z) (k1 : i = lo + 1 → VW C t1 lv st u c z) (k2 : i = lo + 2 → VW C t2 lv st u c z) (k3 : i = lo + 3 → VW C t3 lv st u c z) (kd : (i < lo ∨ hi < i) → VW C td lv st u c z) : VW C pc lv (xI i :: st) u c z := by
  by_cases q0 : i = lo + 0
  · exact r_tableIn hC hd hg (by omega) (by omega) (by rw [show (i - lo).toNat = 0 by omega]; rfl) h0 (k0 q0)
  by_cases q1 : i = lo + 1
  · exact r_tableIn hC hd hg (by omega) (by omega) (by rw [show (i - lo).toNat = 1 by omega]; rfl) h1 (k1 q1)
  by_cases q2 : i = lo + 2
  · exact r_tableIn hC hd hg (by omega) (by omega) (by rw [show (i - lo).toNat = 2 by omega]; rfl) h2 (k2 q2)
  by_cases q3 : i = lo + 3
  · exact r_tableIn hC hd hg (by omega) (by omega) (by rw [show (i - lo).toNat = 3 by omega]; rfl) h3 (k3 q3)
  exact r_tableOut hC hd hg (by omega) hT (kd (by omega))
theorem r_tb5 (hC : CxOK C cc own R nL) {d lo hi o0 o1 o2 o3 o4 i : Int} {len td t0 t1 t2 t3 t4 : Nat} (hd : decode cc pc = .ok (.tableswitch d lo hi #[o0, o1, o2, o3, o4], len)) (hn : hi = lo + 4) (hg : rg i) (hT : (pc : Int) + d = (td : Int)) (h0 : (pc : Int) + o0 = (t0 : Int)) (h1 : (pc : Int) + o1 = (t1 : Int)) (h2 : (pc : Int) + o2 = (t2 : Int)) (h3 : (pc : Int) + o3 = (t3 : Int)) (h4 : (pc : Int) + o4 = (t4 : Int)) (k0 : i = lo + 0 → VW C t0 lv st u c z) (k1 : i = lo + 1 → VW C t1 lv st u c z) (k2 : i = lo + 2 → VW C t2 lv st u c z) (k3 : i = lo + 3 → VW C t3 lv st u c z) (k4 : i = lo + 4 → VW C t4 lv st u c z) (kd : (i < lo ∨ hi < i) → VW C td lv st u c z) : VW C pc lv (xI i :: st) u c z := by
  by_cases q0 : i = lo + 0
  · exact r_tableIn hC hd hg (by omega) (by omega) (by rw [show (i - lo).toNat = 0 by omega]; rfl) h0 (k0 q0)
  by_cases q1 : i = lo + 1
  · exact r_tableIn hC hd hg (by omega) (by omega) (by rw [show (i - lo).toNat = 1 by omega]; rfl) h1 (k1 q1)
  by_cases q2 : i = lo + 2
  · exact r_tableIn hC hd hg (by omega) (by omega) (by rw [show (i - lo).toNat = 2 by omega]; rfl) h2 (k2 q2)
  by_cases q3 : i = lo + 3
  · exact r_tableIn hC hd hg (by omega) (by omega) (by rw [show (i - lo).toNat = 3 by omega]; rfl) h3 (k3 q3)
  by_cases q4 : i = lo + 4
  · exact r_tableIn hC hd hg (by omega) (by omega) (by rw [show (i - lo).toNat = 4 by omega]; rfl) h4 (k4 q4)
  exact r_tableOut hC hd hg (by omega) hT (kd (by omega))
theorem r_tb7 (hC : CxOK C cc own R nL) {d lo hi o0 o1 o2 o3 o4 o5 o6 i : Int} {len td t0 t1 t2 t3 t4 t5 t6 : Nat} (hd : decode cc pc = .ok (.tableswitch d lo hi #[o0, o1, o2, o3, o4, o5, o6], len)) (hn : hi = lo + 6) (hg : rg i) (hT : (pc : Int) + d = (td : Int)) (h0 : (pc : Int) + o0 = (t0 : Int)) (h1 : (pc : Int) + o1 = (t1 : Int)) (h2 : (pc : Int) + o2 = (t2 : Int)) (h3 : (pc : Int) + o3 = (t3 : Int)) (h4 : (pc : Int) + o4 = (t4 : Int)) (h5 : (pc : Int) + o5 = (t5 : Int)) (h6 : (pc : Int) + o6 = (t6 : Int)) (k0 : i = lo + 0 → VW C t0 lv st u c z) (k1 : i = lo + 1 → VW C t1 lv st u c z) (k2 : i = lo + 2 → VW C t2 lv st u c z) (k3 : i = lo + 3 → VW C t3 lv st u c z) (k4 : i = lo + 4 → VW C t4 lv st u c z) (k5 : i = lo + 5 → VW C t5 lv st u c z) (k6 : i = lo + 6 → VW C t6 lv st u c z) (kd : (i < lo ∨ hi < i) → VW C td lv st u c z) : VW C pc lv (xI i :: st) u c z := by
  by_cases q0 : i = lo + 0
  · exact r_tableIn hC hd hg (by omega) (by omega) (by rw [show (i - lo).toNat = 0 by omega]; rfl) h0 (k0 q0)
  by_cases q1 : i = lo + 1
  · exact r_tableIn hC hd hg (by omega) (by omega) (by rw [show (i - lo).toNat = 1 by omega]; rfl) h1 (k1 q1)
  by_cases q2 : i = lo + 2
  · exact r_tableIn hC hd hg (by omega) (by omega) (by rw [show (i - lo).toNat = 2 by omega]; rfl) h2 (k2 q2)
  by_cases q3 : i = lo + 3
  · exact r_tableIn hC hd hg (by omega) (by omega) (by rw [show (i - lo).toNat = 3 by omega]; rfl) h3 (k3 q3)
  by_cases q4 : i = lo + 4
  · exact r_tableIn hC hd hg (by omega) (by omega) (by rw [show (i - lo).toNat = 4 by omega]; rfl) h4 (k4 q4)
  by_cases q5 : i = lo + 5
  · exact r_tableIn hC hd hg (by omega) (by omega) (by rw [show (i - lo).toNat = 5 by omega]; rfl) h5 (k5 q5)
  by_cases q6 : i = lo + 6
  · exact r_tableIn hC hd hg (by omega) (by omega) (by rw [show (i - lo).toNat = 6 by omega]; rfl) h6 (k6 q6)
  exact r_tableOut hC hd hg (by omega) hT (kd (by omega))
theorem r_tb8 (hC : CxOK C cc own R nL) {d lo hi o0 o1 o2 o3 o4 o5 o6 o7 i : Int} {len td t0 t1 t2 t3 t4 t5 t6 t7 : Nat} (hd : decode cc pc = .ok (.tableswitch d lo hi #[o0, o1, o2, o3, o4, o5, o6, o7], len)) (hn : hi = lo + 7) (hg : rg i) (hT : (pc : Int) + d = (td : Int)) (h0 : (pc : Int) + o0 = (t0 : Int)) (h1 : (pc : Int) + o1 = (t1 : Int)) (h2 : (pc : Int) + o2 = (t2 : Int)) (h3 : (pc : Int) + o3 = (t3 : Int)) (h4 : (pc : Int) + o4 = (t4 : Int)) (h5 : (pc : Int) + o5 = (t5 : Int)) (h6 : (pc : Int) + o6 = (t6 : Int)) (h7 : (pc : Int) + o7 = (t7 : Int)) (k0 : i = lo + 0 → VW C t0 lv st u c z) (k1 : i = lo + 1 → VW C t1 lv st u c z) (k2 : i = lo + 2 → VW C t2 lv st u c z) (k3 : i = lo + 3 → VW C t3 lv st u c z) (k4 : i = lo + 4 → VW C t4 lv st u c z) (k5 : i = lo + 5 → VW C t5 lv st u c z) (k6 : i = lo + 6 → VW C t6 lv st u c z) (k7 : i = lo + 7 → VW C t7 lv st u c z) (kd : (i < lo ∨ hi < i) → VW C td lv st u c z) : VW C pc lv (xI i :: st) u c z := by
  by_cases q0 : i = lo + 0
  · exact r_tableIn hC hd hg (by omega) (by omega) (by rw [show (i - lo).toNat = 0 by omega]; rfl) h0 (k0 q0)
  by_cases q1 : i = lo + 1
  · exact r_tableIn hC hd hg (by omega) (by omega) (by rw [show (i - lo).toNat = 1 by omega]; rfl) h1 (k1 q1)
  by_cases q2 : i = lo + 2
  · exact r_tableIn hC hd hg (by omega) (by omega) (by rw [show (i - lo).toNat = 2 by omega]; rfl) h2 (k2 q2)
  by_cases q3 : i = lo + 3
  · exact r_tableIn hC hd hg (by omega) (by omega) (by rw [show (i - lo).toNat = 3 by omega]; rfl) h3 (k3 q3)
  by_cases q4 : i = lo + 4
  · exact r_tableIn hC hd hg (by omega) (by omega) (by rw [show (i - lo).toNat = 4 by omega]; rfl) h4 (k4 q4)
  by_cases q5 : i = lo + 5
  · exact r_tableIn hC hd hg (by omega) (by omega) (by rw [show (i - lo).toNat = 5 by omega]; rfl) h5 (k5 q5)
  by_cases q6 : i = lo + 6
  · exact r_tableIn hC hd hg (by omega) (by omega) (by rw [show (i - lo).toNat = 6 by omega]; rfl) h6 (k6 q6)
  by_cases q7 : i = lo + 7
  · exact r_tableIn hC hd hg (by omega) (by omega) (by rw [show (i - lo).toNat = 7 by omega]; rfl) h7 (k7 q7)
  exact r_tableOut hC hd hg (by omega) hT (kd (by omega))
theorem r_tb9 (hC : CxOK C cc own R nL) {d lo hi o0 o1 o2 o3 o4 o5 o6 o7 o8 i : Int} {len td t0 t1 t2 t3 t4 t5 t6 t7 t8 : Nat} (hd : decode cc pc = .ok (.tableswitch d lo hi #[o0, o1, o2, o3, o4, o5, o6, o7, o8], len)) (hn : hi = lo + 8) (hg : rg i) (hT : (pc : Int) + d = (td : Int)) (h0 : (pc : Int) + o0 = (t0 : Int)) (h1 : (pc : Int) + o1 = (t1 : Int)) (h2 : (pc : Int) + o2 = (t2 : Int)) (h3 : (pc : Int) + o3 = (t3 : Int)) (h4 : (pc : Int) + o4 = (t4 : Int)) (h5 : (pc : Int) + o5 = (t5 : Int)) (h6 : (pc : Int) + o6 = (t6 : Int)) (h7 : (pc : Int) + o7 = (t7 : Int)) (h8 : (pc : Int) + o8 = (t8 : Int)) (k0 : i = lo + 0 → VW C t0 lv st u c z) (k1 : i = lo + 1 → VW C t1 lv st u c z) (k2 : i = lo + 2 → VW C t2 lv st u c z) (k3 : i = lo + 3 → VW C t3 lv st u c z) (k4 : i = lo + 4 → VW C t4 lv st u c z) (k5 : i = lo + 5 → VW C t5 lv st u c z) (k6 : i = lo + 6 → VW C t6 lv st u c z) (k7 : i = lo + 7 → VW C t7 lv st u c z) (k8 : i = lo + 8 → VW C t8 lv st u c z) (kd : (i < lo ∨ hi < i) → VW C td lv st u c z) : VW C pc lv (xI i :: st) u c z := by
  by_cases q0 : i = lo + 0
  · exact r_tableIn hC hd hg (by omega) (by omega) (by rw [show (i - lo).toNat = 0 by omega]; rfl) h0 (k0 q0)
  by_cases q1 : i = lo + 1
  · exact r_tableIn hC hd hg (by omega) (by omega) (by rw [show (i - lo).toNat = 1 by omega]; rfl) h1 (k1 q1)
  by_cases q2 : i = lo + 2
  · exact r_tableIn hC hd hg (by omega) (by omega) (by rw [show (i - lo).toNat = 2 by omega]; rfl) h2 (k2 q2)
  by_cases q3 : i = lo + 3
  · exact r_tableIn hC hd hg (by omega) (by omega) (by rw [show (i - lo).toNat = 3 by omega]; rfl) h3 (k3 q3)
  by_cases q4 : i = lo + 4
  · exact r_tableIn hC hd hg (by omega) (by omega) (by rw [show (i - lo).toNat = 4 by omega]; rfl) h4 (k4 q4)
  by_cases q5 : i = lo + 5
  · exact r_tableIn hC hd hg (by omega) (by omega) (by rw [show (i - lo).toNat = 5 by omega]; rfl) h5 (k5 q5)
  by_cases q6 : i = lo + 6
  · exact r_tableIn hC hd hg (by omega) (by omega) (by rw [show (i - lo).toNat = 6 by omega]; rfl) h6 (k6 q6)
  by_cases q7 : i = lo + 7
  · exact r_tableIn hC hd hg (by omega) (by omega) (by rw [show (i - lo).toNat = 7 by omega]; rfl) h7 (k7 q7)
  by_cases q8 : i = lo + 8
  · exact r_tableIn hC hd hg (by omega) (by omega) (by rw [show (i - lo).toNat = 8 by omega]; rfl) h8 (k8 q8)
  exact r_tableOut hC hd hg (by omega) hT (kd (by omega))
theorem r_tb10 (hC : CxOK C cc own R nL) {d lo hi o0 o1 o2 o3 o4 o5 o6 o7 o8 o9 i : Int} {len td t0 t1 t2 t3 t4 t5 t6 t7 t8 t9 : Nat} (hd : decode cc pc = .ok (.tableswitch d lo hi #[o0, o1, o2, o3, o4, o5, o6, o7, o8, o9], len)) (hn : hi = lo + 9) (hg : rg i) (hT : (pc : Int) + d = (td : Int)) (h0 : (pc : Int) + o0 = (t0 : Int)) (h1 : (pc : Int) + o1 = (t1 : Int)) (h2 : (pc : Int) + o2 = (t2 : Int)) (h3 : (pc : Int) + o3 = (t3 : Int)) (h4 : (pc : Int) + o4 = (t4 : Int)) (h5 : (pc : Int) + o5 = (t5 : Int)) (h6 : (pc : Int) + o6 = (t6 : Int)) (h7 : (pc : Int) + o7 = (t7 : Int)) (h8 : (pc : Int) + o8 = (t8 : Int)) (h9 : (pc : Int) + o9 = (t9 : Int)) (k0 : i = lo + 0 → VW C t0 lv st u c z) (k1 : i = lo + 1 → VW C t1 lv st u c z) (k2 : i = lo + 2 → VW C t2 lv st u c z) (k3 : i = lo + 3 → VW C t3 lv st u c z) (k4 : i = lo + 4 → VW C t4 lv st u c z) (k5 : i = lo + 5 → VW C t5 lv st u c z) (k6 : i = lo + 6 → VW C t6 lv st u c z) (k7 : i = lo + 7 → VW C t7 lv st u c z) (k8 : i = lo + 8 → VW C t8 lv st u c z) (k9 : i = lo + 9 → VW C t9 lv st u c z) (kd : (i < lo ∨ hi < i) → VW C td lv st u c z) : VW C pc lv (xI i :: st) u c z := by
  by_cases q0 : i = lo + 0
  · exact r_tableIn hC hd hg (by omega) (by omega) (by rw [show (i - lo).toNat = 0 by omega]; rfl) h0 (k0 q0)
  by_cases q1 : i = lo + 1
  · exact r_tableIn hC hd hg (by omega) (by omega) (by rw [show (i - lo).toNat = 1 by omega]; rfl) h1 (k1 q1)
  by_cases q2 : i = lo + 2
  · exact r_tableIn hC hd hg (by omega) (by omega) (by rw [show (i - lo).toNat = 2 by omega]; rfl) h2 (k2 q2)
  by_cases q3 : i = lo + 3
  · exact r_tableIn hC hd hg (by omega) (by omega) (by rw [show (i - lo).toNat = 3 by omega]; rfl) h3 (k3 q3)
  by_cases q4 : i = lo + 4
  · exact r_tableIn hC hd hg (by omega) (by omega) (by rw [show (i - lo).toNat = 4 by omega]; rfl) h4 (k4 q4)
  by_cases q5 : i = lo + 5
  · exact r_tableIn hC hd hg (by omega) (by omega) (by rw [show (i - lo).toNat = 5 by omega]; rfl) h5 (k5 q5)
  by_cases q6 : i = lo + 6
  · exact r_tableIn hC hd hg (by omega) (by omega) (by rw [show (i - lo).toNat = 6 by omega]; rfl) h6 (k6 q6)
  by_cases q7 : i = lo + 7
  · exact r_tableIn hC hd hg (by omega) (by omega) (by rw [show (i - lo).toNat = 7 by omega]; rfl) h7 (k7 q7)
  by_cases q8 : i = lo + 8
  · exact r_tableIn hC hd hg (by omega) (by omega) (by rw [show (i - lo).toNat = 8 by omega]; rfl) h8 (k8 q8)
  by_cases q9 : i = lo + 9
  · exact r_tableIn hC hd hg (by omega) (by omega) (by rw [show (i - lo).toNat = 9 by omega]; rfl) h9 (k9 q9)
  exact r_tableOut hC hd hg (by omega) hT (kd (by omega))
theorem r_tb12 (hC : CxOK C cc own R nL) {d lo hi o0 o1 o2 o3 o4 o5 o6 o7 o8 o9 o10 o11 i : Int} {len td t0 t1 t2 t3 t4 t5 t6 t7 t8 t9 t10 t11 : Nat} (hd : decode cc pc = .ok (.tableswitch d lo hi #[o0, o1, o2, o3, o4, o5, o6, o7, o8, o9, o10, o11], len)) (hn : hi = lo + 11) (hg : rg i) (hT : (pc : Int) + d = (td : Int)) (h0 : (pc : Int) + o0 = (t0 : Int)) (h1 : (pc : Int) + o1 = (t1 : Int)) (h2 : (pc : Int) + o2 = (t2 : Int)) (h3 : (pc : Int) + o3 = (t3 : Int)) (h4 : (pc : Int) + o4 = (t4 : Int)) (h5 : (pc : Int) + o5 = (t5 : Int)) (h6 : (pc : Int) + o6 = (t6 : Int)) (h7 : (pc : Int) + o7 = (t7 : Int)) (h8 : (pc : Int) + o8 = (t8 : Int)) (h9 : (pc : Int) + o9 = (t9 : Int)) (h10 : (pc : Int) + o10 = (t10 : Int)) (h11 : (pc : Int) + o11 = (t11 : Int)) (k0 : i = lo + 0 → VW C t0 lv st u c z) (k1 : i = lo + 1 → VW C t1 lv st u c z) (k2 : i = lo + 2 → VW C t2 lv st u c z) (k3 : i = lo + 3 → VW C t3 lv st u c z) (k4 : i = lo + 4 → VW C t4 lv st u c z) (k5 : i = lo + 5 → VW C t5 lv st u c z) (k6 : i = lo + 6 → VW C t6 lv st u c z) (k7 : i = lo + 7 → VW C t7 lv st u c z) (k8 : i = lo + 8 → VW C t8 lv st u c z) (k9 : i = lo + 9 → VW C t9 lv st u c z) (k10 : i = lo + 10 → VW C t10 lv st u c z) (k11 : i = lo + 11 → VW C t11 lv st u c z) (kd : (i < lo ∨ hi < i) → VW C td lv st u c z) : VW C pc lv (xI i :: st) u c z := by
  by_cases q0 : i = lo + 0
  · exact r_tableIn hC hd hg (by omega) (by omega) (by rw [show (i - lo).toNat = 0 by omega]; rfl) h0 (k0 q0)
  by_cases q1 : i = lo + 1
  · exact r_tableIn hC hd hg (by omega) (by omega) (by rw [show (i - lo).toNat = 1 by omega]; rfl) h1 (k1 q1)
  by_cases q2 : i = lo + 2
  · exact r_tableIn hC hd hg (by omega) (by omega) (by rw [show (i - lo).toNat = 2 by omega]; rfl) h2 (k2 q2)
  by_cases q3 : i = lo + 3
  · exact r_tableIn hC hd hg (by omega) (by omega) (by rw [show (i - lo).toNat = 3 by omega]; rfl) h3 (k3 q3)
  by_cases q4 : i = lo + 4
  · exact r_tableIn hC hd hg (by omega) (by omega) (by rw [show (i - lo).toNat = 4 by omega]; rfl) h4 (k4 q4)
  by_cases q5 : i = lo + 5
  · exact r_tableIn hC hd hg (by omega) (by omega) (by rw [show (i - lo).toNat = 5 by omega]; rfl) h5 (k5 q5)
  by_cases q6 : i = lo + 6
  · exact r_tableIn hC hd hg (by omega) (by omega) (by rw [show (i - lo).toNat = 6 by omega]; rfl) h6 (k6 q6)
  by_cases q7 : i = lo + 7
  · exact r_tableIn hC hd hg (by omega) (by omega) (by rw [show (i - lo).toNat = 7 by omega]; rfl) h7 (k7 q7)
  by_cases q8 : i = lo + 8
  · exact r_tableIn hC hd hg (by omega) (by omega) (by rw [show (i - lo).toNat = 8 by omega]; rfl) h8 (k8 q8)
  by_cases q9 : i = lo + 9
  · exact r_tableIn hC hd hg (by omega) (by omega) (by rw [show (i - lo).toNat = 9 by omega]; rfl) h9 (k9 q9)
  by_cases q10 : i = lo + 10
  · exact r_tableIn hC hd hg (by omega) (by omega) (by rw [show (i - lo).toNat = 10 by omega]; rfl) h10 (k10 q10)
  by_cases q11 : i = lo + 11
  · exact r_tableIn hC hd hg (by omega) (by omega) (by rw [show (i - lo).toNat = 11 by omega]; rfl) h11 (k11 q11)
  exact r_tableOut hC hd hg (by omega) hT (kd (by omega))
theorem r_tb14 (hC : CxOK C cc own R nL) {d lo hi o0 o1 o2 o3 o4 o5 o6 o7 o8 o9 o10 o11 o12 o13 i : Int} {len td t0 t1 t2 t3 t4 t5 t6 t7 t8 t9 t10 t11 t12 t13 : Nat} (hd : decode cc pc = .ok (.tableswitch d lo hi #[o0, o1, o2, o3, o4, o5, o6, o7, o8, o9, o10, o11, o12, o13], len)) (hn : hi = lo + 13) (hg : rg i) (hT : (pc : Int) + d = (td : Int)) (h0 : (pc : Int) + o0 = (t0 : Int)) (h1 : (pc : Int) + o1 = (t1 : Int)) (h2 : (pc : Int) + o2 = (t2 : Int)) (h3 : (pc : Int) + o3 = (t3 : Int)) (h4 : (pc : Int) + o4 = (t4 : Int)) (h5 : (pc : Int) + o5 = (t5 : Int)) (h6 : (pc : Int) + o6 = (t6 : Int)) (h7 : (pc : Int) + o7 = (t7 : Int)) (h8 : (pc : Int) + o8 = (t8 : Int)) (h9 : (pc : Int) + o9 = (t9 : Int)) (h10 : (pc : Int) + o10 = (t10 : Int)) (h11 : (pc : Int) + o11 = (t11 : Int)) (h12 : (pc : Int) + o12 = (t12 : Int)) (h13 : (pc : Int) + o13 = (t13 : Int)) (k0 : i = lo + 0 → VW C t0 lv st u c z) (k1 : i = lo + 1 → VW C t1 lv st u c z) (k2 : i = lo + 2 → VW C t2 lv st u c z) (k3 : i = lo + 3 → VW C t3 lv st u c z) (k4 : i = lo + 4 → VW C t4 lv st u c z) (k5 : i = lo + 5 → VW C t5 lv st u c z) (k6 : i = lo + 6 → VW C t6 lv st u c z) (k7 : i = lo + 7 → VW C t7 lv st u c z) (k8 : i = lo + 8 → VW C t8 lv st u c z) (k9 : i = lo + 9 → VW C t9 lv st u c z) (k10 : i = lo + 10 → VW C t10 lv st u c z) (k11 : i = lo + 11 → VW C t11 lv st u c z) (k12 : i = lo + 12 → VW C t12 lv st u c z) (k13 : i = lo + 13 → VW C t13 lv st u c z) (kd : (i < lo ∨ hi < i) → VW C td lv st u c z) : VW C pc lv (xI i :: st) u c z := by
  by_cases q0 : i = lo + 0
  · exact r_tableIn hC hd hg (by omega) (by omega) (by rw [show (i - lo).toNat = 0 by omega]; rfl) h0 (k0 q0)
  by_cases q1 : i = lo + 1
  · exact r_tableIn hC hd hg (by omega) (by omega) (by rw [show (i - lo).toNat = 1 by omega]; rfl) h1 (k1 q1)
  by_cases q2 : i = lo + 2
  · exact r_tableIn hC hd hg (by omega) (by omega) (by rw [show (i - lo).toNat = 2 by omega]; rfl) h2 (k2 q2)
  by_cases q3 : i = lo + 3
  · exact r_tableIn hC hd hg (by omega) (by omega) (by rw [show (i - lo).toNat = 3 by omega]; rfl) h3 (k3 q3)
  by_cases q4 : i = lo + 4
  · exact r_tableIn hC hd hg (by omega) (by omega) (by rw [show (i - lo).toNat = 4 by omega]; rfl) h4 (k4 q4)
  by_cases q5 : i = lo + 5
  · exact r_tableIn hC hd hg (by omega) (by omega) (by rw [show (i - lo).toNat = 5 by omega]; rfl) h5 (k5 q5)
  by_cases q6 : i = lo + 6
  · exact r_tableIn hC hd hg (by omega) (by omega) (by rw [show (i - lo).toNat = 6 by omega]; rfl) h6 (k6 q6)
  by_cases q7 : i = lo + 7
  · exact r_tableIn hC hd hg (by omega) (by omega) (by rw [show (i - lo).toNat = 7 by omega]; rfl) h7 (k7 q7)
  by_cases q8 : i = lo + 8
  · exact r_tableIn hC hd hg (by omega) (by omega) (by rw [show (i - lo).toNat = 8 by omega]; rfl) h8 (k8 q8)
  by_cases q9 : i = lo + 9
  · exact r_tableIn hC hd hg (by omega) (by omega) (by rw [show (i - lo).toNat = 9 by omega]; rfl) h9 (k9 q9)
  by_cases q10 : i = lo + 10
  · exact r_tableIn hC hd hg (by omega) (by omega) (by rw [show (i - lo).toNat = 10 by omega]; rfl) h10 (k10 q10)
  by_cases q11 : i = lo + 11
  · exact r_tableIn hC hd hg (by omega) (by omega) (by rw [show (i - lo).toNat = 11 by omega]; rfl) h11 (k11 q11)
  by_cases q12 : i = lo + 12
  · exact r_tableIn hC hd hg (by omega) (by omega) (by rw [show (i - lo).toNat = 12 by omega]; rfl) h12 (k12 q12)
  by_cases q13 : i = lo + 13
  · exact r_tableIn hC hd hg (by omega) (by omega) (by rw [show (i - lo).toNat = 13 by omega]; rfl) h13 (k13 q13)
  exact r_tableOut hC hd hg (by omega) hT (kd (by omega))
theorem r_tb29 (hC : CxOK C cc own R nL) {d lo hi o0 o1 o2 o3 o4 o5 o6 o7 o8 o9 o10 o11 o12 o13 o14 o15 o16 o17 o18 o19 o20 o21 o22 o23 o24 o25 o26 o27 o28 i : Int} {len td t0 t1 t2 t3 t4 t5 t6 t7 t8 t9 t10 t11 t12 t13 t14 t15 t16 t17 t18 t19 t20 t21 t22 t23 t24 t25 t26 t27 t28 : Nat} (hd : decode cc pc = .ok (.tableswitch d lo hi #[o0, o1, o2, o3, o4, o5, o6, o7, o8, o9, o10, o11, o12, o13, o14, o15, o16, o17, o18, o19, o20, o21, o22, o23, o24, o25, o26, o27, o28], len)) (hn : hi = lo + 28) (hg : rg i) (hT : (pc : Int) + d = (td : Int)) (h0 : (pc : Int) + o0 = (t0 : Int)) (h1 : (pc : Int) + o1 = (t1 : Int)) (h2 : (pc : Int) + o2 = (t2 : Int)) (h3 : (pc : Int) + o3 = (t3 : Int)) (h4 : (pc : Int) + o4 = (t4 : Int)) (h5 : (pc : Int) + o5 = (t5 : Int)) (h6 : (pc : Int) + o6 = (t6 : Int)) (h7 : (pc : Int) + o7 = (t7 : Int)) (h8 : (pc : Int) + o8 = (t8 : Int)) (h9 : (pc : Int) + o9 = (t9 : Int)) (h10 : (pc : Int) + o10 = (t10 : Int)) (h11 : (pc : Int) + o11 = (t11 : Int)) (h12 : (pc : Int) + o12 = (t12 : Int)) (h13 : (pc : Int) + o13 = (t13 : Int)) (h14 : (pc : Int) + o14 = (t14 : Int)) (h15 : (pc : Int) + o15 = (t15 : Int)) (h16 : (pc : Int) + o16 = (t16 : Int)) (h17 : (pc : Int) + o17 = (t17 : Int)) (h18 : (pc : Int) + o18 = (t18 : Int)) (h19 : (pc : Int) + o19 = (t19 : Int)) (h20 : (pc : Int) + o20 = (t20 : Int)) (h21 : (pc : Int) + o21 = (t21 : Int)) (h22 : (pc : Int) + o22 = (t22 : Int)) (h23 : (pc : Int) + o23 = (t23 : Int)) (h24 : (pc : Int) + o24 = (t24 : Int)) (h25 : (pc : Int) + o25 = (t25 : Int)) (h26 : (pc : Int) + o26 = (t26 : Int)) (h27 : (pc : Int) + o27 = (t27 : Int)) (h28 : (pc : Int) + o28 = (t28 : Int)) (k0 : i = lo + 0 → VW C t0 lv st u c z) (k1 : i = lo + 1 → VW C t1 lv st u c z) (k2 : i = lo + 2 → VW C t2 lv st u c z) (k3 : i = lo + 3 → VW C t3 lv st u c z) (k4 : i = lo + 4 → VW C t4 lv st u c z) (k5 : i = lo + 5 → VW C t5 lv st u c z) (k6 : i = lo + 6 → VW C t6 lv st u c z) (k7 : i = lo + 7 → VW C t7 lv st u c z) (k8 : i = lo + 8 → VW C t8 lv st u c z) (k9 : i = lo + 9 → VW C t9 lv st u c z) (k10 : i = lo + 10 → VW C t10 lv st u c z) (k11 : i = lo + 11 → VW C t11 lv st u c z) (k12 : i = lo + 12 → VW C t12 lv st u c z) (k13 : i = lo + 13 → VW C t13 lv st u c z) (k14 : i = lo + 14 → VW C t14 lv st u c z) (k15 : i = lo + 15 → VW C t15 lv st u c z) (k16 : i = lo + 16 → VW C t16 lv st u c z) (k17 : i = lo + 17 → VW C t17 lv st u c z) (k18 : i = lo + 18 → VW C t18 lv st u c z) (k19 : i = lo + 19 → VW C t19 lv st u c z) (k20 : i = lo + 20 → VW C t20 lv st u c z) (k21 : i = lo + 21 → VW C t21 lv st u c z) (k22 : i = lo + 22 → VW C t22 lv st u c z) (k23 : i = lo + 23 → VW C t23 lv st u c z) (k24 : i = lo + 24 → VW C t24 lv st u c z) (k25 : i = lo + 25 → VW C t25 lv st u c z) (k26 : i = lo + 26 → VW C t26 lv st u c z) (k27 : i = lo + 27 → VW C t27 lv st u c z) (k28 : i = lo + 28 → VW C t28 lv st u c z) (kd : (i < lo ∨ hi < i) → VW C td lv st u c z) : VW C pc lv (xI i :: st) u c z := by
  by_cases q0 : i = lo + 0
  · exact r_tableIn hC hd hg (by omega) (by omega) (by rw [show (i - lo).toNat = 0 by omega]; rfl) h0 (k0 q0)
  by_cases q1 : i = lo + 1
  · exact r_tableIn hC hd hg (by omega) (by omega) (by rw [show (i - lo).toNat = 1 by omega]; rfl) h1 (k1 q1)
  by_cases q2 : i = lo + 2
  · exact r_tableIn hC hd hg (by omega) (by omega) (by rw [show (i - lo).toNat = 2 by omega]; rfl) h2 (k2 q2)
  by_cases q3 : i = lo + 3
  · exact r_tableIn hC hd hg (by omega) (by omega) (by rw [show (i - lo).toNat = 3 by omega]; rfl) h3 (k3 q3)
  by_cases q4 : i = lo + 4
  · exact r_tableIn hC hd hg (by omega) (by omega) (by rw [show (i - lo).toNat = 4 by omega]; rfl) h4 (k4 q4)
  by_cases q5 : i = lo + 5
  · exact r_tableIn hC hd hg (by omega) (by omega) (by rw [show (i - lo).toNat = 5 by omega]; rfl) h5 (k5 q5)
  by_cases q6 : i = lo + 6
  · exact r_tableIn hC hd hg (by omega) (by omega) (by rw [show (i - lo).toNat = 6 by omega]; rfl) h6 (k6 q6)
  by_cases q7 : i = lo + 7
  · exact r_tableIn hC hd hg (by omega) (by omega) (by rw [show (i - lo).toNat = 7 by omega]; rfl) h7 (k7 q7)
  by_cases q8 : i = lo + 8
  · exact r_tableIn hC hd hg (by omega) (by omega) (by rw [show (i - lo).toNat = 8 by omega]; rfl) h8 (k8 q8)
  by_cases q9 : i = lo + 9
  · exact r_tableIn hC hd hg (by omega) (by omega) (by rw [show (i - lo).toNat = 9 by omega]; rfl) h9 (k9 q9)
  by_cases q10 : i = lo + 10
  · exact r_tableIn hC hd hg (by omega) (by omega) (by rw [show (i - lo).toNat = 10 by omega]; rfl) h10 (k10 q10)
  by_cases q11 : i = lo + 11
  · exact r_tableIn hC hd hg (by omega) (by omega) (by rw [show (i - lo).toNat = 11 by omega]; rfl) h11 (k11 q11)
  by_cases q12 : i = lo + 12
  · exact r_tableIn hC hd hg (by omega) (by omega) (by rw [show (i - lo).toNat = 12 by omega]; rfl) h12 (k12 q12)
  by_cases q13 : i = lo + 13
  · exact r_tableIn hC hd hg (by omega) (by omega) (by rw [show (i - lo).toNat = 13 by omega]; rfl) h13 (k13 q13)
  by_cases q14 : i = lo + 14
  · exact r_tableIn hC hd hg (by omega) (by omega) (by rw [show (i - lo).toNat = 14 by omega]; rfl) h14 (k14 q14)
  by_cases q15 : i = lo + 15
  · exact r_tableIn hC hd hg (by omega) (by omega) (by rw [show (i - lo).toNat = 15 by omega]; rfl) h15 (k15 q15)
  by_cases q16 : i = lo + 16
  · exact r_tableIn hC hd hg (by omega) (by omega) (by rw [show (i - lo).toNat = 16 by omega]; rfl) h16 (k16 q16)
  by_cases q17 : i = lo + 17
  · exact r_tableIn hC hd hg (by omega) (by omega) (by rw [show (i - lo).toNat = 17 by omega]; rfl) h17 (k17 q17)
  by_cases q18 : i = lo + 18
  · exact r_tableIn hC hd hg (by omega) (by omega) (by rw [show (i - lo).toNat = 18 by omega]; rfl) h18 (k18 q18)
  by_cases q19 : i = lo + 19
  · exact r_tableIn hC hd hg (by omega) (by omega) (by rw [show (i - lo).toNat = 19 by omega]; rfl) h19 (k19 q19)
  by_cases q20 : i = lo + 20
  · exact r_tableIn hC hd hg (by omega) (by omega) (by rw [show (i - lo).toNat = 20 by omega]; rfl) h20 (k20 q20)
  by_cases q21 : i = lo + 21
  · exact r_tableIn hC hd hg (by omega) (by omega) (by rw [show (i - lo).toNat = 21 by omega]; rfl) h21 (k21 q21)
  by_cases q22 : i = lo + 22
  · exact r_tableIn hC hd hg (by omega) (by omega) (by rw [show (i - lo).toNat = 22 by omega]; rfl) h22 (k22 q22)
  by_cases q23 : i = lo + 23
  · exact r_tableIn hC hd hg (by omega) (by omega) (by rw [show (i - lo).toNat = 23 by omega]; rfl) h23 (k23 q23)
  by_cases q24 : i = lo + 24
  · exact r_tableIn hC hd hg (by omega) (by omega) (by rw [show (i - lo).toNat = 24 by omega]; rfl) h24 (k24 q24)
  by_cases q25 : i = lo + 25
  · exact r_tableIn hC hd hg (by omega) (by omega) (by rw [show (i - lo).toNat = 25 by omega]; rfl) h25 (k25 q25)
  by_cases q26 : i = lo + 26
  · exact r_tableIn hC hd hg (by omega) (by omega) (by rw [show (i - lo).toNat = 26 by omega]; rfl) h26 (k26 q26)
  by_cases q27 : i = lo + 27
  · exact r_tableIn hC hd hg (by omega) (by omega) (by rw [show (i - lo).toNat = 27 by omega]; rfl) h27 (k27 q27)
  by_cases q28 : i = lo + 28
  · exact r_tableIn hC hd hg (by omega) (by omega) (by rw [show (i - lo).toNat = 28 by omega]; rfl) h28 (k28 q28)
  exact r_tableOut hC hd hg (by omega) hT (kd (by omega))
/-! reading the buffer -/
theorem sI_swap (u : Mem) {a b : Nat} (k j v w : Int) (h : a ≠ b) : sI (sI u a k v) b j w = sI (sI u b j w) a k v := by
  unfold sI up2
  simp only [Prod.mk.injEq, true_and, and_true]
  funext x i
  by_cases h1 : x = b ∧ i = j
  · rw [if_pos h1]; by_cases h2 : x = a ∧ i = k
    · exact absurd (h2.1.symm.trans h1.1) h
    · rw [if_neg h2, if_pos h1]
  · rw [if_neg h1]; by_cases h2 : x = a ∧ i = k
    · rw [if_pos h2, if_pos h2]
    · rw [if_neg h2, if_neg h2, if_neg h1]
theorem sI_mI (u : Mem) (a : Nat) (k : Int) : sI u a k (mI u a k) = u := by
  unfold sI up2
  refine Prod.ext rfl (Prod.ext ?_ rfl)
  funext x i
  show (if x = a ∧ i = k then _ else _) = _
  by_cases h1 : x = a ∧ i = k
  · rw [if_pos h1, h1.1, h1.2]; exact mI_ofInt u a k
  · rw [if_neg h1]
/-- the memory with the place `at` and the numbers read -/
def pM (u : Mem) (m : Nat) (a : Int) (N : RW) : Mem := sI (sA u (m + 6) N) m 8 a
theorem pM_at {m : Nat} {a : Int} {N : RW} (ha : rg a) : mI (pM u m a N) m 8 = a := by unfold pM; rw [mI_sI_s, wr_id ha]
theorem pM_get {m : Nat} {a k : Int} {N : RW} (h : k ≠ 8) : mI (pM u m a N) m k = mI u m k := by unfold pM; rw [mI_sI_k _ _ _ _ h, mI_sA_n _ _ (by omega)]
theorem pM_arr {m q : Nat} {a : Int} {N : RW} (h : q ≠ m) (h6 : q ≠ m + 6) : mI (pM u m a N) q = mI u q := by funext j; unfold pM; rw [mI_sI_a _ _ _ _ h, mI_sA_n _ _ h6]
theorem pM_num {m : Nat} {a : Int} {N : RW} (hn : RF N) : mI (pM u m a N) (m + 6) = N := by funext j; unfold pM; rw [mI_sI_a _ _ _ _ (by omega), mI_sA_f u (m + 6) hn]
theorem pM_seta {m : Nat} (a v : Int) (N : RW) : sI (pM u m a N) m 8 v = pM u m v N := by unfold pM; rw [sI_sI]
theorem pM_setn {m : Nat} (a : Int) (N : RW) (i v : Int) : sI (pM u m a N) (m + 6) i v = pM u m a (up N i v) := by
  unfold pM; rw [sI_swap _ _ _ _ _ (by omega), sA_up]
theorem pM_id (u : Mem) (m : Nat) : pM u m (mI u m 8) (mI u (m + 6)) = u := by
  unfold pM
  rw [sA_mI, sI_mI]
end RSWT
end
section
def p_sees (b : RW) (n a lo hi : Int) : Bool := decide (a < n) && decide (lo ≤ b a ∧ b a ≤ hi)
theorem p_sees_lt {b : RW} {n a lo hi : Int} (h : p_sees b n a lo hi = true) : a < n ∧ lo ≤ b a ∧ b a ≤ hi := by
  unfold p_sees at h; simpa using h
def p_tk (b : RW) (n a c : Int) : Int := a + bI (p_sees b n a c c = true)
theorem p_tk_le (b : RW) (n a c : Int) : a ≤ p_tk b n a c ∧ (p_tk b n a c = a ∨ p_tk b n a c ≤ n) := by
  unfold p_tk bI
  by_cases h : p_sees b n a c c = true
  · have := p_sees_lt h; rw [if_pos h]; omega
  · rw [if_neg h]; omega
def p_digit (b : RW) (n a : Int) (N : RW) (p lo hi : Int) : Bool × Int × RW := if p_sees b n a (48 + lo) (48 + hi) = true then (true, a + 1, up N p (b a - 48)) else (false, a, N)
theorem p_digit_ok {b : RW} {n a : Int} {N : RW} (hn : RF N) (p lo hi : Int) : a ≤ (p_digit b n a N p lo hi).2.1 ∧ ((p_digit b n a N p lo hi).2.1 = a ∨ (p_digit b n a N p lo hi).2.1 ≤ n) ∧ RF (p_digit b n a N p lo hi).2.2 := by
  unfold p_digit
  by_cases h : p_sees b n a (48 + lo) (48 + hi) = true
  · have := p_sees_lt h; rw [if_pos h]; exact ⟨by show a ≤ a + 1; omega, Or.inr (by show a + 1 ≤ n; omega), rf_up hn _ _⟩
  · rw [if_neg h]; exact ⟨by show a ≤ a; omega, Or.inl rfl, hn⟩
def p_number (b : RW) (n a : Int) (N : RW) (p lo : Int) : Bool × Int × RW := if (p_digit b n a N p lo 9).1 = true then (if 0 < (p_digit b n a N p lo 9).2.2 p ∧ p_sees b n (p_digit b n a N p lo 9).2.1 48 57 = true then (true, (p_digit b n a N p lo 9).2.1 + 1, up (p_digit b n a N p lo 9).2.2 p (10 * (p_digit b n a N p lo 9).2.2 p + b (p_digit b n a N p lo 9).2.1 - 48)) else (true, (p_digit b n a N p lo 9).2)) else (false, (p_digit b n a N p lo 9).2)
theorem p_number_ok {b : RW} {n a : Int} {N : RW} (hn : RF N) (p lo : Int) : a ≤ (p_number b n a N p lo).2.1 ∧ ((p_number b n a N p lo).2.1 = a ∨ (p_number b n a N p lo).2.1 ≤ n) ∧ RF (p_number b n a N p lo).2.2 := by
  have h1 := p_digit_ok (b := b) (n := n) (a := a) hn p lo 9
  unfold p_number
  split
  · split
    · rename_i q
      have := p_sees_lt q.2
      exact ⟨by show a ≤ _ + 1; omega, Or.inr (by show _ + 1 ≤ n; omega), rf_up h1.2.2 _ _⟩
    · exact h1
  · exact h1
def p_isKind (k : Int) : Bool := decide (k = 98 ∨ k = 119 ∨ k = 99 ∨ k = 100 ∨ k = 116 ∨ k = 115)
def p_reads (b : RW) (n a : Int) (N : RW) (k : Int) : Bool × Int × RW :=
  if k = 119 then
    (if (p_digit b n a N 0 0 3).1 = true then
      (if (p_digit b n (p_digit b n a N 0 0 3).2.1 (p_digit b n a N 0 0 3).2.2 1 0 3).1 = true then
        (if p_sees b n (p_digit b n (p_digit b n a N 0 0 3).2.1 (p_digit b n a N 0 0 3).2.2 1 0 3).2.1 61 61 = true then
          p_number b n (p_tk b n (p_digit b n (p_digit b n a N 0 0 3).2.1 (p_digit b n a N 0 0 3).2.2 1 0 3).2.1 61) (p_digit b n (p_digit b n a N 0 0 3).2.1 (p_digit b n a N 0 0 3).2.2 1 0 3).2.2 2 0
        else (false, p_tk b n (p_digit b n (p_digit b n a N 0 0 3).2.1 (p_digit b n a N 0 0 3).2.2 1 0 3).2.1 61, (p_digit b n (p_digit b n a N 0 0 3).2.1 (p_digit b n a N 0 0 3).2.2 1 0 3).2.2))
      else (false, (p_digit b n (p_digit b n a N 0 0 3).2.1 (p_digit b n a N 0 0 3).2.2 1 0 3).2))
    else (false, (p_digit b n a N 0 0 3).2))
  else if k = 99 ∨ k = 100 then p_digit b n a N 0 0 3
  else if k = 116 then p_number b n a N 0 1
  else (true, a, N)
theorem p_reads_ok {b : RW} {n a : Int} {N : RW} (hn : RF N) (k : Int) : a ≤ (p_reads b n a N k).2.1 ∧ ((p_reads b n a N k).2.1 = a ∨ (p_reads b n a N k).2.1 ≤ n) ∧ RF (p_reads b n a N k).2.2 := by
  have h1 := p_digit_ok (b := b) (n := n) (a := a) hn 0 0 3
  have h2 := p_digit_ok (b := b) (n := n) (a := (p_digit b n a N 0 0 3).2.1) h1.2.2 1 0 3
  have h3 := p_tk_le b n (p_digit b n (p_digit b n a N 0 0 3).2.1 (p_digit b n a N 0 0 3).2.2 1 0 3).2.1 61
  have h4 := p_number_ok (b := b) (n := n) (a := p_tk b n (p_digit b n (p_digit b n a N 0 0 3).2.1 (p_digit b n a N 0 0 3).2.2 1 0 3).2.1 61) h2.2.2 2 0
  have h5 := p_number_ok (b := b) (n := n) (a := a) hn 0 1
  unfold p_reads
  split
  · split
    · split
      · split
        · exact ⟨by omega, by omega, h4.2.2⟩
        · exact ⟨by show a ≤ p_tk b n _ _; omega, by show p_tk b n _ _ = a ∨ p_tk b n _ _ ≤ n; omega, h2.2.2⟩
      · exact ⟨by show a ≤ (p_digit b n _ _ 1 0 3).2.1; omega, by show (p_digit b n _ _ 1 0 3).2.1 = a ∨ (p_digit b n _ _ 1 0 3).2.1 ≤ n; omega, h2.2.2⟩
    · exact h1
  · split
    · exact h1
    · split
      · exact h5
      · exact ⟨by show a ≤ a; omega, Or.inl rfl, hn⟩
def p_kind (b : RW) (n a : Int) : Int := if a < n then b a else 0
def p_order (b : RW) (n a : Int) (N : RW) : Int × Int × RW := if p_isKind (p_kind b n a) = true then (if (p_reads b n (a + 1) N (p_kind b n a)).1 = true then p_kind b n a else 0, (p_reads b n (a + 1) N (p_kind b n a)).2) else (0, a, N)
theorem p_kind_lt {b : RW} {n a : Int} (h : p_isKind (p_kind b n a) = true) : a < n := by
  unfold p_kind at h
  by_cases q : a < n
  · exact q
  · rw [if_neg q] at h; exact absurd h (by decide)
theorem p_order_ok {b : RW} {n a : Int} {N : RW} (hn : RF N) : a ≤ (p_order b n a N).2.1 ∧ ((p_order b n a N).2.1 = a ∨ (p_order b n a N).2.1 ≤ n) ∧ RF (p_order b n a N).2.2 := by
  have h1 := p_reads_ok (b := b) (n := n) (a := a + 1) hn (p_kind b n a)
  unfold p_order
  split
  · rename_i q
    have := p_kind_lt q
    exact ⟨by show a ≤ (p_reads b n (a + 1) N _).2.1; omega, by show (p_reads b n (a + 1) N _).2.1 = a ∨ (p_reads b n (a + 1) N _).2.1 ≤ n; omega, h1.2.2⟩
  · exact ⟨by show a ≤ a; omega, Or.inl rfl, hn⟩
def p_wellL (b : RW) (n : Int) : Nat → Bool × Int × RW → Bool × Int × RW
  | 0, s => s
  | k + 1, s => if s.1 = true ∧ s.2.1 < n then p_wellL b n k (if p_sees b n s.2.1 59 59 = true then (decide ((p_order b n (p_tk b n s.2.1 59) s.2.2).1 ≠ 0), (p_order b n (p_tk b n s.2.1 59) s.2.2).2) else (false, p_tk b n s.2.1 59, s.2.2)) else s
def p_well (b : RW) (n : Int) (N : RW) : Bool × Int × RW := p_wellL b n 60 (decide ((p_order b n 0 N).1 ≠ 0), (p_order b n 0 N).2)
theorem p_wellL_ok {b : RW} {n : Int} (k : Nat) : ∀ s : Bool × Int × RW, RF s.2.2 → 0 ≤ s.2.1 → s.2.1 ≤ n → RF (p_wellL b n k s).2.2 ∧ 0 ≤ (p_wellL b n k s).2.1 ∧ (p_wellL b n k s).2.1 ≤ n := by
  induction k with
  | zero => intro s h1 h2 h3; exact ⟨h1, h2, h3⟩
  | succ k ih =>
    intro s h1 h2 h3
    simp only [p_wellL]
    split
    · have ht := p_tk_le b n s.2.1 59
      have ho := p_order_ok (b := b) (n := n) (a := p_tk b n s.2.1 59) h1
      split
      · exact ih _ ho.2.2 (by show 0 ≤ (p_order b n _ _).2.1; omega) (by show (p_order b n _ _).2.1 ≤ n; omega)
      · exact ih _ h1 (by show 0 ≤ p_tk b n _ _; omega) (by show p_tk b n _ _ ≤ n; omega)
    · exact ⟨h1, h2, h3⟩
theorem p_well_ok {b : RW} {n : Int} {N : RW} (h0 : 0 ≤ n) (hn : RF N) : RF (p_well b n N).2.2 ∧ 0 ≤ (p_well b n N).2.1 ∧ (p_well b n N).2.1 ≤ n := by
  have ho := p_order_ok (b := b) (n := n) (a := 0) hn
  exact p_wellL_ok 60 _ ho.2.2 (by show 0 ≤ (p_order b n 0 N).2.1; omega) (by show (p_order b n 0 N).2.1 ≤ n; omega)
abbrev rmX8_sees : Room := { frames := 1, cells := 0, slots := 0, locals := 22 }
abbrev rmX8_takes : Room := { frames := 2, cells := 0, slots := 0, locals := 44 }
abbrev rmX8_digit : Room := { frames := 2, cells := 0, slots := 0, locals := 44 }
abbrev rmX8_number : Room := { frames := 3, cells := 0, slots := 0, locals := 67 }
abbrev rmX8_isKind : Room := { frames := 0, cells := 0, slots := 0, locals := 0 }
end
section
def m_does (f B N : RW) (k : Int) : RW × RW := if k = 98 then (if m_free f = -1 then f else m_begins f, B) else if k = 119 then (m_writes f (N 0) (N 1) (N 2), B) else if k = 99 then (m_commits f (N 0), B) else if k = 100 then (m_drops f (N 0), B) else if k = 116 then m_pass f B (N 0).toNat else (m_sweeps f, B)
def m_doesC (f B N : RW) (k : Int) : Int := if k = 98 then (if m_free f = -1 then -11 else m_free f) else if k = 119 then m_writesC f (N 0) (N 1) (N 2) else if k = 99 then m_commitsC f (N 0) else if k = 100 then m_dropsC f (N 0) else if k = 116 then m_eff (m_pass f B (N 0).toNat).1 - m_eff f else m_sweepsC f
def DoesOK (f B N : RW) (k : Int) : Prop := (0 ≤ f 2 ∧ f 2 ≤ 200) ∧ (0 ≤ f 3 ∧ f 3 ≤ f 2) ∧ (∀ p, m_open f p = true → 0 ≤ m_its f p 1 ∧ m_its f p 1 ≤ 6) ∧ (k = 116 → 1 ≤ N 0 ∧ N 0 ≤ 99 ∧ PassOK f B (N 0).toNat)
theorem pM_comm (u : Mem) (m : Nat) (a : Int) (N B : RW) : sA (pM u m a N) (m + 7) B = pM (sA u (m + 7) B) m a N := by
  unfold pM
  rw [← sI_sA_comm (sA u (m + 6) N) B 8 a (by omega), sA_comm u N B (by omega)]
abbrev rmX8_does : Room := { frames := 7, cells := 0, slots := 0, locals := 158 }
end
section
theorem p_number_t {b : RW} {n a : Int} {N : RW} (h : (p_number b n a N 0 1).1 = true) : 1 ≤ (p_number b n a N 0 1).2.2 0 ∧ (p_number b n a N 0 1).2.2 0 ≤ 99 := by
  by_cases q1 : p_sees b n a (48 + 1) (48 + 9) = true
  · have e1 : p_digit b n a N 0 1 9 = (true, a + 1, up N 0 (b a - 48)) := by unfold p_digit; rw [if_pos q1]
    have s1 := p_sees_lt q1
    have v1 : (up N 0 (b a - 48)) 0 = b a - 48 := by rw [up_s, wr_id ⟨by omega, by omega⟩]
    unfold p_number
    rw [e1, if_pos rfl]
    by_cases q2 : 0 < (up N 0 (b a - 48)) 0 ∧ p_sees b n (a + 1) 48 57 = true
    · have s2 := p_sees_lt q2.2
      rw [if_pos q2]
      dsimp only
      rw [up_s, v1, wr_id ⟨by omega, by omega⟩]
      omega
    · rw [if_neg q2]
      dsimp only
      rw [v1]; omega
  · have e1 : p_digit b n a N 0 1 9 = (false, a, N) := by unfold p_digit; rw [if_neg q1]
    unfold p_number at h
    rw [e1, if_neg Bool.false_ne_true] at h
    exact absurd h Bool.false_ne_true
theorem p_order_t {b : RW} {n a : Int} {N : RW} (h : (p_order b n a N).1 = 116) : 1 ≤ (p_order b n a N).2.2 0 ∧ (p_order b n a N).2.2 0 ≤ 99 := by
  by_cases q1 : p_isKind (p_kind b n a) = true
  · by_cases q2 : (p_reads b n (a + 1) N (p_kind b n a)).1 = true
    · have e : p_order b n a N = (p_kind b n a, (p_reads b n (a + 1) N (p_kind b n a)).2) := by unfold p_order; rw [if_pos q1, if_pos q2]
      rw [e] at h ⊢
      have hk : p_kind b n a = 116 := h
      have er : p_reads b n (a + 1) N (p_kind b n a) = p_number b n (a + 1) N 0 1 := by rw [hk]; unfold p_reads; rw [if_neg (by decide), if_neg (by decide), if_pos rfl]
      rw [er] at q2
      show 1 ≤ (p_reads b n (a + 1) N (p_kind b n a)).2.2 0 ∧ (p_reads b n (a + 1) N (p_kind b n a)).2.2 0 ≤ 99
      rw [er]
      exact p_number_t q2
    · have e : (p_order b n a N).1 = 0 := by unfold p_order; rw [if_pos q1, if_neg q2]
      omega
  · have e : (p_order b n a N).1 = 0 := by unfold p_order; rw [if_neg q1]
    omega
def p_obeyL (b : RW) (n : Int) : Nat → Bool → Int → Int → RW → RW → RW → Int × Int × RW × RW × RW
  | 0, _, c, a, N, B, f => (c, a, N, B, f)
  | k + 1, g, c, a, N, B, f => if g = true ∧ a < n then p_obeyL b n k (decide (0 ≤ m_doesC f B (p_order b n a N).2.2 (p_order b n a N).1)) (c + bI (0 ≤ m_doesC f B (p_order b n a N).2.2 (p_order b n a N).1)) ((p_order b n a N).2.1 + 1) (p_order b n a N).2.2 (m_does f B (p_order b n a N).2.2 (p_order b n a N).1).2 (m_does f B (p_order b n a N).2.2 (p_order b n a N).1).1 else (c, a, N, B, f)
/-- closed under the doing of orders -/
def ObeyOK (W : RW → RW → Prop) : Prop := ∀ (f B N : RW) (k : Int), W f B → RF N → (k = 116 → 1 ≤ N 0 ∧ N 0 ≤ 99) → DoesOK f B N k ∧ rg (m_doesC f B N k) ∧ W (m_does f B N k).1 (m_does f B N k).2
/-- where the doing of orders ends -/
def m_obey (u : Mem) (m : Nat) (f : RW) : Int × Int × RW × RW × RW := p_obeyL (mI u (m + 5)) (mI u m 7) 61 true 0 0 (p_well (mI u (m + 5)) (mI u m 7) (mI u (m + 6))).2.2 (mI u (m + 7)) f
def m_ob1 (u : Mem) (m : Nat) (f : RW) : Mem := m_sv (pM (sI u m 11 0) m (p_well (mI u (m + 5)) (mI u m 7) (mI u (m + 6))).2.1 (p_well (mI u (m + 5)) (mI u m 7) (mI u (m + 6))).2.2) m f
theorem m_sv_m (u : Mem) (m : Nat) (f : RW) {k : Int} (h : k ≠ 4) : mI (m_sv u m f) m k = mI u m k := by
  unfold m_sv
  rw [mI_sA_n _ _ (by omega), mI_sI_k _ _ _ _ h]
theorem vw_st {C : Cx} {pc : Nat} {lv : LV} {st st' : List SV} {u : Mem} {c z : Nat} (h : st = st') (k : VW C pc lv st' u c z) : VW C pc lv st u c z := h ▸ k
abbrev rmX8_obey : Room := { frames := 8, cells := 0, slots := 0, locals := 179 }
end
section
def m_wh (f : RW) (k r : Int) : Int := if m_mark f k (4 + r) = false then 1 else if m_mark f k (1 + r) = true then 2 else 3
def m_why (f : RW) (k : Int) : Int := if m_ans f k 0 = false then m_wh f k 0 else if m_ans f k 1 = false then m_wh f k 1 else if m_ans f k 2 = false then m_wh f k 2 else 0
abbrev rmX8_why : Room := { frames := 3, cells := 0, slots := 0, locals := 66 }
def m_keptAt (f : RW) : Nat → Int
  | 0 => m_next f (-1)
  | n + 1 => m_next f (m_num f (m_keptAt f n))
theorem m_keptAt_lt (f : RW) (h2 : 0 ≤ f 2) (n : Nat) : m_keptAt f n < f 2 ∨ m_keptAt f n = -1 := by
  cases n with
  | zero => have := m_next_rg f (-1) h2; simp only [m_keptAt]; omega
  | succ n => have := m_next_rg f (m_num f (m_keptAt f n)) h2; simp only [m_keptAt]; omega
abbrev rmX8_keptAt : Room := { frames := 3, cells := 0, slots := 0, locals := 66 }
def q_row (f : RW) (i w : Int) : Int := if ¬ (0 ≤ i ∧ i ≤ m_kept f - 1) then 1 else if ¬ (0 ≤ w ∧ w ≤ 7) then 2 else 0
def m_rowV (f : RW) (k w : Int) : Int := if w = 0 then m_num f k else if w = 1 then m_write f k else if w = 2 then k else if w = 3 then m_topic f k else if w = 4 then m_value f k else if w = 5 then b_and (b_shr (f (97 + 3 * k + 2)) 1) 7 else if w = 6 then m_ansBy f k else m_why f k
abbrev rmX8_row : Room := { frames := 4, cells := 0, slots := 0, locals := 89 }
def m_valsL (f : RW) (p : Int) : Nat → Int
  | 0 => 0
  | k + 1 => m_valsL f p k + m_its f p (2 + 3 * k + 1)
def m_vals (f : RW) (p : Int) : Int := m_valsL f p (m_its f p 1).toNat
abbrev rmX8_valuesAt : Room := { frames := 1, cells := 0, slots := 0, locals := 22 }
def q_trans (p w : Int) : Int := if ¬ (0 ≤ p ∧ p ≤ 3) then 1 else if ¬ (0 ≤ w ∧ w ≤ 2) then 2 else 0
def m_transV (f : RW) (p w : Int) : Int := if m_open f p = false then -1 else if w = 0 then m_its f p 1 else if w = 2 then m_vals f p else if m_its f p 1 = 0 then -1 else m_its f p 4
abbrev rmX8_transaction : Room := { frames := 2, cells := 0, slots := 0, locals := 45 }
def m_shouldL (f : RW) (c : Int) : Nat → Int
  | 0 => 0
  | k + 1 => m_shouldL f c k + (if m_wants f c (m_topic f k) = true ∧ m_num f k ≤ m_of f c 1 then m_value f k else 0)
def m_should (f : RW) (c : Int) : Int := m_shouldL f c (f 2).toNat
def m_onwL (f : RW) (c : Int) : Nat → Int
  | 0 => 0
  | k + 1 => m_onwL f c k + (if m_way f k 1 = c then 1 else 0)
def m_onway (f : RW) (c : Int) : Int := m_onwL f c (f 9).toNat
abbrev rmX8_shouldHave : Room := { frames := 2, cells := 0, slots := 0, locals := 44 }
abbrev rmX8_onWay : Room := { frames := 1, cells := 0, slots := 0, locals := 22 }
end
section
theorem rel_norm {D : DD} {U : State} {u : Mem} {H : Heap} {q n : Nat} {f g : RW} (hs : mSh u q = some (.inr (0, n))) (h : ∀ j : Nat, j < n → wr (f j) = wr (g j)) (hr : Rel D U (sA u q f) H) : Rel D U (sA u q g) H := by
  obtain ⟨_, hn, hle, hH⟩ := hr.arr (a := q) (ty := 0) (n := n) hs (by decide)
  refine hr.put (a := q) hle rfl (fun _ _ => rfl) rfl rfl ?_ (fun _ _ _ => rfl) (fun _ _ _ => rfl) ?_
  · intro b hb k
    unfold sA up1
    simp only [if_neg hb]
  · refine arr_at (n := n) (by decide) (by decide) hn hle hs ?_
    rw [hH, aX_0, aX_0]
    simp only [vp_cell]
    unfold arrV
    have e : (fun j : Fin n => Value.int ((sA u q f).2.1 q (j : Nat))) = (fun j : Fin n => Value.int ((sA u q g).2.1 q (j : Nat))) := by
      funext j
      congr 1
      rw [← Int32.toInt_inj]
      show mI (sA u q f) q (j : Nat) = mI (sA u q g) q (j : Nat)
      rw [mI_sA, mI_sA]
      exact h j j.isLt
    simp only [e]
theorem vw_norm {C : Cx} {pc : Nat} {lv : LV} {st : List SV} {u : Mem} {c z : Nat} {q n : Nat} {f g : RW} (hs : mSh u q = some (.inr (0, n))) (h : ∀ j : Nat, j < n → wr (f j) = wr (g j)) (k : VW C pc lv st (sA u q g) c z) : VW C pc lv st (sA u q f) c z := by
  obtain ⟨p, l, e, R, s, m, args, below, meth, cd, Q, D⟩ := C
  intro H locs ls hu
  exact k H locs ls (rel_norm hs h hu)

def q_recv (c w : Int) : Int := if ¬ (0 ≤ c ∧ c ≤ 2) then 1 else if ¬ (0 ≤ w ∧ w ≤ 13) then 2 else 0
def m_recvV (f : RW) (c w : Int) : Int := if w ≤ 9 then m_of f c w else if w = 10 then m_rows f c else if w = 11 then m_of f c 12 else if w = 12 then m_should f c else m_onway f c
abbrev rmX8_receiver : Room := { frames := 4, cells := 0, slots := 0, locals := 89 }
def q_msg (f : RW) (i w : Int) : Int := if ¬ (0 ≤ i ∧ i ≤ f 9 - 1) then 1 else if ¬ (0 ≤ w ∧ w ≤ 4) then 2 else 0
def m_msgV (f : RW) (k w : Int) : Int := if w = 0 then m_way f k 0 else if w = 1 then m_way f k 1 else if w = 2 then m_way f k 2 - f 0 else if w = 3 then m_way f k 3 else m_way f k 4
abbrev rmX8_message : Room := { frames := 2, cells := 0, slots := 0, locals := 46 }
def m_openOnes (f : RW) : Int := m_its f 0 0 + m_its f 1 0 + m_its f 2 0 + m_its f 3 0
def q_count (w : Int) : Int := if ¬ (0 ≤ w ∧ w ≤ 11) then 1 else 0
def m_countV (f : RW) (s w : Int) : Int := if w ≤ 2 then f w else if w = 3 then m_kept f else if w = 4 then f 3 else if w = 5 then f 4 else if w = 6 then f 5 else if w = 7 then f 9 else if w = 8 then f 6 else if w = 9 then f 7 else if w = 10 then m_openOnes f else s
def q_sett (s : Int) : Int := if ¬ (0 ≤ s ∧ s ≤ 6) then 1 else 0
abbrev rmX8_openOnes : Room := { frames := 1, cells := 0, slots := 0, locals := 22 }
abbrev rmX8_count : Room := { frames := 2, cells := 0, slots := 0, locals := 42 }
abbrev rmX8_setting : Room := { frames := 1, cells := 0, slots := 0, locals := 22 }
def m_drained (f : RW) : Bool := decide (f 9 = 0) && (decide (m_rows f 0 = 0) && (decide (m_rows f 1 = 0) && decide (m_rows f 2 = 0)))
theorem m_rows_rg (f : RW) (h2 : 0 ≤ f 2 ∧ f 2 ≤ 200) (c : Int) : 0 ≤ m_rows f c ∧ m_rows f c ≤ 200 := by
  have := m_rowsL_rg f c (f 2).toNat
  unfold m_rows
  omega
abbrev rmX8_isDrained : Room := { frames := 4, cells := 0, slots := 0, locals := 89 }
def m_drainK (f b : RW) : Nat → Nat → Nat
  | 0, k => k
  | n + 1, k => if m_drained (m_pass f b k).1 = true then k else m_drainK f b n (k + 1)
def m_drainT (f b : RW) : Nat := m_drainK f b 300 0
theorem m_drainK_le (f b : RW) (n : Nat) : ∀ k, k ≤ m_drainK f b n k ∧ m_drainK f b n k ≤ k + n := by
  induction n with
  | zero => intro k; exact ⟨Nat.le_refl _, Nat.le_refl _⟩
  | succ n ih =>
    intro k
    simp only [m_drainK]
    split
    · omega
    · have := ih (k + 1); omega
def m_drainV (f b : RW) : Int := if m_drained (m_pass f b (m_drainT f b)).1 = true then (m_drainT f b : Int) else -1
/-- the memory when ticks have been gone through on the row and it was put back -/
def m_tried (u : Mem) (m : Nat) (f : RW) (t : Nat) : Mem := sA (sA u (m + 4) (cp (mI u (m + 4)) f 1651)) (m + 7) (m_pass f (mI u (m + 7)) t).2
abbrev rmX8_drains : Room := { frames := 6, cells := 0, slots := 0, locals := 135 }
end
section
abbrev rmX8_drainIn : Room := { frames := 7, cells := 0, slots := 0, locals := 157 }
def m_aix (w : Int) : Int := if w = 0 then 3 else if w = 1 then 5 else 6
def m_aix2 (w : Int) : Int := if w = 0 then 3 else if w = 1 then 5 else if w = 2 then 6 else 8
def m_bef (f : RW) (c w : Int) : Int := if w = 3 then 0 else m_of f c (m_aix w)
def m_afterV (f b : RW) (n : Nat) (c w : Int) : Int := m_of (m_pass f b n).1 c (m_aix2 w) - m_bef f c w
theorem m_aix_rg (w : Int) : 3 ≤ m_aix w ∧ m_aix w ≤ 6 := by
  unfold m_aix; split
  · omega
  · split <;> omega
theorem m_aix2_rg (w : Int) : 3 ≤ m_aix2 w ∧ m_aix2 w ≤ 8 := by
  unfold m_aix2; split
  · omega
  · split
    · omega
    · split <;> omega
abbrev rmX8_afterTicks : Room := { frames := 7, cells := 0, slots := 0, locals := 158 }
def q_ifp (n c w : Int) : Int := if ¬ (0 ≤ c ∧ c ≤ 2) then 1 else if ¬ (1 ≤ n ∧ n ≤ 99) ∨ ¬ (0 ≤ w ∧ w ≤ 3) then 2 else 0
abbrev rmX8_ifPassed : Room := { frames := 8, cells := 0, slots := 0, locals := 184 }
def m_skipN (f : RW) (p k : Int) : Int := if f 10 = 0 then f 2 + k else m_its f p (4 + 3 * k)
def m_skipL (f : RW) (p c : Int) : Nat → Int
  | 0 => 0
  | k + 1 => m_skipL f p c k + (if m_wants f c (m_its f p (2 + 3 * k)) = true ∧ m_skipN f p k ≤ m_of f c 8 then 1 else 0)
def m_skip (f : RW) (p c : Int) : Int := if m_open f p = false then -1 else m_skipL f p c (m_its f p 1).toNat
def q_skips (p c : Int) : Int := if ¬ (0 ≤ p ∧ p ≤ 3) ∨ ¬ (0 ≤ c ∧ c ≤ 2) then 1 else 0
def m_far1 (f : RW) (r b : Int) : Int := if (if b = -1 then 0 else m_rows f b) < m_rows f r then r else b
def m_farL (f : RW) : Nat → Int → Int → Int
  | 0, _, b => b
  | n + 1, r, b => m_farL f n (r + 1) (m_far1 f r b)
def m_far (f : RW) : Int := m_farL f 3 0 (-1)
abbrev rmX8_skipped : Room := { frames := 2, cells := 0, slots := 0, locals := 44 }
abbrev rmX8_skips : Room := { frames := 3, cells := 0, slots := 0, locals := 69 }
abbrev rmX8_farthest : Room := { frames := 4, cells := 0, slots := 0, locals := 89 }
abbrev rmX8_slowest : Room := { frames := 5, cells := 0, slots := 0, locals := 111 }
def m_good (f : RW) : UInt64 := if f 4 = 0 then 0x3ff0000000000000 else FP.ddiv (FP.i2d (Int32.ofInt (f 4 - f 5))) (FP.i2d (Int32.ofInt (f 4)))
def m_mean (f : RW) : UInt32 := if f 6 = 0 then 0 else FP.fdiv (FP.i2f (Int32.ofInt (f 8))) (FP.i2f (Int32.ofInt (f 6)))
abbrev rmX8_good : Room := { frames := 0, cells := 0, slots := 0, locals := 0 }
abbrev rmX8_mean : Room := { frames := 0, cells := 0, slots := 0, locals := 0 }
abbrev rmX8_goodShare : Room := { frames := 1, cells := 0, slots := 0, locals := 20 }
abbrev rmX8_meanBatch : Room := { frames := 1, cells := 0, slots := 0, locals := 20 }
end
