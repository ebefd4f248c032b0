abbrev rmX7_isBelow : Room := { frames := 0, cells := 0, slots := 0, locals := 0 }
set_option maxRecDepth 100000 in
theorem k_isBelow {l : Launch} {D : DD} (hfl : l.stackTraces = false) {u : Mem} {v b : Int} (hv : rg v) (hb : rg b) : CT l D yX7_isBelow cX7_isBelow 2 (some .boolean) rmX7_isBelow [xI v, xI b] u (RT (xI (bI (0 ≤ v ∧ v < b))) u) := by
  refine CT.of hfl (by decide) (le_b rfl) ?_
  intro C hC hR hL hDD hN
  have hfC : (cxL C).stackTraces = false := by rw [hL]; exact hfl
  show VW C 0 [some (xI v), some (xI b)] [] u 0 0
  refine r_iload_n hC dX7_isBelow_0 rfl ?_
  refine r_if_lt (t := 13) hC dX7_isBelow_1 (by rfl) (by first | with_reducible exact rg_mI _ _ _ | assumption | with_reducible exact rf_at rf _ | with_reducible exact rg_and _ _ | exact ⟨by omega, by omega⟩) (fun h_1 => ?_) (fun h_1 => ?_)
  · skip
    refine r_iconst hC dX7_isBelow_13 ?_
    refine r_zret hC hR dX7_isBelow_14 (by first | exact Or.inl rfl | exact Or.inr rfl) (le_b rfl) (le_b rfl) ?_
    refine ⟨congrArg (fun i => some (xI i)) ?_, rfl⟩
    unfold bI; (repeat' split) <;> first | rfl | omega | (exfalso; omega)
  · skip
    refine r_iload_n hC dX7_isBelow_4 rfl ?_
    refine r_iload_n hC dX7_isBelow_5 rfl ?_
    refine r_icmp_ge (t := 13) hC dX7_isBelow_6 (by rfl) (by first | with_reducible exact rg_mI _ _ _ | assumption | with_reducible exact rf_at rf _ | with_reducible exact rg_and _ _ | exact ⟨by omega, by omega⟩) (by first | with_reducible exact rg_mI _ _ _ | assumption | with_reducible exact rf_at rf _ | with_reducible exact rg_and _ _ | exact ⟨by omega, by omega⟩) (fun h_6 => ?_) (fun h_6 => ?_)
    · skip
      refine r_iconst hC dX7_isBelow_13 ?_
      refine r_zret hC hR dX7_isBelow_14 (by first | exact Or.inl rfl | exact Or.inr rfl) (le_b rfl) (le_b rfl) ?_
      refine ⟨congrArg (fun i => some (xI i)) ?_, rfl⟩
      unfold bI; (repeat' split) <;> first | rfl | omega | (exfalso; omega)
    · skip
      refine r_iconst hC dX7_isBelow_9 ?_
      refine r_goto (t := 14) hC dX7_isBelow_10 (by rfl) ?_
      refine r_zret hC hR dX7_isBelow_14 (by first | exact Or.inl rfl | exact Or.inr rfl) (le_b rfl) (le_b rfl) ?_
      refine ⟨congrArg (fun i => some (xI i)) ?_, rfl⟩
      unfold bI; (repeat' split) <;> first | rfl | omega | (exfalso; omega)

abbrev rmX7_isTicks : Room := { frames := 0, cells := 0, slots := 0, locals := 0 }
set_option maxRecDepth 100000 in
theorem k_isTicks {l : Launch} {D : DD} (hfl : l.stackTraces = false) {u : Mem} {v : Int} (hv : rg v) : CT l D yX7_isTicks cX7_isTicks 1 (some .boolean) rmX7_isTicks [xI v] u (RT (xI (bI (1 ≤ v ∧ v ≤ 99))) u) := by
  refine CT.of hfl (by decide) (le_b rfl) ?_
  intro C hC hR hL hDD hN
  have hfC : (cxL C).stackTraces = false := by rw [hL]; exact hfl
  show VW C 0 [some (xI v)] [] u 0 0
  refine r_iload_n hC dX7_isTicks_0 rfl ?_
  refine r_iconst hC dX7_isTicks_1 ?_
  refine r_icmp_lt (t := 15) hC dX7_isTicks_2 (by rfl) (by first | with_reducible exact rg_mI _ _ _ | assumption | with_reducible exact rf_at rf _ | with_reducible exact rg_and _ _ | exact ⟨by omega, by omega⟩) (by first | with_reducible exact rg_mI _ _ _ | assumption | with_reducible exact rf_at rf _ | with_reducible exact rg_and _ _ | exact ⟨by omega, by omega⟩) (fun h_2 => ?_) (fun h_2 => ?_)
  · skip
    refine r_iconst hC dX7_isTicks_15 ?_
    refine r_zret hC hR dX7_isTicks_16 (by first | exact Or.inl rfl | exact Or.inr rfl) (le_b rfl) (le_b rfl) ?_
    refine ⟨congrArg (fun i => some (xI i)) ?_, rfl⟩
    unfold bI; (repeat' split) <;> first | rfl | omega | (exfalso; omega)
  · skip
    refine r_iload_n hC dX7_isTicks_5 rfl ?_
    refine r_bipush hC dX7_isTicks_6 (by rfl) ?_
    refine r_icmp_gt (t := 15) hC dX7_isTicks_8 (by rfl) (by first | with_reducible exact rg_mI _ _ _ | assumption | with_reducible exact rf_at rf _ | with_reducible exact rg_and _ _ | exact ⟨by omega, by omega⟩) (by first | with_reducible exact rg_mI _ _ _ | assumption | with_reducible exact rf_at rf _ | with_reducible exact rg_and _ _ | exact ⟨by omega, by omega⟩) (fun h_8 => ?_) (fun h_8 => ?_)
    · skip
      refine r_iconst hC dX7_isTicks_15 ?_
      refine r_zret hC hR dX7_isTicks_16 (by first | exact Or.inl rfl | exact Or.inr rfl) (le_b rfl) (le_b rfl) ?_
      refine ⟨congrArg (fun i => some (xI i)) ?_, rfl⟩
      unfold bI; (repeat' split) <;> first | rfl | omega | (exfalso; omega)
    · skip
      refine r_iconst hC dX7_isTicks_11 ?_
      refine r_goto (t := 16) hC dX7_isTicks_12 (by rfl) ?_
      refine r_zret hC hR dX7_isTicks_16 (by first | exact Or.inl rfl | exact Or.inr rfl) (le_b rfl) (le_b rfl) ?_
      refine ⟨congrArg (fun i => some (xI i)) ?_, rfl⟩
      unfold bI; (repeat' split) <;> first | rfl | omega | (exfalso; omega)

abbrev rmX2_isBetween : Room := { frames := 0, cells := 0, slots := 0, locals := 0 }
def t_part (s : Int) : Int := if s = 98 then 9 else if s = 99 then 6 else if s = 100 then 6 else if s = 115 then 9 else if s = 116 then 7 else if s = 119 then 2 else 0
def t_fd (s : Int) : Int := if 49 ≤ s ∧ s ≤ 57 then 8 else 0
def t_end (s : Int) : Int := if s = 59 then 1 else 0
def t_after (e s : Int) : Int := if e = 1 then t_part s else if e = 2 then (if 48 ≤ s ∧ s ≤ 51 then 3 else 0) else if e = 3 then (if 48 ≤ s ∧ s ≤ 51 then 4 else 0) else if e = 4 then (if s = 61 then 5 else 0) else if e = 5 then (if s = 48 then 9 else t_fd s) else if e = 6 then (if 48 ≤ s ∧ s ≤ 51 then 9 else 0) else if e = 7 then t_fd s else if e = 8 then (if 48 ≤ s ∧ s ≤ 57 then 9 else t_end s) else if e = 9 then t_end s else 0
/-- what is expected behind k signs -/
def t_run (b : RW) : Nat → Int
  | 0 => 1
  | k + 1 => t_after (t_run b k) (b k)
theorem t_part_rg (s : Int) : 0 ≤ t_part s ∧ t_part s ≤ 9 := by unfold t_part; (repeat' split) <;> omega
theorem t_fd_rg (s : Int) : 0 ≤ t_fd s ∧ t_fd s ≤ 9 := by unfold t_fd; split <;> omega
theorem t_end_rg (s : Int) : 0 ≤ t_end s ∧ t_end s ≤ 9 := by unfold t_end; split <;> omega
theorem t_after_rg (e s : Int) : 0 ≤ t_after e s ∧ t_after e s ≤ 9 := by
  have h1 := t_part_rg s
  have h2 := t_fd_rg s
  have h3 := t_end_rg s
  unfold t_after; (repeat' split) <;> omega
theorem t_run_rg (b : RW) (k : Nat) : 0 ≤ t_run b k ∧ t_run b k ≤ 9 := by
  cases k with
  | zero => show (0 : Int) ≤ 1 ∧ (1 : Int) ≤ 9; exact ⟨by decide, by decide⟩
  | succ k => exact t_after_rg _ _
def t_sign (b : RW) (n i : Int) : Int := if 0 ≤ i ∧ i < n then b i else -1
def t_dig (b : RW) (n i : Int) : Int := if 48 ≤ t_sign b n i ∧ t_sign b n i ≤ 57 then t_sign b n i - 48 else -1
def t_num (b : RW) (n i : Int) : Int := if t_dig b n (i + 1) = -1 then t_dig b n i else 10 * t_dig b n i + t_dig b n (i + 1)
theorem t_dig_rg (b : RW) (n i : Int) : -1 ≤ t_dig b n i ∧ t_dig b n i ≤ 9 := by unfold t_dig; split <;> omega
abbrev rmX2_afterPartSign : Room := { frames := 0, cells := 0, slots := 0, locals := 0 }
abbrev rmX2_afterFirstDigit : Room := { frames := 1, cells := 0, slots := 0, locals := 22 }
abbrev rmX2_afterEnd : Room := { frames := 0, cells := 0, slots := 0, locals := 0 }
abbrev rmX2_after : Room := { frames := 2, cells := 0, slots := 0, locals := 42 }
abbrev rmX2_errorIndex : Room := { frames := 3, cells := 0, slots := 0, locals := 63 }
abbrev rmX2_isComplete : Room := { frames := 3, cells := 0, slots := 0, locals := 63 }
abbrev rmX2_signAt : Room := { frames := 1, cells := 0, slots := 0, locals := 21 }
theorem t_sign_rg {b : RW} (hb : RF b) (n i : Int) : rg (t_sign b n i) := by
  unfold t_sign; split
  · exact hb _
  · exact ⟨by decide, by decide⟩
abbrev rmX2_digitAt : Room := { frames := 2, cells := 0, slots := 0, locals := 42 }
abbrev rmX2_numberAt : Room := { frames := 3, cells := 0, slots := 0, locals := 64 }
abbrev rmX2_beginsPart : Room := { frames := 2, cells := 0, slots := 0, locals := 42 }
