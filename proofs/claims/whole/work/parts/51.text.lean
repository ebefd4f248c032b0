abbrev rmX7_isBelow : Room := { frames := 0, cells := 0, slots := 0, locals := 0 }
set_option maxRecDepth 100000 in
theorem k_isBelow {l : Launch} {D : DD} (hfl : l.stackTraces = false) {u : Mem} {v b : Int} (hv : rg v) (hb : rg b) : CT l D yX7_isBelow cX7_isBelow 2 (some .boolean) rmX7_isBelow [xI v, xI b] u (RT (xI (bI (0 ≤ v ∧ v < b))) u) := by
  refine CT.of hfl (by decide) (le_b rfl) ?_
  intro C hC hR hL hDD hN
  have hfC : (cxL C).stackTraces = false := by rw [hL]; exact hfl
  show VW C 0 [some (xI v), some (xI b)] [] u 0 0
  refine r_iload_n hC dX7_isBelow_0 rfl ?_
  refine r_if_lt (t := 13) hC dX7_isBelow_1 (by rfl) (by first | with_reducible exact rg_mI _ _ _ | assumption | with_reducible exact rf_at rf _ | with_reducible exact rg_and _ _ | exact ⟨by omega, by omega⟩) (fun h_1 => ?_) (fun h_1 => ?_)
  · skip
    refine r_iconst hC dX7_isBelow_13 ?_
    refine r_zret hC hR dX7_isBelow_14 (by first | exact Or.inl rfl | exact Or.inr rfl) (le_b rfl) (le_b rfl) ?_
    refine ⟨congrArg (fun i => some (xI i)) ?_, rfl⟩
    unfold bI; (repeat' split) <;> first | rfl | omega | (exfalso; omega)
  · skip
    refine r_iload_n hC dX7_isBelow_4 rfl ?_
    refine r_iload_n hC dX7_isBelow_5 rfl ?_
    refine r_icmp_ge (t := 13) hC dX7_isBelow_6 (by rfl) (by first | with_reducible exact rg_mI _ _ _ | assumption | with_reducible exact rf_at rf _ | with_reducible exact rg_and _ _ | exact ⟨by omega, by omega⟩) (by first | with_reducible exact rg_mI _ _ _ | assumption | with_reducible exact rf_at rf _ | with_reducible exact rg_and _ _ | exact ⟨by omega, by omega⟩) (fun h_6 => ?_) (fun h_6 => ?_)
    · skip
      refine r_iconst hC dX7_isBelow_13 ?_
      refine r_zret hC hR dX7_isBelow_14 (by first | exact Or.inl rfl | exact Or.inr rfl) (le_b rfl) (le_b rfl) ?_
      refine ⟨congrArg (fun i => some (xI i)) ?_, rfl⟩
      unfold bI; (repeat' split) <;> first | rfl | omega | (exfalso; omega)
    · skip
      refine r_iconst hC dX7_isBelow_9 ?_
      refine r_goto (t := 14) hC dX7_isBelow_10 (by rfl) ?_
      refine r_zret hC hR dX7_isBelow_14 (by first | exact Or.inl rfl | exact Or.inr rfl) (le_b rfl) (le_b rfl) ?_
      refine ⟨congrArg (fun i => some (xI i)) ?_, rfl⟩
      unfold bI; (repeat' split) <;> first | rfl | omega | (exfalso; omega)

abbrev rmX7_isTicks : Room := { frames := 0, cells := 0, slots := 0, locals := 0 }
set_option maxRecDepth 100000 in
theorem k_isTicks {l : Launch} {D : DD} (hfl : l.stackTraces = false) {u : Mem} {v : Int} (hv : rg v) : CT l D yX7_isTicks cX7_isTicks 1 (some .boolean) rmX7_isTicks [xI v] u (RT (xI (bI (1 ≤ v ∧ v ≤ 99))) u) := by
  refine CT.of hfl (by decide) (le_b rfl) ?_
  intro C hC hR hL hDD hN
  have hfC : (cxL C).stackTraces = false := by rw [hL]; exact hfl
  show VW C 0 [some (xI v)] [] u 0 0
  refine r_iload_n hC dX7_isTicks_0 rfl ?_
  refine r_iconst hC dX7_isTicks_1 ?_
  refine r_icmp_lt (t := 15) hC dX7_isTicks_2 (by rfl) (by first | with_reducible exact rg_mI _ _ _ | assumption | with_reducible exact rf_at rf _ | with_reducible exact rg_and _ _ | exact ⟨by omega, by omega⟩) (by first | with_reducible exact rg_mI _ _ _ | assumption | with_reducible exact rf_at rf _ | with_reducible exact rg_and _ _ | exact ⟨by omega, by omega⟩) (fun h_2 => ?_) (fun h_2 => ?_)
  · skip
    refine r_iconst hC dX7_isTicks_15 ?_
    refine r_zret hC hR dX7_isTicks_16 (by first | exact Or.inl rfl | exact Or.inr rfl) (le_b rfl) (le_b rfl) ?_
    refine ⟨congrArg (fun i => some (xI i)) ?_, rfl⟩
    unfold bI; (repeat' split) <;> first | rfl | omega | (exfalso; omega)
  · skip
    refine r_iload_n hC dX7_isTicks_5 rfl ?_
    refine r_bipush hC dX7_isTicks_6 (by rfl) ?_
    refine r_icmp_gt (t := 15) hC dX7_isTicks_8 (by rfl) (by first | with_reducible exact rg_mI _ _ _ | assumption | with_reducible exact rf_at rf _ | with_reducible exact rg_and _ _ | exact ⟨by omega, by omega⟩) (by first | with_reducible exact rg_mI _ _ _ | assumption | with_reducible exact rf_at rf _ | with_reducible exact rg_and _ _ | exact ⟨by omega, by omega⟩) (fun h_8 => ?_) (fun h_8 => ?_)
    · skip
      refine r_iconst hC dX7_isTicks_15 ?_
      refine r_zret hC hR dX7_isTicks_16 (by first | exact Or.inl rfl | exact Or.inr rfl) (le_b rfl) (le_b rfl) ?_
      refine ⟨congrArg (fun i => some (xI i)) ?_, rfl⟩
      unfold bI; (repeat' split) <;> first | rfl | omega | (exfalso; omega)
    · skip
      refine r_iconst hC dX7_isTicks_11 ?_
      refine r_goto (t := 16) hC dX7_isTicks_12 (by rfl) ?_
      refine r_zret hC hR dX7_isTicks_16 (by first | exact Or.inl rfl | exact Or.inr rfl) (le_b rfl) (le_b rfl) ?_
      refine ⟨congrArg (fun i => some (xI i)) ?_, rfl⟩
      unfold bI; (repeat' split) <;> first | rfl | omega | (exfalso; omega)

abbrev rmX2_isBetween : Room := { frames := 0, cells := 0, slots := 0, locals := 0 }
set_option maxRecDepth 100000 in
theorem k_isBetween {l : Launch} {D : DD} (hfl : l.stackTraces = false) {u : Mem} {v a b : Int} (hv : rg v) (ha : rg a) (hb : rg b) : CT l D yX2_isBetween cX2_isBetween 3 (some .boolean) rmX2_isBetween [xI v, xI a, xI b] u (RT (xI (bI (a ≤ v ∧ v ≤ b))) u) := by
  refine CT.of hfl (by decide) (le_b rfl) ?_
  intro C hC hR hL hDD hN
  have hfC : (cxL C).stackTraces = false := by rw [hL]; exact hfl
  show VW C 0 [some (xI v), some (xI a), some (xI b)] [] u 0 0
  refine r_iload_n hC dX2_isBetween_0 rfl ?_
  refine r_iload_n hC dX2_isBetween_1 rfl ?_
  refine r_icmp_lt (t := 14) hC dX2_isBetween_2 (by rfl) (by first | with_reducible exact rg_mI _ _ _ | assumption | with_reducible exact rf_at rf _ | with_reducible exact rg_and _ _ | exact ⟨by omega, by omega⟩) (by first | with_reducible exact rg_mI _ _ _ | assumption | with_reducible exact rf_at rf _ | with_reducible exact rg_and _ _ | exact ⟨by omega, by omega⟩) (fun h_2 => ?_) (fun h_2 => ?_)
  · skip
    refine r_iconst hC dX2_isBetween_14 ?_
    refine r_zret hC hR dX2_isBetween_15 (by first | exact Or.inl rfl | exact Or.inr rfl) (le_b rfl) (le_b rfl) ?_
    refine ⟨congrArg (fun i => some (xI i)) ?_, rfl⟩
    unfold bI; (repeat' split) <;> first | rfl | omega | (exfalso; omega)
  · skip
    refine r_iload_n hC dX2_isBetween_5 rfl ?_
    refine r_iload_n hC dX2_isBetween_6 rfl ?_
    refine r_icmp_gt (t := 14) hC dX2_isBetween_7 (by rfl) (by first | with_reducible exact rg_mI _ _ _ | assumption | with_reducible exact rf_at rf _ | with_reducible exact rg_and _ _ | exact ⟨by omega, by omega⟩) (by first | with_reducible exact rg_mI _ _ _ | assumption | with_reducible exact rf_at rf _ | with_reducible exact rg_and _ _ | exact ⟨by omega, by omega⟩) (fun h_7 => ?_) (fun h_7 => ?_)
    · skip
      refine r_iconst hC dX2_isBetween_14 ?_
      refine r_zret hC hR dX2_isBetween_15 (by first | exact Or.inl rfl | exact Or.inr rfl) (le_b rfl) (le_b rfl) ?_
      refine ⟨congrArg (fun i => some (xI i)) ?_, rfl⟩
      unfold bI; (repeat' split) <;> first | rfl | omega | (exfalso; omega)
    · skip
      refine r_iconst hC dX2_isBetween_10 ?_
      refine r_goto (t := 15) hC dX2_isBetween_11 (by rfl) ?_
      refine r_zret hC hR dX2_isBetween_15 (by first | exact Or.inl rfl | exact Or.inr rfl) (le_b rfl) (le_b rfl) ?_
      refine ⟨congrArg (fun i => some (xI i)) ?_, rfl⟩
      unfold bI; (repeat' split) <;> first | rfl | omega | (exfalso; omega)

def t_part (s : Int) : Int := if s = 98 then 9 else if s = 99 then 6 else if s = 100 then 6 else if s = 115 then 9 else if s = 116 then 7 else if s = 119 then 2 else 0
def t_fd (s : Int) : Int := if 49 ≤ s ∧ s ≤ 57 then 8 else 0
def t_end (s : Int) : Int := if s = 59 then 1 else 0
def t_after (e s : Int) : Int := if e = 1 then t_part s else if e = 2 then (if 48 ≤ s ∧ s ≤ 51 then 3 else 0) else if e = 3 then (if 48 ≤ s ∧ s ≤ 51 then 4 else 0) else if e = 4 then (if s = 61 then 5 else 0) else if e = 5 then (if s = 48 then 9 else t_fd s) else if e = 6 then (if 48 ≤ s ∧ s ≤ 51 then 9 else 0) else if e = 7 then t_fd s else if e = 8 then (if 48 ≤ s ∧ s ≤ 57 then 9 else t_end s) else if e = 9 then t_end s else 0
/-- what is expected behind k signs -/
def t_run (b : RW) : Nat → Int
  | 0 => 1
  | k + 1 => t_after (t_run b k) (b k)
theorem t_part_rg (s : Int) : 0 ≤ t_part s ∧ t_part s ≤ 9 := by unfold t_part; (repeat' split) <;> omega
theorem t_fd_rg (s : Int) : 0 ≤ t_fd s ∧ t_fd s ≤ 9 := by unfold t_fd; split <;> omega
theorem t_end_rg (s : Int) : 0 ≤ t_end s ∧ t_end s ≤ 9 := by unfold t_end; split <;> omega
theorem t_after_rg (e s : Int) : 0 ≤ t_after e s ∧ t_after e s ≤ 9 := by
  have h1 := t_part_rg s
  have h2 := t_fd_rg s
  have h3 := t_end_rg s
  unfold t_after; (repeat' split) <;> omega
theorem t_run_rg (b : RW) (k : Nat) : 0 ≤ t_run b k ∧ t_run b k ≤ 9 := by
  cases k with
  | zero => show (0 : Int) ≤ 1 ∧ (1 : Int) ≤ 9; exact ⟨by decide, by decide⟩
  | succ k => exact t_after_rg _ _
def t_sign (b : RW) (n i : Int) : Int := if 0 ≤ i ∧ i < n then b i else -1
def t_dig (b : RW) (n i : Int) : Int := if 48 ≤ t_sign b n i ∧ t_sign b n i ≤ 57 then t_sign b n i - 48 else -1
def t_num (b : RW) (n i : Int) : Int := if t_dig b n (i + 1) = -1 then t_dig b n i else 10 * t_dig b n i + t_dig b n (i + 1)
theorem t_dig_rg (b : RW) (n i : Int) : -1 ≤ t_dig b n i ∧ t_dig b n i ≤ 9 := by unfold t_dig; split <;> omega
abbrev rmX2_afterPartSign : Room := { frames := 0, cells := 0, slots := 0, locals := 0 }
set_option maxRecDepth 100000 in
theorem k_part {l : Launch} {D : DD} (hfl : l.stackTraces = false) {u : Mem} {s : Int} (hs : rg s) : CT l D yX2_afterPartSign cX2_afterPartSign 1 (some .int) rmX2_afterPartSign [xI s] u (RT (xI (t_part s)) u) := by
  refine CT.of hfl (by decide) (le_b rfl) ?_
  intro C hC hR hL hDD hN
  have hfC : (cxL C).stackTraces = false := by rw [hL]; exact hfl
  show VW C 0 [some (xI s)] [] u 0 0
  refine r_iload_n hC dX2_afterPartSign_0 rfl ?_
  refine r_lk6 (td := 71) (t0 := 60) (t1 := 65) (t2 := 65) (t3 := 60) (t4 := 68) (t5 := 63) hC dX2_afterPartSign_1 (by decide) (by first | with_reducible exact rg_mI _ _ _ | assumption | with_reducible exact rf_at rf _ | with_reducible exact rg_and _ _ | exact ⟨by omega, by omega⟩) (by rfl) (by rfl) (by rfl) (by rfl) (by rfl) (by rfl) (by rfl) ?_ ?_ ?_ ?_ ?_ ?_ ?_
  · intro s_1
    refine r_bipush hC dX2_afterPartSign_60 (by rfl) ?_
    refine r_iret hC hR dX2_afterPartSign_62 (le_b rfl) (le_b rfl) ?_
    refine ⟨congrArg (fun i => some (xI i)) ?_, rfl⟩
    unfold t_part
    (repeat' split) <;> first | rfl | omega | (exfalso; omega)
  · intro s_1
    refine r_bipush hC dX2_afterPartSign_65 (by rfl) ?_
    refine r_iret hC hR dX2_afterPartSign_67 (le_b rfl) (le_b rfl) ?_
    refine ⟨congrArg (fun i => some (xI i)) ?_, rfl⟩
    unfold t_part
    (repeat' split) <;> first | rfl | omega | (exfalso; omega)
  · intro s_1
    refine r_bipush hC dX2_afterPartSign_65 (by rfl) ?_
    refine r_iret hC hR dX2_afterPartSign_67 (le_b rfl) (le_b rfl) ?_
    refine ⟨congrArg (fun i => some (xI i)) ?_, rfl⟩
    unfold t_part
    (repeat' split) <;> first | rfl | omega | (exfalso; omega)
  · intro s_1
    refine r_bipush hC dX2_afterPartSign_60 (by rfl) ?_
    refine r_iret hC hR dX2_afterPartSign_62 (le_b rfl) (le_b rfl) ?_
    refine ⟨congrArg (fun i => some (xI i)) ?_, rfl⟩
    unfold t_part
    (repeat' split) <;> first | rfl | omega | (exfalso; omega)
  · intro s_1
    refine r_bipush hC dX2_afterPartSign_68 (by rfl) ?_
    refine r_iret hC hR dX2_afterPartSign_70 (le_b rfl) (le_b rfl) ?_
    refine ⟨congrArg (fun i => some (xI i)) ?_, rfl⟩
    unfold t_part
    (repeat' split) <;> first | rfl | omega | (exfalso; omega)
  · intro s_1
    refine r_iconst hC dX2_afterPartSign_63 ?_
    refine r_iret hC hR dX2_afterPartSign_64 (le_b rfl) (le_b rfl) ?_
    refine ⟨congrArg (fun i => some (xI i)) ?_, rfl⟩
    unfold t_part
    (repeat' split) <;> first | rfl | omega | (exfalso; omega)
  · intro n0_1 n1_1 n2_1 n3_1 n4_1 n5_1
    refine r_iconst hC dX2_afterPartSign_71 ?_
    refine r_iret hC hR dX2_afterPartSign_72 (le_b rfl) (le_b rfl) ?_
    refine ⟨congrArg (fun i => some (xI i)) ?_, rfl⟩
    unfold t_part
    (repeat' split) <;> first | rfl | omega | (exfalso; omega)

abbrev rmX2_afterFirstDigit : Room := { frames := 1, cells := 0, slots := 0, locals := 22 }
set_option maxRecDepth 100000 in
theorem k_fd {l : Launch} {D : DD} (hfl : l.stackTraces = false) {u : Mem} {s : Int} (hs : rg s) : CT l D yX2_afterFirstDigit cX2_afterFirstDigit 1 (some .int) rmX2_afterFirstDigit [xI s] u (RT (xI (t_fd s)) u) := by
  refine CT.of hfl (by decide) (le_b rfl) ?_
  intro C hC hR hL hDD hN
  have hfC : (cxL C).stackTraces = false := by rw [hL]; exact hfl
  show VW C 0 [some (xI s)] [] u 0 0
  refine r_iload_n hC dX2_afterFirstDigit_0 rfl ?_
  refine r_bipush hC dX2_afterFirstDigit_1 (by rfl) ?_
  refine r_bipush hC dX2_afterFirstDigit_3 (by rfl) ?_
  refine r_S0 hC dX2_afterFirstDigit_5 mi_X2_isBetween ss_X2_isBetween ml_X2_31 (rm := rmX2_isBetween) rfl rfl rfl ⟨le_b rfl, le_b rfl⟩ (k_isBetween hfC hs ⟨by omega, by omega⟩ ⟨by omega, by omega⟩) ?_ rfl
  refine r_beq (t := 16) hC dX2_afterFirstDigit_8 (by rfl) (fun h_8 => ?_) (fun h_8 => ?_)
  · skip
    refine r_iconst hC dX2_afterFirstDigit_16 ?_
    refine r_iret hC hR dX2_afterFirstDigit_17 (le_b rfl) (le_b rfl) ?_
    refine ⟨congrArg (fun i => some (xI i)) ?_, rfl⟩
    unfold t_fd
    split <;> first | rfl | omega | (exfalso; omega)
  · skip
    refine r_bipush hC dX2_afterFirstDigit_11 (by rfl) ?_
    refine r_goto (t := 17) hC dX2_afterFirstDigit_13 (by rfl) ?_
    refine r_iret hC hR dX2_afterFirstDigit_17 (le_b rfl) (le_b rfl) ?_
    refine ⟨congrArg (fun i => some (xI i)) ?_, rfl⟩
    unfold t_fd
    split <;> first | rfl | omega | (exfalso; omega)

abbrev rmX2_afterEnd : Room := { frames := 0, cells := 0, slots := 0, locals := 0 }
set_option maxRecDepth 100000 in
theorem k_end {l : Launch} {D : DD} (hfl : l.stackTraces = false) {u : Mem} {s : Int} (hs : rg s) : CT l D yX2_afterEnd cX2_afterEnd 1 (some .int) rmX2_afterEnd [xI s] u (RT (xI (t_end s)) u) := by
  refine CT.of hfl (by decide) (le_b rfl) ?_
  intro C hC hR hL hDD hN
  have hfC : (cxL C).stackTraces = false := by rw [hL]; exact hfl
  show VW C 0 [some (xI s)] [] u 0 0
  refine r_iload_n hC dX2_afterEnd_0 rfl ?_
  refine r_bipush hC dX2_afterEnd_1 (by rfl) ?_
  refine r_icmp_ne (t := 10) hC dX2_afterEnd_3 (by rfl) (by first | with_reducible exact rg_mI _ _ _ | assumption | with_reducible exact rf_at rf _ | with_reducible exact rg_and _ _ | exact ⟨by omega, by omega⟩) (by first | with_reducible exact rg_mI _ _ _ | assumption | with_reducible exact rf_at rf _ | with_reducible exact rg_and _ _ | exact ⟨by omega, by omega⟩) (fun h_3 => ?_) (fun h_3 => ?_)
  · skip
    refine r_iconst hC dX2_afterEnd_10 ?_
    refine r_iret hC hR dX2_afterEnd_11 (le_b rfl) (le_b rfl) ?_
    refine ⟨congrArg (fun i => some (xI i)) ?_, rfl⟩
    unfold t_end
    (repeat' split) <;> first | rfl | omega | (exfalso; omega)
  · skip
    refine r_iconst hC dX2_afterEnd_6 ?_
    refine r_goto (t := 11) hC dX2_afterEnd_7 (by rfl) ?_
    refine r_iret hC hR dX2_afterEnd_11 (le_b rfl) (le_b rfl) ?_
    refine ⟨congrArg (fun i => some (xI i)) ?_, rfl⟩
    unfold t_end
    (repeat' split) <;> first | rfl | omega | (exfalso; omega)

abbrev rmX2_after : Room := { frames := 2, cells := 0, slots := 0, locals := 42 }
set_option maxRecDepth 100000 in
theorem k_after {l : Launch} {D : DD} (hfl : l.stackTraces = false) {u : Mem} {e s : Int} (he : rg e) (hs : rg s) : CT l D yX2_after cX2_after 2 (some .int) rmX2_after [xI e, xI s] u (RT (xI (t_after e s)) u) := by
  refine CT.of hfl (by decide) (le_b rfl) ?_
  intro C hC hR hL hDD hN
  have hfC : (cxL C).stackTraces = false := by rw [hL]; exact hfl
  show VW C 0 [some (xI e), some (xI s)] [] u 0 0
  refine r_iload_n hC dX2_after_0 rfl ?_
  refine r_tb9 (td := 168) (t0 := 52) (t1 := 57) (t2 := 74) (t3 := 91) (t4 := 103) (t5 := 119) (t6 := 137) (t7 := 142) (t8 := 163) hC dX2_after_1 (by rfl) (by first | with_reducible exact rg_mI _ _ _ | assumption | with_reducible exact rf_at rf _ | with_reducible exact rg_and _ _ | exact ⟨by omega, by omega⟩) (by rfl) (by rfl) (by rfl) (by rfl) (by rfl) (by rfl) (by rfl) (by rfl) (by rfl) (by rfl) ?_ ?_ ?_ ?_ ?_ ?_ ?_ ?_ ?_ ?_
  · intro s_1
    refine r_iload_n hC dX2_after_52 rfl ?_
    refine r_S0 hC dX2_after_53 mi_X2_afterPartSign ss_X2_afterPartSign ml_X2_38 (rm := rmX2_afterPartSign) rfl rfl rfl ⟨le_b rfl, le_b rfl⟩ (k_part hfC hs) ?_ rfl
    refine r_iret hC hR dX2_after_56 (le_b rfl) (le_b rfl) ?_
    refine ⟨congrArg (fun i => some (xI i)) ?_, rfl⟩
    first | (subst s_1; first | rfl | (show _ = (if s = 48 then (9 : Int) else t_fd s); split <;> first | rfl | contradiction) | (show _ = (if 48 ≤ s ∧ s ≤ 57 then (9 : Int) else t_end s); split <;> first | rfl | contradiction) | (show _ = (if 48 ≤ s ∧ s ≤ 51 then (9 : Int) else 0); split <;> first | rfl | contradiction)) | (unfold t_after; rw [if_neg (by omega), if_neg (by omega), if_neg (by omega), if_neg (by omega), if_neg (by omega), if_neg (by omega), if_neg (by omega), if_neg (by omega), if_neg (by omega)])
  · intro s_1
    refine r_iload_n hC dX2_after_57 rfl ?_
    refine r_bipush hC dX2_after_58 (by rfl) ?_
    refine r_bipush hC dX2_after_60 (by rfl) ?_
    refine r_S0 hC dX2_after_62 mi_X2_isBetween ss_X2_isBetween ml_X2_31 (rm := rmX2_isBetween) rfl rfl rfl ⟨le_b rfl, le_b rfl⟩ (k_isBetween hfC hs ⟨by omega, by omega⟩ ⟨by omega, by omega⟩) ?_ rfl
    refine d_beq (t := 72) (J := 73) hC dX2_after_65 dX2_after_68 dX2_after_69 dX2_after_72 (by rfl) (by rfl) (by rfl) ?_
    refine r_iret hC hR dX2_after_73 (le_b rfl) (le_b rfl) ?_
    refine ⟨congrArg (fun i => some (xI i)) ?_, rfl⟩
    first | (subst s_1; first | rfl | (show _ = (if s = 48 then (9 : Int) else t_fd s); split <;> first | rfl | contradiction) | (show _ = (if 48 ≤ s ∧ s ≤ 57 then (9 : Int) else t_end s); split <;> first | rfl | contradiction) | (show _ = (if 48 ≤ s ∧ s ≤ 51 then (9 : Int) else 0); split <;> first | rfl | contradiction)) | (unfold t_after; rw [if_neg (by omega), if_neg (by omega), if_neg (by omega), if_neg (by omega), if_neg (by omega), if_neg (by omega), if_neg (by omega), if_neg (by omega), if_neg (by omega)])
  · intro s_1
    refine r_iload_n hC dX2_after_74 rfl ?_
    refine r_bipush hC dX2_after_75 (by rfl) ?_
    refine r_bipush hC dX2_after_77 (by rfl) ?_
    refine r_S0 hC dX2_after_79 mi_X2_isBetween ss_X2_isBetween ml_X2_31 (rm := rmX2_isBetween) rfl rfl rfl ⟨le_b rfl, le_b rfl⟩ (k_isBetween hfC hs ⟨by omega, by omega⟩ ⟨by omega, by omega⟩) ?_ rfl
    refine d_beq (t := 89) (J := 90) hC dX2_after_82 dX2_after_85 dX2_after_86 dX2_after_89 (by rfl) (by rfl) (by rfl) ?_
    refine r_iret hC hR dX2_after_90 (le_b rfl) (le_b rfl) ?_
    refine ⟨congrArg (fun i => some (xI i)) ?_, rfl⟩
    first | (subst s_1; first | rfl | (show _ = (if s = 48 then (9 : Int) else t_fd s); split <;> first | rfl | contradiction) | (show _ = (if 48 ≤ s ∧ s ≤ 57 then (9 : Int) else t_end s); split <;> first | rfl | contradiction) | (show _ = (if 48 ≤ s ∧ s ≤ 51 then (9 : Int) else 0); split <;> first | rfl | contradiction)) | (unfold t_after; rw [if_neg (by omega), if_neg (by omega), if_neg (by omega), if_neg (by omega), if_neg (by omega), if_neg (by omega), if_neg (by omega), if_neg (by omega), if_neg (by omega)])
  · intro s_1
    refine r_iload_n hC dX2_after_91 rfl ?_
    refine r_bipush hC dX2_after_92 (by rfl) ?_
    refine d_icmp_ne (t := 101) (J := 102) hC dX2_after_94 dX2_after_97 dX2_after_98 dX2_after_101 (by rfl) (by rfl) (by rfl) (by first | with_reducible exact rg_mI _ _ _ | assumption | with_reducible exact rf_at rf _ | with_reducible exact rg_and _ _ | exact ⟨by omega, by omega⟩) (by first | with_reducible exact rg_mI _ _ _ | assumption | with_reducible exact rf_at rf _ | with_reducible exact rg_and _ _ | exact ⟨by omega, by omega⟩) ?_
    refine r_iret hC hR dX2_after_102 (le_b rfl) (le_b rfl) ?_
    refine ⟨congrArg (fun i => some (xI i)) ?_, rfl⟩
    first | (subst s_1; first | rfl | (show _ = (if s = 48 then (9 : Int) else t_fd s); split <;> first | rfl | contradiction) | (show _ = (if 48 ≤ s ∧ s ≤ 57 then (9 : Int) else t_end s); split <;> first | rfl | contradiction) | (show _ = (if 48 ≤ s ∧ s ≤ 51 then (9 : Int) else 0); split <;> first | rfl | contradiction)) | (unfold t_after; rw [if_neg (by omega), if_neg (by omega), if_neg (by omega), if_neg (by omega), if_neg (by omega), if_neg (by omega), if_neg (by omega), if_neg (by omega), if_neg (by omega)])
  · intro s_1
    refine r_iload_n hC dX2_after_103 rfl ?_
    refine r_bipush hC dX2_after_104 (by rfl) ?_
    refine r_icmp_ne (t := 114) hC dX2_after_106 (by rfl) (by first | with_reducible exact rg_mI _ _ _ | assumption | with_reducible exact rf_at rf _ | with_reducible exact rg_and _ _ | exact ⟨by omega, by omega⟩) (by first | with_reducible exact rg_mI _ _ _ | assumption | with_reducible exact rf_at rf _ | with_reducible exact rg_and _ _ | exact ⟨by omega, by omega⟩) (fun h_106 => ?_) (fun h_106 => ?_)
    · skip
      refine r_iload_n hC dX2_after_114 rfl ?_
      refine r_S0 hC dX2_after_115 mi_X2_afterFirstDigit ss_X2_afterFirstDigit ml_X2_41 (rm := rmX2_afterFirstDigit) rfl rfl rfl ⟨le_b rfl, le_b rfl⟩ (k_fd hfC hs) ?_ rfl
      refine r_iret hC hR dX2_after_118 (le_b rfl) (le_b rfl) ?_
      refine ⟨congrArg (fun i => some (xI i)) ?_, rfl⟩
      first | (subst s_1; first | rfl | (show _ = (if s = 48 then (9 : Int) else t_fd s); split <;> first | rfl | contradiction) | (show _ = (if 48 ≤ s ∧ s ≤ 57 then (9 : Int) else t_end s); split <;> first | rfl | contradiction) | (show _ = (if 48 ≤ s ∧ s ≤ 51 then (9 : Int) else 0); split <;> first | rfl | contradiction)) | (unfold t_after; rw [if_neg (by omega), if_neg (by omega), if_neg (by omega), if_neg (by omega), if_neg (by omega), if_neg (by omega), if_neg (by omega), if_neg (by omega), if_neg (by omega)])
    · skip
      refine r_bipush hC dX2_after_109 (by rfl) ?_
      refine r_goto (t := 118) hC dX2_after_111 (by rfl) ?_
      refine r_iret hC hR dX2_after_118 (le_b rfl) (le_b rfl) ?_
      refine ⟨congrArg (fun i => some (xI i)) ?_, rfl⟩
      first | (subst s_1; first | rfl | (show _ = (if s = 48 then (9 : Int) else t_fd s); split <;> first | rfl | contradiction) | (show _ = (if 48 ≤ s ∧ s ≤ 57 then (9 : Int) else t_end s); split <;> first | rfl | contradiction) | (show _ = (if 48 ≤ s ∧ s ≤ 51 then (9 : Int) else 0); split <;> first | rfl | contradiction)) | (unfold t_after; rw [if_neg (by omega), if_neg (by omega), if_neg (by omega), if_neg (by omega), if_neg (by omega), if_neg (by omega), if_neg (by omega), if_neg (by omega), if_neg (by omega)])
  · intro s_1
    refine r_iload_n hC dX2_after_119 rfl ?_
    refine r_bipush hC dX2_after_120 (by rfl) ?_
    refine r_bipush hC dX2_after_122 (by rfl) ?_
    refine r_S0 hC dX2_after_124 mi_X2_isBetween ss_X2_isBetween ml_X2_31 (rm := rmX2_isBetween) rfl rfl rfl ⟨le_b rfl, le_b rfl⟩ (k_isBetween hfC hs ⟨by omega, by omega⟩ ⟨by omega, by omega⟩) ?_ rfl
    refine r_beq (t := 135) hC dX2_after_127 (by rfl) (fun h_127 => ?_) (fun h_127 => ?_)
    · skip
      refine r_iconst hC dX2_after_135 ?_
      refine r_iret hC hR dX2_after_136 (le_b rfl) (le_b rfl) ?_
      refine ⟨congrArg (fun i => some (xI i)) ?_, rfl⟩
      first | (subst s_1; first | rfl | (show _ = (if s = 48 then (9 : Int) else t_fd s); split <;> first | rfl | contradiction) | (show _ = (if 48 ≤ s ∧ s ≤ 57 then (9 : Int) else t_end s); split <;> first | rfl | contradiction) | (show _ = (if 48 ≤ s ∧ s ≤ 51 then (9 : Int) else 0); split <;> first | rfl | contradiction)) | (unfold t_after; rw [if_neg (by omega), if_neg (by omega), if_neg (by omega), if_neg (by omega), if_neg (by omega), if_neg (by omega), if_neg (by omega), if_neg (by omega), if_neg (by omega)])
    · skip
      refine r_bipush hC dX2_after_130 (by rfl) ?_
      refine r_goto (t := 136) hC dX2_after_132 (by rfl) ?_
      refine r_iret hC hR dX2_after_136 (le_b rfl) (le_b rfl) ?_
      refine ⟨congrArg (fun i => some (xI i)) ?_, rfl⟩
      first | (subst s_1; first | rfl | (show _ = (if s = 48 then (9 : Int) else t_fd s); split <;> first | rfl | contradiction) | (show _ = (if 48 ≤ s ∧ s ≤ 57 then (9 : Int) else t_end s); split <;> first | rfl | contradiction) | (show _ = (if 48 ≤ s ∧ s ≤ 51 then (9 : Int) else 0); split <;> first | rfl | contradiction)) | (unfold t_after; rw [if_neg (by omega), if_neg (by omega), if_neg (by omega), if_neg (by omega), if_neg (by omega), if_neg (by omega), if_neg (by omega), if_neg (by omega), if_neg (by omega)])
  · intro s_1
    refine r_iload_n hC dX2_after_137 rfl ?_
    refine r_S0 hC dX2_after_138 mi_X2_afterFirstDigit ss_X2_afterFirstDigit ml_X2_41 (rm := rmX2_afterFirstDigit) rfl rfl rfl ⟨le_b rfl, le_b rfl⟩ (k_fd hfC hs) ?_ rfl
    refine r_iret hC hR dX2_after_141 (le_b rfl) (le_b rfl) ?_
    refine ⟨congrArg (fun i => some (xI i)) ?_, rfl⟩
    first | (subst s_1; first | rfl | (show _ = (if s = 48 then (9 : Int) else t_fd s); split <;> first | rfl | contradiction) | (show _ = (if 48 ≤ s ∧ s ≤ 57 then (9 : Int) else t_end s); split <;> first | rfl | contradiction) | (show _ = (if 48 ≤ s ∧ s ≤ 51 then (9 : Int) else 0); split <;> first | rfl | contradiction)) | (unfold t_after; rw [if_neg (by omega), if_neg (by omega), if_neg (by omega), if_neg (by omega), if_neg (by omega), if_neg (by omega), if_neg (by omega), if_neg (by omega), if_neg (by omega)])
  · intro s_1
    refine r_iload_n hC dX2_after_142 rfl ?_
    refine r_bipush hC dX2_after_143 (by rfl) ?_
    refine r_bipush hC dX2_after_145 (by rfl) ?_
    refine r_S0 hC dX2_after_147 mi_X2_isBetween ss_X2_isBetween ml_X2_31 (rm := rmX2_isBetween) rfl rfl rfl ⟨le_b rfl, le_b rfl⟩ (k_isBetween hfC hs ⟨by omega, by omega⟩ ⟨by omega, by omega⟩) ?_ rfl
    refine r_beq (t := 158) hC dX2_after_150 (by rfl) (fun h_150 => ?_) (fun h_150 => ?_)
    · skip
      refine r_iload_n hC dX2_after_158 rfl ?_
      refine r_S0 hC dX2_after_159 mi_X2_afterEnd ss_X2_afterEnd ml_X2_44 (rm := rmX2_afterEnd) rfl rfl rfl ⟨le_b rfl, le_b rfl⟩ (k_end hfC hs) ?_ rfl
      refine r_iret hC hR dX2_after_162 (le_b rfl) (le_b rfl) ?_
      refine ⟨congrArg (fun i => some (xI i)) ?_, rfl⟩
      first | (subst s_1; first | rfl | (show _ = (if s = 48 then (9 : Int) else t_fd s); split <;> first | rfl | contradiction) | (show _ = (if 48 ≤ s ∧ s ≤ 57 then (9 : Int) else t_end s); split <;> first | rfl | contradiction) | (show _ = (if 48 ≤ s ∧ s ≤ 51 then (9 : Int) else 0); split <;> first | rfl | contradiction)) | (unfold t_after; rw [if_neg (by omega), if_neg (by omega), if_neg (by omega), if_neg (by omega), if_neg (by omega), if_neg (by omega), if_neg (by omega), if_neg (by omega), if_neg (by omega)])
    · skip
      refine r_bipush hC dX2_after_153 (by rfl) ?_
      refine r_goto (t := 162) hC dX2_after_155 (by rfl) ?_
      refine r_iret hC hR dX2_after_162 (le_b rfl) (le_b rfl) ?_
      refine ⟨congrArg (fun i => some (xI i)) ?_, rfl⟩
      first | (subst s_1; first | rfl | (show _ = (if s = 48 then (9 : Int) else t_fd s); split <;> first | rfl | contradiction) | (show _ = (if 48 ≤ s ∧ s ≤ 57 then (9 : Int) else t_end s); split <;> first | rfl | contradiction) | (show _ = (if 48 ≤ s ∧ s ≤ 51 then (9 : Int) else 0); split <;> first | rfl | contradiction)) | (unfold t_after; rw [if_neg (by omega), if_neg (by omega), if_neg (by omega), if_neg (by omega), if_neg (by omega), if_neg (by omega), if_neg (by omega), if_neg (by omega), if_neg (by omega)])
  · intro s_1
    refine r_iload_n hC dX2_after_163 rfl ?_
    refine r_S0 hC dX2_after_164 mi_X2_afterEnd ss_X2_afterEnd ml_X2_44 (rm := rmX2_afterEnd) rfl rfl rfl ⟨le_b rfl, le_b rfl⟩ (k_end hfC hs) ?_ rfl
    refine r_iret hC hR dX2_after_167 (le_b rfl) (le_b rfl) ?_
    refine ⟨congrArg (fun i => some (xI i)) ?_, rfl⟩
    first | (subst s_1; first | rfl | (show _ = (if s = 48 then (9 : Int) else t_fd s); split <;> first | rfl | contradiction) | (show _ = (if 48 ≤ s ∧ s ≤ 57 then (9 : Int) else t_end s); split <;> first | rfl | contradiction) | (show _ = (if 48 ≤ s ∧ s ≤ 51 then (9 : Int) else 0); split <;> first | rfl | contradiction)) | (unfold t_after; rw [if_neg (by omega), if_neg (by omega), if_neg (by omega), if_neg (by omega), if_neg (by omega), if_neg (by omega), if_neg (by omega), if_neg (by omega), if_neg (by omega)])
  · intro n_1
    refine r_iconst hC dX2_after_168 ?_
    refine r_iret hC hR dX2_after_169 (le_b rfl) (le_b rfl) ?_
    refine ⟨congrArg (fun i => some (xI i)) ?_, rfl⟩
    first | (subst s_1; first | rfl | (show _ = (if s = 48 then (9 : Int) else t_fd s); split <;> first | rfl | contradiction) | (show _ = (if 48 ≤ s ∧ s ≤ 57 then (9 : Int) else t_end s); split <;> first | rfl | contradiction) | (show _ = (if 48 ≤ s ∧ s ≤ 51 then (9 : Int) else 0); split <;> first | rfl | contradiction)) | (unfold t_after; rw [if_neg (by omega), if_neg (by omega), if_neg (by omega), if_neg (by omega), if_neg (by omega), if_neg (by omega), if_neg (by omega), if_neg (by omega), if_neg (by omega)])

abbrev rmX2_errorIndex : Room := { frames := 3, cells := 0, slots := 0, locals := 63 }
set_option maxRecDepth 100000 in
theorem k_Te_error {l : Launch} {D : DD} (hfl : l.stackTraces = false) {u : Mem} {b : Nat} (hO : TeO u b) (hz : 0 ≤ mI u b 1 ∧ mI u b 1 ≤ 60) : CT l D yX2_errorIndex cX2_errorIndex 3 (some .int) rmX2_errorIndex [xA b] u (fun r w => w = u ∧ ∃ k : Nat, r = some (xI k) ∧ (k : Int) ≤ mI u b 1 ∧ (∀ j : Nat, j < k → t_run (mI u (b + 1)) (j + 1) ≠ 0) ∧ ((k : Int) < mI u b 1 → t_run (mI u (b + 1)) (k + 1) = 0)) := by
  refine CT.of hfl (by decide) (le_b rfl) ?_
  intro C hC hR hL hDD hN
  have hfC : (cxL C).stackTraces = false := by rw [hL]; exact hfl
  have lp : ∀ (n : Nat) (i : Nat), ((mI u b 1 - i).toNat = n) → ((i : Int) ≤ mI u b 1) → (∀ j : Nat, j < i → t_run (mI u (b + 1)) (j + 1) ≠ 0) → VW C 4 [some (xA b), some (xI (t_run (mI u (b + 1)) i)), some (xI i)] [] u 0 0 := by
    intro n
    induction n using Nat.strongRecOn with
    | _ n ih =>
      intro i hn hi hs
      have hrr := t_run_rg (mI u (b + 1)) (i + 1)
      refine r_iload_n hC dX2_errorIndex_4 rfl ?_
      refine r_aload_n hC dX2_errorIndex_5 rfl ?_
      refine r_getI (j := 1) hC dX2_errorIndex_6 fl_X2_15 rfl rfl hO.o ?_
      refine r_icmp_ge (t := 35) hC dX2_errorIndex_9 (by rfl) (by first | with_reducible exact rg_mI _ _ _ | assumption | with_reducible exact rf_at rf _ | with_reducible exact rg_and _ _ | exact ⟨by omega, by omega⟩) (by first | with_reducible exact rg_mI _ _ _ | assumption | with_reducible exact rf_at rf _ | with_reducible exact rg_and _ _ | exact ⟨by omega, by omega⟩) (fun h_9 => ?_) (fun h_9 => ?_)
      · skip
        refine r_aload_n hC dX2_errorIndex_35 rfl ?_
        refine r_getI (j := 1) hC dX2_errorIndex_36 fl_X2_15 rfl rfl hO.o ?_
        refine r_iret hC hR dX2_errorIndex_39 (le_b rfl) (le_b rfl) ?_
        refine ⟨rfl, i, ?_, hi, hs, fun h => by omega⟩
        rw [show mI u b 1 = i by omega]
      · skip
        refine r_iload_n hC dX2_errorIndex_12 rfl ?_
        refine r_aload_n hC dX2_errorIndex_13 rfl ?_
        refine r_getR (j := 0) hC dX2_errorIndex_14 fl_X2_9 rfl rfl hO.o hO.p ?_
        refine r_iload_n hC dX2_errorIndex_17 rfl ?_
        refine r_iald hC dX2_errorIndex_18 hO.a ⟨by omega, by omega⟩ ?_
        refine r_S0 hC dX2_errorIndex_19 mi_X2_after ss_X2_after ml_X2_19 (rm := rmX2_after) rfl rfl rfl ⟨le_b rfl, le_b rfl⟩ (k_after hfC (by have := t_run_rg (mI u (b + 1)) i; exact ⟨by omega, by omega⟩) (rg_mI _ _ _)) ?_ rfl
        rw [show t_after (t_run (mI u (b + 1)) i) (mI u (b + 1) i) = t_run (mI u (b + 1)) (i + 1) from rfl]
        refine r_istore_n (lv' := [_, _, _]) hC dX2_errorIndex_22 (lt_b rfl) rfl (lt_b rfl) rfl ?_
        refine r_iload_n hC dX2_errorIndex_23 rfl ?_
        refine r_if_ne (t := 29) hC dX2_errorIndex_24 (by rfl) ⟨by omega, by omega⟩ (fun h_24 => ?_) (fun h_24 => ?_)
        · skip
          refine r_iinc (lv' := [_, _, _]) hC dX2_errorIndex_29 rfl (lt_b rfl) rfl (lt_b rfl) rfl ?_
          refine r_goto (t := 4) hC dX2_errorIndex_32 (by rfl) ?_
          exact ih _ (by omega) (i + 1) rfl (by omega) (fun j hj => by by_cases e : j = i; (subst e; exact h_24); exact hs j (by omega))
        · skip
          refine r_iload_n hC dX2_errorIndex_27 rfl ?_
          refine r_iret hC hR dX2_errorIndex_28 (le_b rfl) (le_b rfl) ?_
          exact ⟨rfl, i, rfl, hi, hs, fun _ => h_24⟩
  show VW C 0 [some (xA b), none, none] [] u 0 0
  refine r_iconst hC dX2_errorIndex_0 ?_
  refine r_istore_n (lv' := [_, _, _]) hC dX2_errorIndex_1 (lt_b rfl) rfl (lt_b rfl) rfl ?_
  refine r_iconst hC dX2_errorIndex_2 ?_
  refine r_istore_n (lv' := [_, _, _]) hC dX2_errorIndex_3 (lt_b rfl) rfl (lt_b rfl) rfl ?_
  exact lp _ 0 rfl (by omega) (fun j hj => by omega)

abbrev rmX2_isComplete : Room := { frames := 3, cells := 0, slots := 0, locals := 63 }
set_option maxRecDepth 100000 in
theorem k_Te_complete {l : Launch} {D : DD} (hfl : l.stackTraces = false) {u : Mem} {b : Nat} (hO : TeO u b) (hz : 0 ≤ mI u b 1 ∧ mI u b 1 ≤ 60) : CT l D yX2_isComplete cX2_isComplete 3 (some .boolean) rmX2_isComplete [xA b] u (RT (xI (bI (t_run (mI u (b + 1)) (mI u b 1).toNat = 9 ∨ t_run (mI u (b + 1)) (mI u b 1).toNat = 8))) u) := by
  refine CT.of hfl (by decide) (le_b rfl) ?_
  intro C hC hR hL hDD hN
  have hfC : (cxL C).stackTraces = false := by rw [hL]; exact hfl
  have lp : ∀ (n : Nat) (i : Nat), ((mI u b 1 - i).toNat = n) → ((i : Int) ≤ mI u b 1) → VW C 4 [some (xA b), some (xI (t_run (mI u (b + 1)) i)), some (xI i)] [] u 0 0 := by
    intro n
    induction n using Nat.strongRecOn with
    | _ n ih =>
      intro i hn hi
      have hrr := t_run_rg (mI u (b + 1)) i
      refine r_iload_n hC dX2_isComplete_4 rfl ?_
      refine r_aload_n hC dX2_isComplete_5 rfl ?_
      refine r_getI (j := 1) hC dX2_isComplete_6 fl_X2_15 rfl rfl hO.o ?_
      refine r_icmp_ge (t := 29) hC dX2_isComplete_9 (by rfl) (by first | with_reducible exact rg_mI _ _ _ | assumption | with_reducible exact rf_at rf _ | with_reducible exact rg_and _ _ | exact ⟨by omega, by omega⟩) (by first | with_reducible exact rg_mI _ _ _ | assumption | with_reducible exact rf_at rf _ | with_reducible exact rg_and _ _ | exact ⟨by omega, by omega⟩) (fun h_9 => ?_) (fun h_9 => ?_)
      · skip
        refine r_iload_n hC dX2_isComplete_29 rfl ?_
        refine r_bipush hC dX2_isComplete_30 (by rfl) ?_
        refine r_icmp_eq (t := 41) hC dX2_isComplete_32 (by rfl) ⟨by omega, by omega⟩ ⟨by omega, by omega⟩ (fun h_32 => ?_) (fun h_32 => ?_)
        · skip
          refine r_iconst hC dX2_isComplete_41 ?_
          refine r_goto (t := 46) hC dX2_isComplete_42 (by rfl) ?_
          refine r_zret hC hR dX2_isComplete_46 (by first | exact Or.inl rfl | exact Or.inr rfl) (le_b rfl) (le_b rfl) ?_
          rw [show (mI u b 1).toNat = i by omega]
          refine ⟨congrArg (fun i => some (xI i)) ?_, rfl⟩
          unfold bI; (repeat' split) <;> first | rfl | omega | (exfalso; omega)
        · skip
          refine r_iload_n hC dX2_isComplete_35 rfl ?_
          refine r_bipush hC dX2_isComplete_36 (by rfl) ?_
          refine r_icmp_ne (t := 45) hC dX2_isComplete_38 (by rfl) ⟨by omega, by omega⟩ ⟨by omega, by omega⟩ (fun h_38 => ?_) (fun h_38 => ?_)
          · skip
            refine r_iconst hC dX2_isComplete_45 ?_
            refine r_zret hC hR dX2_isComplete_46 (by first | exact Or.inl rfl | exact Or.inr rfl) (le_b rfl) (le_b rfl) ?_
            rw [show (mI u b 1).toNat = i by omega]
            refine ⟨congrArg (fun i => some (xI i)) ?_, rfl⟩
            unfold bI; (repeat' split) <;> first | rfl | omega | (exfalso; omega)
          · skip
            refine r_iconst hC dX2_isComplete_41 ?_
            refine r_goto (t := 46) hC dX2_isComplete_42 (by rfl) ?_
            refine r_zret hC hR dX2_isComplete_46 (by first | exact Or.inl rfl | exact Or.inr rfl) (le_b rfl) (le_b rfl) ?_
            rw [show (mI u b 1).toNat = i by omega]
            refine ⟨congrArg (fun i => some (xI i)) ?_, rfl⟩
            unfold bI; (repeat' split) <;> first | rfl | omega | (exfalso; omega)
      · skip
        refine r_iload_n hC dX2_isComplete_12 rfl ?_
        refine r_aload_n hC dX2_isComplete_13 rfl ?_
        refine r_getR (j := 0) hC dX2_isComplete_14 fl_X2_9 rfl rfl hO.o hO.p ?_
        refine r_iload_n hC dX2_isComplete_17 rfl ?_
        refine r_iald hC dX2_isComplete_18 hO.a ⟨by omega, by omega⟩ ?_
        refine r_S0 hC dX2_isComplete_19 mi_X2_after ss_X2_after ml_X2_19 (rm := rmX2_after) rfl rfl rfl ⟨le_b rfl, le_b rfl⟩ (k_after hfC (by have := t_run_rg (mI u (b + 1)) i; exact ⟨by omega, by omega⟩) (rg_mI _ _ _)) ?_ rfl
        rw [show t_after (t_run (mI u (b + 1)) i) (mI u (b + 1) i) = t_run (mI u (b + 1)) (i + 1) from rfl]
        refine r_istore_n (lv' := [_, _, _]) hC dX2_isComplete_22 (lt_b rfl) rfl (lt_b rfl) rfl ?_
        refine r_iinc (lv' := [_, _, _]) hC dX2_isComplete_23 rfl (lt_b rfl) rfl (lt_b rfl) rfl ?_
        refine r_goto (t := 4) hC dX2_isComplete_26 (by rfl) ?_
        exact ih _ (by omega) (i + 1) rfl (by omega)
  show VW C 0 [some (xA b), none, none] [] u 0 0
  refine r_iconst hC dX2_isComplete_0 ?_
  refine r_istore_n (lv' := [_, _, _]) hC dX2_isComplete_1 (lt_b rfl) rfl (lt_b rfl) rfl ?_
  refine r_iconst hC dX2_isComplete_2 ?_
  refine r_istore_n (lv' := [_, _, _]) hC dX2_isComplete_3 (lt_b rfl) rfl (lt_b rfl) rfl ?_
  exact lp _ 0 rfl (by omega)

abbrev rmX2_signAt : Room := { frames := 1, cells := 0, slots := 0, locals := 21 }
set_option maxRecDepth 100000 in
theorem k_Te_sign {l : Launch} {D : DD} (hfl : l.stackTraces = false) {u : Mem}  {b : Nat} (hO : TeO u b) (hz : 0 ≤ mI u b 1 ∧ mI u b 1 ≤ 60) {i : Int} (hi : rg i) : CT l D yX2_signAt cX2_signAt 2 (some .int) rmX2_signAt [xA b, xI i] u (RT (xI (t_sign (mI u (b + 1)) (mI u b 1) i)) u) := by
  refine CT.of hfl (by decide) (le_b rfl) ?_
  intro C hC hR hL hDD hN
  have hfC : (cxL C).stackTraces = false := by rw [hL]; exact hfl
  show VW C 0 [some (xA b), some (xI i)] [] u 0 0
  refine r_iload_n hC dX2_signAt_0 rfl ?_
  refine r_aload_n hC dX2_signAt_1 rfl ?_
  refine r_getI (j := 1) hC dX2_signAt_2 fl_X2_15 rfl rfl hO.o ?_
  refine r_SN0 hC dX2_signAt_5 mi_X7_isBelow ss_X7_isBelow mn_X2_27 (rm := rmX7_isBelow) rfl rfl rfl ⟨le_b rfl, le_b rfl⟩ (k_isBelow hfC hi (rg_mI _ _ _)) ?_ rfl
  refine r_beq (t := 20) hC dX2_signAt_8 (by rfl) (fun h_8 => ?_) (fun h_8 => ?_)
  · skip
    refine r_iconst hC dX2_signAt_20 ?_
    refine r_iret hC hR dX2_signAt_21 (le_b rfl) (le_b rfl) ?_
    refine ⟨congrArg (fun i => some (xI i)) ?_, rfl⟩
    unfold t_sign
    (repeat' split) <;> first | rfl | omega | (exfalso; omega)
  · skip
    refine r_aload_n hC dX2_signAt_11 rfl ?_
    refine r_getR (j := 0) hC dX2_signAt_12 fl_X2_9 rfl rfl hO.o hO.p ?_
    refine r_iload_n hC dX2_signAt_15 rfl ?_
    refine r_iald hC dX2_signAt_16 hO.a ⟨by omega, by omega⟩ ?_
    refine r_goto (t := 21) hC dX2_signAt_17 (by rfl) ?_
    refine r_iret hC hR dX2_signAt_21 (le_b rfl) (le_b rfl) ?_
    refine ⟨congrArg (fun i => some (xI i)) ?_, rfl⟩
    unfold t_sign
    (repeat' split) <;> first | rfl | omega | (exfalso; omega)

theorem t_sign_rg {b : RW} (hb : RF b) (n i : Int) : rg (t_sign b n i) := by
  unfold t_sign; split
  · exact hb _
  · exact ⟨by decide, by decide⟩
abbrev rmX2_digitAt : Room := { frames := 2, cells := 0, slots := 0, locals := 42 }
set_option maxRecDepth 100000 in
theorem k_Te_digit {l : Launch} {D : DD} (hfl : l.stackTraces = false) {u : Mem}  {b : Nat} (hO : TeO u b) (hz : 0 ≤ mI u b 1 ∧ mI u b 1 ≤ 60) {i : Int} (hi : rg i) : CT l D yX2_digitAt cX2_digitAt 3 (some .int) rmX2_digitAt [xA b, xI i] u (RT (xI (t_dig (mI u (b + 1)) (mI u b 1) i)) u) := by
  refine CT.of hfl (by decide) (le_b rfl) ?_
  intro C hC hR hL hDD hN
  have hfC : (cxL C).stackTraces = false := by rw [hL]; exact hfl
  show VW C 0 [some (xA b), some (xI i), none] [] u 0 0
  refine r_aload_n hC dX2_digitAt_0 rfl ?_
  refine r_iload_n hC dX2_digitAt_1 rfl ?_
  refine r_V0 hC dX2_digitAt_2 mi_X2_signAt se_X2_signAt ml_X2_23 (rm := rmX2_signAt) rfl hO.o rfl rfl rfl rfl ⟨le_b rfl, le_b rfl⟩ (k_Te_sign hfC hO hz hi) ?_ rfl
  refine r_istore_n (lv' := [_, _, _]) hC dX2_digitAt_5 (lt_b rfl) rfl (lt_b rfl) rfl ?_
  refine r_iload_n hC dX2_digitAt_6 rfl ?_
  refine r_bipush hC dX2_digitAt_7 (by rfl) ?_
  refine r_bipush hC dX2_digitAt_9 (by rfl) ?_
  refine r_S0 hC dX2_digitAt_11 mi_X2_isBetween ss_X2_isBetween ml_X2_31 (rm := rmX2_isBetween) rfl rfl rfl ⟨le_b rfl, le_b rfl⟩ (k_isBetween hfC (t_sign_rg (rf_mI _ _) _ _) ⟨by omega, by omega⟩ ⟨by omega, by omega⟩) ?_ rfl
  refine r_beq (t := 24) hC dX2_digitAt_14 (by rfl) (fun h_14 => ?_) (fun h_14 => ?_)
  · skip
    refine r_iconst hC dX2_digitAt_24 ?_
    refine r_iret hC hR dX2_digitAt_25 (le_b rfl) (le_b rfl) ?_
    refine ⟨congrArg (fun i => some (xI i)) ?_, rfl⟩
    unfold t_dig
    (repeat' split) <;> first | rfl | omega | (exfalso; omega)
  · skip
    refine r_iload_n hC dX2_digitAt_17 rfl ?_
    refine r_bipush hC dX2_digitAt_18 (by rfl) ?_
    refine r_isub hC dX2_digitAt_20 ?_
    refine r_goto (t := 25) hC dX2_digitAt_21 (by rfl) ?_
    refine r_iret hC hR dX2_digitAt_25 (le_b rfl) (le_b rfl) ?_
    refine ⟨congrArg (fun i => some (xI i)) ?_, rfl⟩
    unfold t_dig
    (repeat' split) <;> first | rfl | omega | (exfalso; omega)

abbrev rmX2_numberAt : Room := { frames := 3, cells := 0, slots := 0, locals := 64 }
set_option maxRecDepth 100000 in
theorem k_Te_number {l : Launch} {D : DD} (hfl : l.stackTraces = false) {u : Mem} {b : Nat} (hO : TeO u b) (hz : 0 ≤ mI u b 1 ∧ mI u b 1 ≤ 60) {i : Int} (hi : -10 ≤ i ∧ i ≤ 100) : CT l D yX2_numberAt cX2_numberAt 4 (some .int) rmX2_numberAt [xA b, xI i] u (RT (xI (t_num (mI u (b + 1)) (mI u b 1) i)) u) := by
  refine CT.of hfl (by decide) (le_b rfl) ?_
  intro C hC hR hL hDD hN
  have hfC : (cxL C).stackTraces = false := by rw [hL]; exact hfl
  show VW C 0 [some (xA b), some (xI i), none, none] [] u 0 0
  refine r_aload_n hC dX2_numberAt_0 rfl ?_
  refine r_iload_n hC dX2_numberAt_1 rfl ?_
  refine r_V0 hC dX2_numberAt_2 mi_X2_digitAt se_X2_digitAt ml_X2_35 (rm := rmX2_digitAt) rfl hO.o rfl rfl rfl rfl ⟨le_b rfl, le_b rfl⟩ (k_Te_digit hfC hO hz ⟨by omega, by omega⟩) ?_ rfl
  refine r_istore_n (lv' := [_, _, _, _]) hC dX2_numberAt_5 (lt_b rfl) rfl (lt_b rfl) rfl ?_
  refine r_aload_n hC dX2_numberAt_6 rfl ?_
  refine r_iload_n hC dX2_numberAt_7 rfl ?_
  refine r_iconst hC dX2_numberAt_8 ?_
  refine r_iadd hC dX2_numberAt_9 ?_
  refine r_V0 hC dX2_numberAt_10 mi_X2_digitAt se_X2_digitAt ml_X2_35 (rm := rmX2_digitAt) rfl hO.o rfl rfl rfl rfl ⟨le_b rfl, le_b rfl⟩ (k_Te_digit hfC hO hz ⟨by omega, by omega⟩) ?_ rfl
  refine r_istore_n (lv' := [_, _, _, _]) hC dX2_numberAt_13 (lt_b rfl) rfl (lt_b rfl) rfl ?_
  refine r_iload_n hC dX2_numberAt_14 rfl ?_
  refine r_iconst hC dX2_numberAt_15 ?_
  refine r_icmp_ne (t := 23) hC dX2_numberAt_16 (by rfl) (by have := t_dig_rg (mI u (b + 1)) (mI u b 1) (i + 1); exact ⟨by omega, by omega⟩) ⟨by omega, by omega⟩ (fun h_16 => ?_) (fun h_16 => ?_)
  · skip
    refine r_bipush hC dX2_numberAt_23 (by rfl) ?_
    refine r_iload_n hC dX2_numberAt_25 rfl ?_
    refine r_imul hC dX2_numberAt_26 ?_
    refine r_iload_n hC dX2_numberAt_27 rfl ?_
    refine r_iadd hC dX2_numberAt_28 ?_
    refine r_iret hC hR dX2_numberAt_29 (le_b rfl) (le_b rfl) ?_
    refine ⟨congrArg (fun i => some (xI i)) ?_, rfl⟩
    unfold t_num
    (repeat' split) <;> first | rfl | omega | (exfalso; omega)
  · skip
    refine r_iload_n hC dX2_numberAt_19 rfl ?_
    refine r_goto (t := 29) hC dX2_numberAt_20 (by rfl) ?_
    refine r_iret hC hR dX2_numberAt_29 (le_b rfl) (le_b rfl) ?_
    refine ⟨congrArg (fun i => some (xI i)) ?_, rfl⟩
    unfold t_num
    (repeat' split) <;> first | rfl | omega | (exfalso; omega)

abbrev rmX2_beginsPart : Room := { frames := 2, cells := 0, slots := 0, locals := 42 }
set_option maxRecDepth 100000 in
theorem k_Te_begins {l : Launch} {D : DD} (hfl : l.stackTraces = false) {u : Mem}  {b : Nat} (hO : TeO u b) (hz : 0 ≤ mI u b 1 ∧ mI u b 1 ≤ 60) {i : Int} (hi : -10 ≤ i ∧ i ≤ 100) : CT l D yX2_beginsPart cX2_beginsPart 2 (some .boolean) rmX2_beginsPart [xA b, xI i] u (RT (xI (bI (i = 0 ∨ t_sign (mI u (b + 1)) (mI u b 1) (i - 1) = 59))) u) := by
  refine CT.of hfl (by decide) (le_b rfl) ?_
  intro C hC hR hL hDD hN
  have hfC : (cxL C).stackTraces = false := by rw [hL]; exact hfl
  show VW C 0 [some (xA b), some (xI i)] [] u 0 0
  refine r_iload_n hC dX2_beginsPart_0 rfl ?_
  refine r_if_eq (t := 16) hC dX2_beginsPart_1 (by rfl) ⟨by omega, by omega⟩ (fun h_1 => ?_) (fun h_1 => ?_)
  · skip
    refine r_iconst hC dX2_beginsPart_16 ?_
    refine r_goto (t := 21) hC dX2_beginsPart_17 (by rfl) ?_
    refine r_zret hC hR dX2_beginsPart_21 (by first | exact Or.inl rfl | exact Or.inr rfl) (le_b rfl) (le_b rfl) ?_
    refine ⟨congrArg (fun i => some (xI i)) ?_, rfl⟩
    unfold bI; (repeat' split) <;> first | rfl | omega | (exfalso; omega)
  · skip
    refine r_aload_n hC dX2_beginsPart_4 rfl ?_
    refine r_iload_n hC dX2_beginsPart_5 rfl ?_
    refine r_iconst hC dX2_beginsPart_6 ?_
    refine r_isub hC dX2_beginsPart_7 ?_
    refine r_V0 hC dX2_beginsPart_8 mi_X2_signAt se_X2_signAt ml_X2_23 (rm := rmX2_signAt) rfl hO.o rfl rfl rfl rfl ⟨le_b rfl, le_b rfl⟩ (k_Te_sign hfC hO hz ⟨by omega, by omega⟩) ?_ rfl
    refine r_bipush hC dX2_beginsPart_11 (by rfl) ?_
    refine r_icmp_ne (t := 20) hC dX2_beginsPart_13 (by rfl) (t_sign_rg (rf_mI _ _) _ _) ⟨by omega, by omega⟩ (fun h_13 => ?_) (fun h_13 => ?_)
    · skip
      refine r_iconst hC dX2_beginsPart_20 ?_
      refine r_zret hC hR dX2_beginsPart_21 (by first | exact Or.inl rfl | exact Or.inr rfl) (le_b rfl) (le_b rfl) ?_
      refine ⟨congrArg (fun i => some (xI i)) ?_, rfl⟩
      unfold bI; (repeat' split) <;> first | rfl | omega | (exfalso; omega)
    · skip
      refine r_iconst hC dX2_beginsPart_16 ?_
      refine r_goto (t := 21) hC dX2_beginsPart_17 (by rfl) ?_
      refine r_zret hC hR dX2_beginsPart_21 (by first | exact Or.inl rfl | exact Or.inr rfl) (le_b rfl) (le_b rfl) ?_
      refine ⟨congrArg (fun i => some (xI i)) ?_, rfl⟩
      unfold bI; (repeat' split) <;> first | rfl | omega | (exfalso; omega)

