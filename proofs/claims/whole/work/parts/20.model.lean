/-! ===== the reference ===== -/
def MO (u : Mem) (m : Nat) : Prop := mSh u m = some (.inl 8) ∧ (mP u m 0 = some (m + 1) ∧ mSh u (m + 1) = some (.inr (0, 1651))) ∧ (mP u m 1 = some (m + 2) ∧ mSh u (m + 2) = some (.inr (0, 9906))) ∧ (mP u m 2 = some (m + 3) ∧ mSh u (m + 3) = some (.inr (0, 1651))) ∧ (mP u m 3 = some (m + 4) ∧ mSh u (m + 4) = some (.inr (0, 1651))) ∧ (mP u m 6 = some (m + 5) ∧ mSh u (m + 5) = some (.inr (0, 60))) ∧ (mP u m 9 = some (m + 6) ∧ mSh u (m + 6) = some (.inr (0, 3))) ∧ (mP u m 10 = some (m + 7) ∧ mSh u (m + 7) = some (.inr (0, 8)))
theorem MO.o {u : Mem} {m : Nat} (h : MO u m) : mSh u m = some (.inl 8) := h.1
theorem MO.p_row {u : Mem} {m : Nat} (h : MO u m) : mP u m 0 = some (m + 1) := h.2.1.1
theorem MO.a_row {u : Mem} {m : Nat} (h : MO u m) : mSh u (m + 1) = some (.inr (0, 1651)) := h.2.1.2
theorem MO.p_past {u : Mem} {m : Nat} (h : MO u m) : mP u m 1 = some (m + 2) := h.2.2.1.1
theorem MO.a_past {u : Mem} {m : Nat} (h : MO u m) : mSh u (m + 2) = some (.inr (0, 9906)) := h.2.2.1.2
theorem MO.p_kept {u : Mem} {m : Nat} (h : MO u m) : mP u m 2 = some (m + 3) := h.2.2.2.1.1
theorem MO.a_kept {u : Mem} {m : Nat} (h : MO u m) : mSh u (m + 3) = some (.inr (0, 1651)) := h.2.2.2.1.2
theorem MO.p_aside {u : Mem} {m : Nat} (h : MO u m) : mP u m 3 = some (m + 4) := h.2.2.2.2.1.1
theorem MO.a_aside {u : Mem} {m : Nat} (h : MO u m) : mSh u (m + 4) = some (.inr (0, 1651)) := h.2.2.2.2.1.2
theorem MO.p_buffer {u : Mem} {m : Nat} (h : MO u m) : mP u m 6 = some (m + 5) := h.2.2.2.2.2.1.1
theorem MO.a_buffer {u : Mem} {m : Nat} (h : MO u m) : mSh u (m + 5) = some (.inr (0, 60)) := h.2.2.2.2.2.1.2
theorem MO.p_numbers {u : Mem} {m : Nat} (h : MO u m) : mP u m 9 = some (m + 6) := h.2.2.2.2.2.2.1.1
theorem MO.a_numbers {u : Mem} {m : Nat} (h : MO u m) : mSh u (m + 6) = some (.inr (0, 3)) := h.2.2.2.2.2.2.1.2
theorem MO.p_batch {u : Mem} {m : Nat} (h : MO u m) : mP u m 10 = some (m + 7) := h.2.2.2.2.2.2.2.1
theorem MO.a_batch {u : Mem} {m : Nat} (h : MO u m) : mSh u (m + 7) = some (.inr (0, 8)) := h.2.2.2.2.2.2.2.2
abbrev rmX8_in : Room := { frames := 0, cells := 0, slots := 0, locals := 0 }
set_option maxRecDepth 100000 in
theorem k_in {l : Launch} {D : DD} (hfl : l.stackTraces = false) {u : Mem} {v lo hi : Int} (h1 : rg v) (h2 : rg lo) (h3 : rg hi) : CT l D yX8_in cX8_in 3 (some .boolean) rmX8_in [xI v, xI lo, xI hi] u (RT (xI (bI (lo ≤ v ∧ v ≤ hi))) u) := by
  refine CT.of hfl (by decide) (le_b rfl) ?_
  intro C hC hR hL hDD hN
  have hfC : (cxL C).stackTraces = false := by rw [hL]; exact hfl
  show VW C 0 [some (xI v), some (xI lo), some (xI hi)] [] u 0 0
  refine r_iload_n hC dX8_in_0 rfl ?_
  refine r_iload_n hC dX8_in_1 rfl ?_
  refine r_icmp_lt (t := 14) hC dX8_in_2 (by rfl) (by first | exact rg_mI _ _ _ | exact ⟨by omega, by omega⟩) (by first | exact rg_mI _ _ _ | exact ⟨by omega, by omega⟩) (fun h_2 => ?_) (fun h_2 => ?_)
  · skip
    refine r_iconst hC dX8_in_14 ?_
    refine r_zret hC hR dX8_in_15 (by first | exact Or.inl rfl | exact Or.inr rfl) (le_b rfl) (le_b rfl) ?_
    exact ⟨congrArg (fun i => some (xI i)) (by unfold bI; split <;> omega), rfl⟩
  · skip
    refine r_iload_n hC dX8_in_5 rfl ?_
    refine r_iload_n hC dX8_in_6 rfl ?_
    refine r_icmp_gt (t := 14) hC dX8_in_7 (by rfl) (by first | exact rg_mI _ _ _ | exact ⟨by omega, by omega⟩) (by first | exact rg_mI _ _ _ | exact ⟨by omega, by omega⟩) (fun h_7 => ?_) (fun h_7 => ?_)
    · skip
      refine r_iconst hC dX8_in_14 ?_
      refine r_zret hC hR dX8_in_15 (by first | exact Or.inl rfl | exact Or.inr rfl) (le_b rfl) (le_b rfl) ?_
      exact ⟨congrArg (fun i => some (xI i)) (by unfold bI; split <;> omega), rfl⟩
    · skip
      refine r_iconst hC dX8_in_10 ?_
      refine r_goto (t := 15) hC dX8_in_11 (by rfl) ?_
      refine r_zret hC hR dX8_in_15 (by first | exact Or.inl rfl | exact Or.inr rfl) (le_b rfl) (le_b rfl) ?_
      exact ⟨congrArg (fun i => some (xI i)) (by unfold bI; split <;> omega), rfl⟩

abbrev rmX8_of : Room := { frames := 0, cells := 0, slots := 0, locals := 0 }
set_option maxRecDepth 100000 in
theorem k_of {l : Launch} {D : DD} (hfl : l.stackTraces = false) {u : Mem} {m : Nat} (hM : MO u m) {r w : Int} (h : 0 ≤ 697 + 38 * r + w ∧ 697 + 38 * r + w < 1651) : CT l D yX8_of cX8_of 3 (some .int) rmX8_of [xA m, xI r, xI w] u (RT (xI (mI u (m + 1) (697 + 38 * r + w))) u) := by
  refine CT.of hfl (by decide) (le_b rfl) ?_
  intro C hC hR hL hDD hN
  have hfC : (cxL C).stackTraces = false := by rw [hL]; exact hfl
  show VW C 0 [some (xA m), some (xI r), some (xI w)] [] u 0 0
  refine r_aload_n hC dX8_of_0 rfl ?_
  refine r_getR (j := 0) hC dX8_of_1 fl_X8_7 rfl rfl hM.o hM.p_row ?_
  refine r_sipush hC dX8_of_4 (by rfl) ?_
  refine r_bipush hC dX8_of_7 (by rfl) ?_
  refine r_iload_n hC dX8_of_9 rfl ?_
  refine r_imul hC dX8_of_10 ?_
  refine r_iadd hC dX8_of_11 ?_
  refine r_iload_n hC dX8_of_12 rfl ?_
  refine r_iadd hC dX8_of_13 ?_
  refine r_iald hC dX8_of_14 hM.a_row ⟨by omega, by omega⟩ ?_
  refine r_iret hC hR dX8_of_15 (le_b rfl) (le_b rfl) ?_
  exact ⟨rfl, rfl⟩

