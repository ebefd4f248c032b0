/-! ===== the law's small methods ===== -/
def m_low (v n : Int) : Int := (b_and v 2147483647).tmod n
theorem and_top (x : Int) : 0 ≤ b_and x 2147483647 := by
  obtain ⟨j, hj, e⟩ := pk_andE (Int32.ofInt x) (m := 2147483647) 31 (by decide)
  unfold b_and
  rw [show Int32.ofInt 2147483647 = 2147483647 from rfl, e, nI_toInt hj]
  omega
theorem low_rg (v : Int) {n : Int} (hn : 0 < n) : 0 ≤ m_low v n ∧ m_low v n < n := by
  unfold m_low
  have h := and_top v
  rw [Int.tmod_eq_emod_of_nonneg h]
  exact ⟨Int.emod_nonneg _ (by omega), Int.emod_lt_of_pos _ hn⟩
abbrev rmL_low : Room := { frames := 0, cells := 0, slots := 0, locals := 0 }
set_option maxRecDepth 100000 in
theorem l_low {l : Launch} {D : DD} (hfl : l.stackTraces = false) {u : Mem} {v n : Int} (hn : 0 < n ∧ n ≤ 1000) : CT l D yL_low cL_low 2 (some .int) rmL_low [xI v, xI n] u (RT (xI (m_low v n)) u) := by
  refine CT.of hfl (by decide) (le_b rfl) ?_
  intro C hC hR hL hDD hN
  have hfC : (cxL C).stackTraces = false := by rw [hL]; exact hfl
  have hRc : 0 ≤ rmL_low.cells := le_b rfl
  have hRz : 0 ≤ rmL_low.slots := le_b rfl
  show VW C 0 [some (xI v), some (xI n)] [] u 0 0
  refine r_iload_n hC dL_low_0 rfl ?_
  refine r_ldc hC (v := 2147483647) dL_low_1 kc_L_8 (by rfl) ?_
  refine r_iand hC dL_low_3 ?_
  refine r_iload_n hC dL_low_4 rfl ?_
  refine r_irem hC (rg_and _ _) ⟨by omega, by omega⟩ (by omega) dL_low_5 ?_
  refine r_iret hC hR dL_low_6 (by omega) (by omega) ?_
  exact ⟨rfl, rfl⟩
abbrev rmL_greater : Room := { frames := 0, cells := 0, slots := 0, locals := 0 }
set_option maxRecDepth 100000 in
theorem l_greater {l : Launch} {D : DD} (hfl : l.stackTraces = false) {u : Mem} {a b : Int} (ha : rg a) (hb : rg b) : CT l D yL_greater cL_greater 2 (some .int) rmL_greater [xI a, xI b] u (RT (xI (if a ≤ b then b else a)) u) := by
  refine CT.of hfl (by decide) (le_b rfl) ?_
  intro C hC hR hL hDD hN
  have hfC : (cxL C).stackTraces = false := by rw [hL]; exact hfl
  have hRc : 0 ≤ rmL_greater.cells := le_b rfl
  have hRz : 0 ≤ rmL_greater.slots := le_b rfl
  show VW C 0 [some (xI a), some (xI b)] [] u 0 0
  refine r_iload_n hC dL_greater_0 rfl ?_
  refine r_iload_n hC dL_greater_1 rfl ?_
  refine r_icmp_le (t := 9) hC dL_greater_2 (by rfl) ha hb (fun h_2 => ?_) (fun h_2 => ?_)
  · skip
    refine r_iload_n hC dL_greater_9 rfl ?_
    refine r_iret hC hR dL_greater_10 (by omega) (by omega) ?_
    exact ⟨by rw [if_pos h_2], rfl⟩
  · skip
    refine r_iload_n hC dL_greater_5 rfl ?_
    refine r_goto (t := 10) hC dL_greater_6 (by rfl) ?_
    refine r_iret hC hR dL_greater_10 (by omega) (by omega) ?_
    exact ⟨by rw [if_neg (by omega)], rfl⟩
abbrev rmL_in : Room := { frames := 0, cells := 0, slots := 0, locals := 0 }
set_option maxRecDepth 100000 in
theorem l_in {l : Launch} {D : DD} (hfl : l.stackTraces = false) {u : Mem} {v lo hi : Int} (hv : rg v) (hl : rg lo) (hh : rg hi) : CT l D yL_in cL_in 3 (some .boolean) rmL_in [xI v, xI lo, xI hi] u (RT (xI (bI (lo ≤ v ∧ v ≤ hi))) u) := by
  refine CT.of hfl (by decide) (le_b rfl) ?_
  intro C hC hR hL hDD hN
  have hfC : (cxL C).stackTraces = false := by rw [hL]; exact hfl
  have hRc : 0 ≤ rmL_in.cells := le_b rfl
  have hRz : 0 ≤ rmL_in.slots := le_b rfl
  show VW C 0 [some (xI v), some (xI lo), some (xI hi)] [] u 0 0
  refine r_iload_n hC dL_in_0 rfl ?_
  refine r_iload_n hC dL_in_1 rfl ?_
  refine r_icmp_lt (t := 14) hC dL_in_2 (by rfl) hv hl (fun h_2 => ?_) (fun h_2 => ?_)
  · skip
    refine r_iconst hC dL_in_14 ?_
    refine r_zret hC hR dL_in_15 (Or.inl rfl) (by omega) (by omega) ?_
    exact ⟨by unfold bI; rw [if_neg (by omega)], rfl⟩
  · skip
    refine r_iload_n hC dL_in_5 rfl ?_
    refine r_iload_n hC dL_in_6 rfl ?_
    refine r_icmp_gt (t := 14) hC dL_in_7 (by rfl) hv hh (fun h_7 => ?_) (fun h_7 => ?_)
    · skip
      refine r_iconst hC dL_in_14 ?_
      refine r_zret hC hR dL_in_15 (Or.inl rfl) (by omega) (by omega) ?_
      exact ⟨by unfold bI; rw [if_neg (by omega)], rfl⟩
    · skip
      refine r_iconst hC dL_in_10 ?_
      refine r_goto (t := 15) hC dL_in_11 (by rfl) ?_
      refine r_zret hC hR dL_in_15 (Or.inr rfl) (by omega) (by omega) ?_
      exact ⟨by unfold bI; rw [if_pos (by omega)], rfl⟩
abbrev rmL_cell : Room := { frames := 0, cells := 0, slots := 0, locals := 0 }
set_option maxRecDepth 100000 in
theorem l_cell {l : Launch} {D : DD} (hfl : l.stackTraces = false) {u : Mem} {a L : Nat} {k : Int} (hs : mSh u a = some (.inr (9, L))) (hL : L ≤ 260) (hk : 0 ≤ k ∧ k ≤ 1000) : CT l D yL_cell cL_cell 2 (some .int) rmL_cell [xA a, xI k] u (fun o w => (∃ v : Int, o = some (xI v)) ∧ w = u) := by
  refine CT.of hfl (by decide) (le_b rfl) ?_
  intro C hC hR hL hDD hN
  have hfC : (cxL C).stackTraces = false := by rw [hL]; exact hfl
  have hRc : 0 ≤ rmL_cell.cells := le_b rfl
  have hRz : 0 ≤ rmL_cell.slots := le_b rfl
  show VW C 0 [some (xA a), some (xI k)] [] u 0 0
  refine r_iload_n hC dL_cell_0 rfl ?_
  refine r_aload_n hC dL_cell_1 rfl ?_
  refine r_alenS hC dL_cell_2 hs ?_
  refine r_icmp_ge (t := 12) hC dL_cell_3 (by rfl) (by first | exact rg_mI _ _ _ | exact ⟨by omega, by omega⟩ | assumption) (by first | exact rg_mI _ _ _ | exact ⟨by omega, by omega⟩ | assumption) (fun h_3 => ?_) (fun h_3 => ?_)
  · skip
    refine r_ldc hC (v := 22310023) dL_cell_12 kc_L_7 (by rfl) ?_
    refine r_iload_n hC dL_cell_14 rfl ?_
    refine r_imul hC dL_cell_15 ?_
    refine r_sipush hC dL_cell_16 (by rfl) ?_
    refine r_iadd hC dL_cell_19 ?_
    refine r_iret hC hR dL_cell_20 (by omega) (by omega) ?_
    exact ⟨⟨_, rfl⟩, rfl⟩
  · skip
    refine r_aload_n hC dL_cell_6 rfl ?_
    refine r_iload_n hC dL_cell_7 rfl ?_
    refine r_ialdS hC dL_cell_8 hs ⟨by omega, by omega⟩ ?_
    refine r_goto (t := 20) hC dL_cell_9 (by rfl) ?_
    refine r_iret hC hR dL_cell_20 (by omega) (by omega) ?_
    exact ⟨⟨_, rfl⟩, rfl⟩
