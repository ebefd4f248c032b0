/-! its words on rows -/
def m_of (r : RW) (c w : Int) : Int := r (697 + 38 * c + w)
def m_its (r : RW) (p w : Int) : Int := r (17 + 20 * p + w)
def m_way (r : RW) (n w : Int) : Int := r (811 + 7 * n + w)
def m_open (r : RW) (p : Int) : Bool := decide (0 ≤ p ∧ p ≤ 3) && decide (m_its r p 0 = 1)
def m_topic (r : RW) (k : Int) : Int := (r (97 + 3 * k)).tmod 4
def m_value (r : RW) (k : Int) : Int := (r (97 + 3 * k)).tdiv 4
def m_write (r : RW) (k : Int) : Int := r (97 + 3 * k + 1)
def m_mark (r : RW) (k b : Int) : Bool := decide (b_and (b_shr (r (97 + 3 * k + 2)) b) 1 = 1)
/-- a row's mark is set -/
def m_setm (r : RW) (k b : Int) : RW := up r (97 + 3 * k + 2) (b_or (r (97 + 3 * k + 2)) (b_shl 1 b))
theorem rf_setm {r : RW} (h : RF r) (k b : Int) : RF (m_setm r k b) := rf_up h _ _
def m_num (r : RW) (k : Int) : Int := if r 10 = 0 then k else m_write r k
def m_kept (r : RW) : Int := r 2 - r 3
def m_wants (r : RW) (c t : Int) : Bool := decide (b_and (b_shr (m_of r c 0) t) 1 = 1)
def m_ans (r : RW) (k c : Int) : Bool := !(m_wants r c (m_topic r k)) || decide (m_num r k ≤ m_of r c 8)
theorem rf_at {r : RW} (h : RF r) (k : Int) : rg (r k) := h k
theorem rg_num {r : RW} (h : RF r) {k : Int} (hk : rg k) : rg (m_num r k) := by
  unfold m_num; split
  · exact hk
  · exact h _
theorem rg_of {r : RW} (h : RF r) (c w : Int) : rg (m_of r c w) := h _
theorem rg_its {r : RW} (h : RF r) (c w : Int) : rg (m_its r c w) := h _
theorem rg_way {r : RW} (h : RF r) (c w : Int) : rg (m_way r c w) := h _
abbrev rmX8_in : Room := { frames := 0, cells := 0, slots := 0, locals := 0 }
set_option maxRecDepth 100000 in
theorem k_in {l : Launch} {D : DD} (hfl : l.stackTraces = false) {u : Mem} {v lo hi : Int} (h1 : rg v) (h2 : rg lo) (h3 : rg hi) : CT l D yX8_in cX8_in 3 (some .boolean) rmX8_in [xI v, xI lo, xI hi] u (RT (xI (bI (lo ≤ v ∧ v ≤ hi))) u) := by
  refine CT.of hfl (by decide) (le_b rfl) ?_
  intro C hC hR hL hDD hN
  have hfC : (cxL C).stackTraces = false := by rw [hL]; exact hfl
  show VW C 0 [some (xI v), some (xI lo), some (xI hi)] [] u 0 0
  refine r_iload_n hC dX8_in_0 rfl ?_
  refine r_iload_n hC dX8_in_1 rfl ?_
  refine r_icmp_lt (t := 14) hC dX8_in_2 (by rfl) (by first | with_reducible exact rg_mI _ _ _ | (with_reducible refine rg_of ?_ _ _; (repeat (first | assumption | apply rf_up | apply rf_setm | apply rf_mI)); done) | (with_reducible refine rg_its ?_ _ _; (repeat (first | assumption | apply rf_up | apply rf_setm | apply rf_mI)); done) | (with_reducible refine rg_way ?_ _ _; (repeat (first | assumption | apply rf_up | apply rf_setm | apply rf_mI)); done) | with_reducible exact rg_and _ _ | (with_reducible refine rg_num ?_ ⟨by omega, by omega⟩; (repeat (first | assumption | apply rf_up | apply rf_setm | apply rf_mI)); done) | (with_reducible refine rf_at ?_ _; (repeat (first | assumption | apply rf_up | apply rf_setm | apply rf_mI)); done) | exact ⟨by omega, by omega⟩) (by first | with_reducible exact rg_mI _ _ _ | (with_reducible refine rg_of ?_ _ _; (repeat (first | assumption | apply rf_up | apply rf_setm | apply rf_mI)); done) | (with_reducible refine rg_its ?_ _ _; (repeat (first | assumption | apply rf_up | apply rf_setm | apply rf_mI)); done) | (with_reducible refine rg_way ?_ _ _; (repeat (first | assumption | apply rf_up | apply rf_setm | apply rf_mI)); done) | with_reducible exact rg_and _ _ | (with_reducible refine rg_num ?_ ⟨by omega, by omega⟩; (repeat (first | assumption | apply rf_up | apply rf_setm | apply rf_mI)); done) | (with_reducible refine rf_at ?_ _; (repeat (first | assumption | apply rf_up | apply rf_setm | apply rf_mI)); done) | exact ⟨by omega, by omega⟩) (fun h_2 => ?_) (fun h_2 => ?_)
  · skip
    refine r_iconst hC dX8_in_14 ?_
    refine r_zret hC hR dX8_in_15 (by first | exact Or.inl rfl | exact Or.inr rfl) (le_b rfl) (le_b rfl) ?_
    refine ⟨congrArg (fun i => some (xI i)) ?_, rfl⟩
    unfold bI; split <;> omega
  · skip
    refine r_iload_n hC dX8_in_5 rfl ?_
    refine r_iload_n hC dX8_in_6 rfl ?_
    refine r_icmp_gt (t := 14) hC dX8_in_7 (by rfl) (by first | with_reducible exact rg_mI _ _ _ | (with_reducible refine rg_of ?_ _ _; (repeat (first | assumption | apply rf_up | apply rf_setm | apply rf_mI)); done) | (with_reducible refine rg_its ?_ _ _; (repeat (first | assumption | apply rf_up | apply rf_setm | apply rf_mI)); done) | (with_reducible refine rg_way ?_ _ _; (repeat (first | assumption | apply rf_up | apply rf_setm | apply rf_mI)); done) | with_reducible exact rg_and _ _ | (with_reducible refine rg_num ?_ ⟨by omega, by omega⟩; (repeat (first | assumption | apply rf_up | apply rf_setm | apply rf_mI)); done) | (with_reducible refine rf_at ?_ _; (repeat (first | assumption | apply rf_up | apply rf_setm | apply rf_mI)); done) | exact ⟨by omega, by omega⟩) (by first | with_reducible exact rg_mI _ _ _ | (with_reducible refine rg_of ?_ _ _; (repeat (first | assumption | apply rf_up | apply rf_setm | apply rf_mI)); done) | (with_reducible refine rg_its ?_ _ _; (repeat (first | assumption | apply rf_up | apply rf_setm | apply rf_mI)); done) | (with_reducible refine rg_way ?_ _ _; (repeat (first | assumption | apply rf_up | apply rf_setm | apply rf_mI)); done) | with_reducible exact rg_and _ _ | (with_reducible refine rg_num ?_ ⟨by omega, by omega⟩; (repeat (first | assumption | apply rf_up | apply rf_setm | apply rf_mI)); done) | (with_reducible refine rf_at ?_ _; (repeat (first | assumption | apply rf_up | apply rf_setm | apply rf_mI)); done) | exact ⟨by omega, by omega⟩) (fun h_7 => ?_) (fun h_7 => ?_)
    · skip
      refine r_iconst hC dX8_in_14 ?_
      refine r_zret hC hR dX8_in_15 (by first | exact Or.inl rfl | exact Or.inr rfl) (le_b rfl) (le_b rfl) ?_
      refine ⟨congrArg (fun i => some (xI i)) ?_, rfl⟩
      unfold bI; split <;> omega
    · skip
      refine r_iconst hC dX8_in_10 ?_
      refine r_goto (t := 15) hC dX8_in_11 (by rfl) ?_
      refine r_zret hC hR dX8_in_15 (by first | exact Or.inl rfl | exact Or.inr rfl) (le_b rfl) (le_b rfl) ?_
      refine ⟨congrArg (fun i => some (xI i)) ?_, rfl⟩
      unfold bI; split <;> omega

abbrev rmX8_thrown : Room := { frames := 0, cells := 0, slots := 0, locals := 0 }
set_option maxRecDepth 100000 in
theorem k_thrown {l : Launch} {D : DD} (hfl : l.stackTraces = false) {u : Mem} {m : Nat} (hM : MO u m) {f : RW} (hf : RF f)  : CT l D yX8_thrown cX8_thrown 1 (some .int) rmX8_thrown [xA m] (sA u (m + 1) f) (RT (xI (mI u m 11)) (sA u (m + 1) f)) := by
  refine CT.of hfl (by decide) (le_b rfl) ?_
  intro C hC hR hL hDD hN
  have hfC : (cxL C).stackTraces = false := by rw [hL]; exact hfl
  show VW C 0 [some (xA m)] [] (sA u (m + 1) f) 0 0
  refine r_aload_n hC dX8_thrown_0 rfl ?_
  refine rM_getI (j := 11) hC hM dX8_thrown_1 fl_X8_35 rfl rfl ?_
  refine r_iret hC hR dX8_thrown_4 (le_b rfl) (le_b rfl) ?_
  exact ⟨rfl, rfl⟩

abbrev rmX8_fails : Room := { frames := 0, cells := 0, slots := 0, locals := 0 }
set_option maxRecDepth 100000 in
theorem k_fails {l : Launch} {D : DD} (hfl : l.stackTraces = false) {u : Mem} {m : Nat} (hM : MO u m) {f : RW} (hf : RF f) {w : Int} : CT l D yX8_fails cX8_fails 2 (some .int) rmX8_fails [xA m, xI w] (sA u (m + 1) f) (RT (xI (0)) (sA (sI u m 11 w) (m + 1) f)) := by
  refine CT.of hfl (by decide) (le_b rfl) ?_
  intro C hC hR hL hDD hN
  have hfC : (cxL C).stackTraces = false := by rw [hL]; exact hfl
  show VW C 0 [some (xA m), some (xI w)] [] (sA u (m + 1) f) 0 0
  refine r_aload_n hC dX8_fails_0 rfl ?_
  refine r_iload_n hC dX8_fails_1 rfl ?_
  refine rM_putI (j := 11) hC hM dX8_fails_2 fl_X8_35 rfl (by rintro _ ⟨⟩; rfl) (Or.inl rfl) ?_
  refine r_iconst hC dX8_fails_5 ?_
  refine r_iret hC hR dX8_fails_6 (le_b rfl) (le_b rfl) ?_
  exact ⟨rfl, rfl⟩

abbrev rmX8_of : Room := { frames := 0, cells := 0, slots := 0, locals := 0 }
set_option maxRecDepth 100000 in
theorem k_of {l : Launch} {D : DD} (hfl : l.stackTraces = false) {u : Mem} {m : Nat} (hM : MO u m) {f : RW} (hf : RF f) {c w : Int} (h : 0 ≤ 697 + 38 * c + w ∧ 697 + 38 * c + w < 1651) : CT l D yX8_of cX8_of 3 (some .int) rmX8_of [xA m, xI c, xI w] (sA u (m + 1) f) (RT (xI (m_of f c w)) (sA u (m + 1) f)) := by
  refine CT.of hfl (by decide) (le_b rfl) ?_
  intro C hC hR hL hDD hN
  have hfC : (cxL C).stackTraces = false := by rw [hL]; exact hfl
  show VW C 0 [some (xA m), some (xI c), some (xI w)] [] (sA u (m + 1) f) 0 0
  refine r_aload_n hC dX8_of_0 rfl ?_
  refine r_getR (j := 0) hC dX8_of_1 fl_X8_7 rfl rfl hM.o hM.p_row ?_
  refine r_sipush hC dX8_of_4 (by rfl) ?_
  refine r_bipush hC dX8_of_7 (by rfl) ?_
  refine r_iload_n hC dX8_of_9 rfl ?_
  refine r_imul hC dX8_of_10 ?_
  refine r_iadd hC dX8_of_11 ?_
  refine r_iload_n hC dX8_of_12 rfl ?_
  refine r_iadd hC dX8_of_13 ?_
  refine rM_ald hC hM (by (repeat (first | assumption | apply rf_up | apply rf_setm | apply rf_mI))) dX8_of_14 ⟨by omega, by omega⟩ ?_
  refine r_iret hC hR dX8_of_15 (le_b rfl) (le_b rfl) ?_
  exact ⟨rfl, rfl⟩

abbrev rmX8_lay : Room := { frames := 0, cells := 0, slots := 0, locals := 0 }
set_option maxRecDepth 100000 in
theorem k_lay {l : Launch} {D : DD} (hfl : l.stackTraces = false) {u : Mem} {m : Nat} (hM : MO u m) {f : RW} (hf : RF f) {c w v : Int} (h : 0 ≤ 697 + 38 * c + w ∧ 697 + 38 * c + w < 1651) : CT l D yX8_lay cX8_lay 4 none rmX8_lay [xA m, xI c, xI w, xI v] (sA u (m + 1) f) (RV (sA u (m + 1) (up f (697 + 38 * c + w) v))) := by
  refine CT.of hfl (by decide) (le_b rfl) ?_
  intro C hC hR hL hDD hN
  have hfC : (cxL C).stackTraces = false := by rw [hL]; exact hfl
  show VW C 0 [some (xA m), some (xI c), some (xI w), some (xI v)] [] (sA u (m + 1) f) 0 0
  refine r_aload_n hC dX8_lay_0 rfl ?_
  refine r_getR (j := 0) hC dX8_lay_1 fl_X8_7 rfl rfl hM.o hM.p_row ?_
  refine r_sipush hC dX8_lay_4 (by rfl) ?_
  refine r_bipush hC dX8_lay_7 (by rfl) ?_
  refine r_iload_n hC dX8_lay_9 rfl ?_
  refine r_imul hC dX8_lay_10 ?_
  refine r_iadd hC dX8_lay_11 ?_
  refine r_iload_n hC dX8_lay_12 rfl ?_
  refine r_iadd hC dX8_lay_13 ?_
  refine r_iload_n hC dX8_lay_14 rfl ?_
  refine rM_ast hC hM dX8_lay_15 ⟨by omega, by omega⟩ ?_
  refine r_vret hC hR dX8_lay_16 (le_b rfl) (le_b rfl) ?_
  exact ⟨rfl, rfl⟩

abbrev rmX8_its : Room := { frames := 0, cells := 0, slots := 0, locals := 0 }
set_option maxRecDepth 100000 in
theorem k_its {l : Launch} {D : DD} (hfl : l.stackTraces = false) {u : Mem} {m : Nat} (hM : MO u m) {f : RW} (hf : RF f) {p w : Int} (h : 0 ≤ 17 + 20 * p + w ∧ 17 + 20 * p + w < 1651) : CT l D yX8_its cX8_its 3 (some .int) rmX8_its [xA m, xI p, xI w] (sA u (m + 1) f) (RT (xI (m_its f p w)) (sA u (m + 1) f)) := by
  refine CT.of hfl (by decide) (le_b rfl) ?_
  intro C hC hR hL hDD hN
  have hfC : (cxL C).stackTraces = false := by rw [hL]; exact hfl
  show VW C 0 [some (xA m), some (xI p), some (xI w)] [] (sA u (m + 1) f) 0 0
  refine r_aload_n hC dX8_its_0 rfl ?_
  refine r_getR (j := 0) hC dX8_its_1 fl_X8_7 rfl rfl hM.o hM.p_row ?_
  refine r_bipush hC dX8_its_4 (by rfl) ?_
  refine r_bipush hC dX8_its_6 (by rfl) ?_
  refine r_iload_n hC dX8_its_8 rfl ?_
  refine r_imul hC dX8_its_9 ?_
  refine r_iadd hC dX8_its_10 ?_
  refine r_iload_n hC dX8_its_11 rfl ?_
  refine r_iadd hC dX8_its_12 ?_
  refine rM_ald hC hM (by (repeat (first | assumption | apply rf_up | apply rf_setm | apply rf_mI))) dX8_its_13 ⟨by omega, by omega⟩ ?_
  refine r_iret hC hR dX8_its_14 (le_b rfl) (le_b rfl) ?_
  exact ⟨rfl, rfl⟩

abbrev rmX8_isOpen : Room := { frames := 1, cells := 0, slots := 0, locals := 22 }
set_option maxRecDepth 100000 in
theorem k_isOpen {l : Launch} {D : DD} (hfl : l.stackTraces = false) {u : Mem} {m : Nat} (hM : MO u m) {f : RW} (hf : RF f) {p : Int} (hp : rg p) : CT l D yX8_isOpen cX8_isOpen 2 (some .boolean) rmX8_isOpen [xA m, xI p] (sA u (m + 1) f) (RT (xI (bI (m_open f p = true))) (sA u (m + 1) f)) := by
  refine CT.of hfl (by decide) (le_b rfl) ?_
  intro C hC hR hL hDD hN
  have hfC : (cxL C).stackTraces = false := by rw [hL]; exact hfl
  show VW C 0 [some (xA m), some (xI p)] [] (sA u (m + 1) f) 0 0
  refine r_iload_n hC dX8_isOpen_0 rfl ?_
  refine r_iconst hC dX8_isOpen_1 ?_
  refine r_iconst hC dX8_isOpen_2 ?_
  refine r_S0 hC dX8_isOpen_3 mi_X8_in ss_X8_in ml_X8_39 (rm := rmX8_in) rfl rfl rfl ⟨le_b rfl, le_b rfl⟩ (k_in hfC hp rg_0 ⟨by decide, by decide⟩) ?_ rfl
  refine r_beq (t := 23) hC dX8_isOpen_6 (by rfl) (fun h_6 => ?_) (fun h_6 => ?_)
  · skip
    refine r_iconst hC dX8_isOpen_23 ?_
    refine r_zret hC hR dX8_isOpen_24 (by first | exact Or.inl rfl | exact Or.inr rfl) (le_b rfl) (le_b rfl) ?_
    refine ⟨congrArg (fun i => some (xI i)) ?_, rfl⟩
    simp only [bI, m_open]
    simp
    omega
  · skip
    refine r_aload_n hC dX8_isOpen_9 rfl ?_
    refine r_iload_n hC dX8_isOpen_10 rfl ?_
    refine r_iconst hC dX8_isOpen_11 ?_
    refine rM_V0 hC hM dX8_isOpen_12 mi_X8_its se_X8_its ml_X8_43 (rm := rmX8_its) rfl rfl rfl rfl ⟨le_b rfl, le_b rfl⟩ (k_its hfC hM hf ⟨by omega, by omega⟩) ?_ rfl
    refine r_iconst hC dX8_isOpen_15 ?_
    refine r_icmp_ne (t := 23) hC dX8_isOpen_16 (by rfl) (by first | with_reducible exact rg_mI _ _ _ | (with_reducible refine rg_of ?_ _ _; (repeat (first | assumption | apply rf_up | apply rf_setm | apply rf_mI)); done) | (with_reducible refine rg_its ?_ _ _; (repeat (first | assumption | apply rf_up | apply rf_setm | apply rf_mI)); done) | (with_reducible refine rg_way ?_ _ _; (repeat (first | assumption | apply rf_up | apply rf_setm | apply rf_mI)); done) | with_reducible exact rg_and _ _ | (with_reducible refine rg_num ?_ ⟨by omega, by omega⟩; (repeat (first | assumption | apply rf_up | apply rf_setm | apply rf_mI)); done) | (with_reducible refine rf_at ?_ _; (repeat (first | assumption | apply rf_up | apply rf_setm | apply rf_mI)); done) | exact ⟨by omega, by omega⟩) (by first | with_reducible exact rg_mI _ _ _ | (with_reducible refine rg_of ?_ _ _; (repeat (first | assumption | apply rf_up | apply rf_setm | apply rf_mI)); done) | (with_reducible refine rg_its ?_ _ _; (repeat (first | assumption | apply rf_up | apply rf_setm | apply rf_mI)); done) | (with_reducible refine rg_way ?_ _ _; (repeat (first | assumption | apply rf_up | apply rf_setm | apply rf_mI)); done) | with_reducible exact rg_and _ _ | (with_reducible refine rg_num ?_ ⟨by omega, by omega⟩; (repeat (first | assumption | apply rf_up | apply rf_setm | apply rf_mI)); done) | (with_reducible refine rf_at ?_ _; (repeat (first | assumption | apply rf_up | apply rf_setm | apply rf_mI)); done) | exact ⟨by omega, by omega⟩) (fun h_16 => ?_) (fun h_16 => ?_)
    · skip
      refine r_iconst hC dX8_isOpen_23 ?_
      refine r_zret hC hR dX8_isOpen_24 (by first | exact Or.inl rfl | exact Or.inr rfl) (le_b rfl) (le_b rfl) ?_
      refine ⟨congrArg (fun i => some (xI i)) ?_, rfl⟩
      simp only [bI, m_open]
      simp
      omega
    · skip
      refine r_iconst hC dX8_isOpen_19 ?_
      refine r_goto (t := 24) hC dX8_isOpen_20 (by rfl) ?_
      refine r_zret hC hR dX8_isOpen_24 (by first | exact Or.inl rfl | exact Or.inr rfl) (le_b rfl) (le_b rfl) ?_
      refine ⟨congrArg (fun i => some (xI i)) ?_, rfl⟩
      simp only [bI, m_open]
      simp
      omega

abbrev rmX8_topicOf : Room := { frames := 0, cells := 0, slots := 0, locals := 0 }
set_option maxRecDepth 100000 in
theorem k_topicOf {l : Launch} {D : DD} (hfl : l.stackTraces = false) {u : Mem} {m : Nat} (hM : MO u m) {f : RW} (hf : RF f) {k : Int} (hk : 0 ≤ k ∧ k < 500) : CT l D yX8_topicOf cX8_topicOf 2 (some .int) rmX8_topicOf [xA m, xI k] (sA u (m + 1) f) (RT (xI (m_topic f k)) (sA u (m + 1) f)) := by
  refine CT.of hfl (by decide) (le_b rfl) ?_
  intro C hC hR hL hDD hN
  have hfC : (cxL C).stackTraces = false := by rw [hL]; exact hfl
  show VW C 0 [some (xA m), some (xI k)] [] (sA u (m + 1) f) 0 0
  refine r_aload_n hC dX8_topicOf_0 rfl ?_
  refine r_getR (j := 0) hC dX8_topicOf_1 fl_X8_7 rfl rfl hM.o hM.p_row ?_
  refine r_bipush hC dX8_topicOf_4 (by rfl) ?_
  refine r_iconst hC dX8_topicOf_6 ?_
  refine r_iload_n hC dX8_topicOf_7 rfl ?_
  refine r_imul hC dX8_topicOf_8 ?_
  refine r_iadd hC dX8_topicOf_9 ?_
  refine rM_ald hC hM (by (repeat (first | assumption | apply rf_up | apply rf_setm | apply rf_mI))) dX8_topicOf_10 ⟨by omega, by omega⟩ ?_
  refine r_iconst hC dX8_topicOf_11 ?_
  refine r_irem hC (by first | with_reducible exact rg_mI _ _ _ | (with_reducible refine rg_of ?_ _ _; (repeat (first | assumption | apply rf_up | apply rf_setm | apply rf_mI)); done) | (with_reducible refine rg_its ?_ _ _; (repeat (first | assumption | apply rf_up | apply rf_setm | apply rf_mI)); done) | (with_reducible refine rg_way ?_ _ _; (repeat (first | assumption | apply rf_up | apply rf_setm | apply rf_mI)); done) | with_reducible exact rg_and _ _ | (with_reducible refine rg_num ?_ ⟨by omega, by omega⟩; (repeat (first | assumption | apply rf_up | apply rf_setm | apply rf_mI)); done) | (with_reducible refine rf_at ?_ _; (repeat (first | assumption | apply rf_up | apply rf_setm | apply rf_mI)); done) | exact ⟨by omega, by omega⟩) (by first | with_reducible exact rg_mI _ _ _ | (with_reducible refine rg_of ?_ _ _; (repeat (first | assumption | apply rf_up | apply rf_setm | apply rf_mI)); done) | (with_reducible refine rg_its ?_ _ _; (repeat (first | assumption | apply rf_up | apply rf_setm | apply rf_mI)); done) | (with_reducible refine rg_way ?_ _ _; (repeat (first | assumption | apply rf_up | apply rf_setm | apply rf_mI)); done) | with_reducible exact rg_and _ _ | (with_reducible refine rg_num ?_ ⟨by omega, by omega⟩; (repeat (first | assumption | apply rf_up | apply rf_setm | apply rf_mI)); done) | (with_reducible refine rf_at ?_ _; (repeat (first | assumption | apply rf_up | apply rf_setm | apply rf_mI)); done) | exact ⟨by omega, by omega⟩) (by omega) dX8_topicOf_12 ?_
  refine r_iret hC hR dX8_topicOf_13 (le_b rfl) (le_b rfl) ?_
  exact ⟨rfl, rfl⟩

abbrev rmX8_valueOf : Room := { frames := 0, cells := 0, slots := 0, locals := 0 }
set_option maxRecDepth 100000 in
theorem k_valueOf {l : Launch} {D : DD} (hfl : l.stackTraces = false) {u : Mem} {m : Nat} (hM : MO u m) {f : RW} (hf : RF f) {k : Int} (hk : 0 ≤ k ∧ k < 500) : CT l D yX8_valueOf cX8_valueOf 2 (some .int) rmX8_valueOf [xA m, xI k] (sA u (m + 1) f) (RT (xI (m_value f k)) (sA u (m + 1) f)) := by
  refine CT.of hfl (by decide) (le_b rfl) ?_
  intro C hC hR hL hDD hN
  have hfC : (cxL C).stackTraces = false := by rw [hL]; exact hfl
  show VW C 0 [some (xA m), some (xI k)] [] (sA u (m + 1) f) 0 0
  refine r_aload_n hC dX8_valueOf_0 rfl ?_
  refine r_getR (j := 0) hC dX8_valueOf_1 fl_X8_7 rfl rfl hM.o hM.p_row ?_
  refine r_bipush hC dX8_valueOf_4 (by rfl) ?_
  refine r_iconst hC dX8_valueOf_6 ?_
  refine r_iload_n hC dX8_valueOf_7 rfl ?_
  refine r_imul hC dX8_valueOf_8 ?_
  refine r_iadd hC dX8_valueOf_9 ?_
  refine rM_ald hC hM (by (repeat (first | assumption | apply rf_up | apply rf_setm | apply rf_mI))) dX8_valueOf_10 ⟨by omega, by omega⟩ ?_
  refine r_iconst hC dX8_valueOf_11 ?_
  refine r_idiv hC (by first | with_reducible exact rg_mI _ _ _ | (with_reducible refine rg_of ?_ _ _; (repeat (first | assumption | apply rf_up | apply rf_setm | apply rf_mI)); done) | (with_reducible refine rg_its ?_ _ _; (repeat (first | assumption | apply rf_up | apply rf_setm | apply rf_mI)); done) | (with_reducible refine rg_way ?_ _ _; (repeat (first | assumption | apply rf_up | apply rf_setm | apply rf_mI)); done) | with_reducible exact rg_and _ _ | (with_reducible refine rg_num ?_ ⟨by omega, by omega⟩; (repeat (first | assumption | apply rf_up | apply rf_setm | apply rf_mI)); done) | (with_reducible refine rf_at ?_ _; (repeat (first | assumption | apply rf_up | apply rf_setm | apply rf_mI)); done) | exact ⟨by omega, by omega⟩) (by first | with_reducible exact rg_mI _ _ _ | (with_reducible refine rg_of ?_ _ _; (repeat (first | assumption | apply rf_up | apply rf_setm | apply rf_mI)); done) | (with_reducible refine rg_its ?_ _ _; (repeat (first | assumption | apply rf_up | apply rf_setm | apply rf_mI)); done) | (with_reducible refine rg_way ?_ _ _; (repeat (first | assumption | apply rf_up | apply rf_setm | apply rf_mI)); done) | with_reducible exact rg_and _ _ | (with_reducible refine rg_num ?_ ⟨by omega, by omega⟩; (repeat (first | assumption | apply rf_up | apply rf_setm | apply rf_mI)); done) | (with_reducible refine rf_at ?_ _; (repeat (first | assumption | apply rf_up | apply rf_setm | apply rf_mI)); done) | exact ⟨by omega, by omega⟩) (by omega) dX8_valueOf_12 ?_
  refine r_iret hC hR dX8_valueOf_13 (le_b rfl) (le_b rfl) ?_
  exact ⟨rfl, rfl⟩

abbrev rmX8_writeOf : Room := { frames := 0, cells := 0, slots := 0, locals := 0 }
set_option maxRecDepth 100000 in
theorem k_writeOf {l : Launch} {D : DD} (hfl : l.stackTraces = false) {u : Mem} {m : Nat} (hM : MO u m) {f : RW} (hf : RF f) {k : Int} (hk : 0 ≤ k ∧ k < 500) : CT l D yX8_writeOf cX8_writeOf 2 (some .int) rmX8_writeOf [xA m, xI k] (sA u (m + 1) f) (RT (xI (m_write f k)) (sA u (m + 1) f)) := by
  refine CT.of hfl (by decide) (le_b rfl) ?_
  intro C hC hR hL hDD hN
  have hfC : (cxL C).stackTraces = false := by rw [hL]; exact hfl
  show VW C 0 [some (xA m), some (xI k)] [] (sA u (m + 1) f) 0 0
  refine r_aload_n hC dX8_writeOf_0 rfl ?_
  refine r_getR (j := 0) hC dX8_writeOf_1 fl_X8_7 rfl rfl hM.o hM.p_row ?_
  refine r_bipush hC dX8_writeOf_4 (by rfl) ?_
  refine r_iconst hC dX8_writeOf_6 ?_
  refine r_iload_n hC dX8_writeOf_7 rfl ?_
  refine r_imul hC dX8_writeOf_8 ?_
  refine r_iadd hC dX8_writeOf_9 ?_
  refine r_iconst hC dX8_writeOf_10 ?_
  refine r_iadd hC dX8_writeOf_11 ?_
  refine rM_ald hC hM (by (repeat (first | assumption | apply rf_up | apply rf_setm | apply rf_mI))) dX8_writeOf_12 ⟨by omega, by omega⟩ ?_
  refine r_iret hC hR dX8_writeOf_13 (le_b rfl) (le_b rfl) ?_
  exact ⟨rfl, rfl⟩

abbrev rmX8_hasMark : Room := { frames := 0, cells := 0, slots := 0, locals := 0 }
set_option maxRecDepth 100000 in
theorem k_hasMark {l : Launch} {D : DD} (hfl : l.stackTraces = false) {u : Mem} {m : Nat} (hM : MO u m) {f : RW} (hf : RF f) {k b : Int} (hk : 0 ≤ k ∧ k < 500) : CT l D yX8_hasMark cX8_hasMark 3 (some .boolean) rmX8_hasMark [xA m, xI k, xI b] (sA u (m + 1) f) (RT (xI (bI (m_mark f k b = true))) (sA u (m + 1) f)) := by
  refine CT.of hfl (by decide) (le_b rfl) ?_
  intro C hC hR hL hDD hN
  have hfC : (cxL C).stackTraces = false := by rw [hL]; exact hfl
  show VW C 0 [some (xA m), some (xI k), some (xI b)] [] (sA u (m + 1) f) 0 0
  refine r_aload_n hC dX8_hasMark_0 rfl ?_
  refine r_getR (j := 0) hC dX8_hasMark_1 fl_X8_7 rfl rfl hM.o hM.p_row ?_
  refine r_bipush hC dX8_hasMark_4 (by rfl) ?_
  refine r_iconst hC dX8_hasMark_6 ?_
  refine r_iload_n hC dX8_hasMark_7 rfl ?_
  refine r_imul hC dX8_hasMark_8 ?_
  refine r_iadd hC dX8_hasMark_9 ?_
  refine r_iconst hC dX8_hasMark_10 ?_
  refine r_iadd hC dX8_hasMark_11 ?_
  refine rM_ald hC hM (by (repeat (first | assumption | apply rf_up | apply rf_setm | apply rf_mI))) dX8_hasMark_12 ⟨by omega, by omega⟩ ?_
  refine r_iload_n hC dX8_hasMark_13 rfl ?_
  refine r_ishr hC dX8_hasMark_14 ?_
  refine r_iconst hC dX8_hasMark_15 ?_
  refine r_iand hC dX8_hasMark_16 ?_
  refine r_iconst hC dX8_hasMark_17 ?_
  refine r_icmp_ne (t := 25) hC dX8_hasMark_18 (by rfl) (by first | with_reducible exact rg_mI _ _ _ | (with_reducible refine rg_of ?_ _ _; (repeat (first | assumption | apply rf_up | apply rf_setm | apply rf_mI)); done) | (with_reducible refine rg_its ?_ _ _; (repeat (first | assumption | apply rf_up | apply rf_setm | apply rf_mI)); done) | (with_reducible refine rg_way ?_ _ _; (repeat (first | assumption | apply rf_up | apply rf_setm | apply rf_mI)); done) | with_reducible exact rg_and _ _ | (with_reducible refine rg_num ?_ ⟨by omega, by omega⟩; (repeat (first | assumption | apply rf_up | apply rf_setm | apply rf_mI)); done) | (with_reducible refine rf_at ?_ _; (repeat (first | assumption | apply rf_up | apply rf_setm | apply rf_mI)); done) | exact ⟨by omega, by omega⟩) (by first | with_reducible exact rg_mI _ _ _ | (with_reducible refine rg_of ?_ _ _; (repeat (first | assumption | apply rf_up | apply rf_setm | apply rf_mI)); done) | (with_reducible refine rg_its ?_ _ _; (repeat (first | assumption | apply rf_up | apply rf_setm | apply rf_mI)); done) | (with_reducible refine rg_way ?_ _ _; (repeat (first | assumption | apply rf_up | apply rf_setm | apply rf_mI)); done) | with_reducible exact rg_and _ _ | (with_reducible refine rg_num ?_ ⟨by omega, by omega⟩; (repeat (first | assumption | apply rf_up | apply rf_setm | apply rf_mI)); done) | (with_reducible refine rf_at ?_ _; (repeat (first | assumption | apply rf_up | apply rf_setm | apply rf_mI)); done) | exact ⟨by omega, by omega⟩) (fun h_18 => ?_) (fun h_18 => ?_)
  · skip
    refine r_iconst hC dX8_hasMark_25 ?_
    refine r_zret hC hR dX8_hasMark_26 (by first | exact Or.inl rfl | exact Or.inr rfl) (le_b rfl) (le_b rfl) ?_
    refine ⟨congrArg (fun i => some (xI i)) ?_, rfl⟩
    simp only [bI, m_mark]
    simp
    omega
  · skip
    refine r_iconst hC dX8_hasMark_21 ?_
    refine r_goto (t := 26) hC dX8_hasMark_22 (by rfl) ?_
    refine r_zret hC hR dX8_hasMark_26 (by first | exact Or.inl rfl | exact Or.inr rfl) (le_b rfl) (le_b rfl) ?_
    refine ⟨congrArg (fun i => some (xI i)) ?_, rfl⟩
    simp only [bI, m_mark]
    simp
    omega

abbrev rmX8_mark : Room := { frames := 0, cells := 0, slots := 0, locals := 0 }
set_option maxRecDepth 100000 in
theorem k_mark {l : Launch} {D : DD} (hfl : l.stackTraces = false) {u : Mem} {m : Nat} (hM : MO u m) {f : RW} (hf : RF f) {k b : Int} (hk : 0 ≤ k ∧ k < 500) : CT l D yX8_mark cX8_mark 3 none rmX8_mark [xA m, xI k, xI b] (sA u (m + 1) f) (RV (sA u (m + 1) (m_setm f k b))) := by
  refine CT.of hfl (by decide) (le_b rfl) ?_
  intro C hC hR hL hDD hN
  have hfC : (cxL C).stackTraces = false := by rw [hL]; exact hfl
  show VW C 0 [some (xA m), some (xI k), some (xI b)] [] (sA u (m + 1) f) 0 0
  refine r_aload_n hC dX8_mark_0 rfl ?_
  refine r_getR (j := 0) hC dX8_mark_1 fl_X8_7 rfl rfl hM.o hM.p_row ?_
  refine r_bipush hC dX8_mark_4 (by rfl) ?_
  refine r_iconst hC dX8_mark_6 ?_
  refine r_iload_n hC dX8_mark_7 rfl ?_
  refine r_imul hC dX8_mark_8 ?_
  refine r_iadd hC dX8_mark_9 ?_
  refine r_iconst hC dX8_mark_10 ?_
  refine r_iadd hC dX8_mark_11 ?_
  refine r_dup2 hC dX8_mark_12 rfl rfl ?_
  refine rM_ald hC hM (by (repeat (first | assumption | apply rf_up | apply rf_setm | apply rf_mI))) dX8_mark_13 ⟨by omega, by omega⟩ ?_
  refine r_iconst hC dX8_mark_14 ?_
  refine r_iload_n hC dX8_mark_15 rfl ?_
  refine r_ishl hC dX8_mark_16 ?_
  refine r_ior hC dX8_mark_17 ?_
  refine rM_ast hC hM dX8_mark_18 ⟨by omega, by omega⟩ ?_
  refine r_vret hC hR dX8_mark_19 (le_b rfl) (le_b rfl) ?_
  exact ⟨rfl, rfl⟩

abbrev rmX8_numberOf : Room := { frames := 1, cells := 0, slots := 0, locals := 21 }
set_option maxRecDepth 100000 in
theorem k_numberOf {l : Launch} {D : DD} (hfl : l.stackTraces = false) {u : Mem} {m : Nat} (hM : MO u m) {f : RW} (hf : RF f) {k : Int} (hk : 0 ≤ k ∧ k < 500) : CT l D yX8_numberOf cX8_numberOf 2 (some .int) rmX8_numberOf [xA m, xI k] (sA u (m + 1) f) (RT (xI (m_num f k)) (sA u (m + 1) f)) := by
  refine CT.of hfl (by decide) (le_b rfl) ?_
  intro C hC hR hL hDD hN
  have hfC : (cxL C).stackTraces = false := by rw [hL]; exact hfl
  show VW C 0 [some (xA m), some (xI k)] [] (sA u (m + 1) f) 0 0
  refine r_aload_n hC dX8_numberOf_0 rfl ?_
  refine r_getR (j := 0) hC dX8_numberOf_1 fl_X8_7 rfl rfl hM.o hM.p_row ?_
  refine r_bipush hC dX8_numberOf_4 (by rfl) ?_
  refine rM_ald hC hM (by (repeat (first | assumption | apply rf_up | apply rf_setm | apply rf_mI))) dX8_numberOf_6 ⟨by omega, by omega⟩ ?_
  refine r_if_ne (t := 14) hC dX8_numberOf_7 (by rfl) (by first | with_reducible exact rg_mI _ _ _ | (with_reducible refine rg_of ?_ _ _; (repeat (first | assumption | apply rf_up | apply rf_setm | apply rf_mI)); done) | (with_reducible refine rg_its ?_ _ _; (repeat (first | assumption | apply rf_up | apply rf_setm | apply rf_mI)); done) | (with_reducible refine rg_way ?_ _ _; (repeat (first | assumption | apply rf_up | apply rf_setm | apply rf_mI)); done) | with_reducible exact rg_and _ _ | (with_reducible refine rg_num ?_ ⟨by omega, by omega⟩; (repeat (first | assumption | apply rf_up | apply rf_setm | apply rf_mI)); done) | (with_reducible refine rf_at ?_ _; (repeat (first | assumption | apply rf_up | apply rf_setm | apply rf_mI)); done) | exact ⟨by omega, by omega⟩) (fun h_7 => ?_) (fun h_7 => ?_)
  · skip
    refine r_aload_n hC dX8_numberOf_14 rfl ?_
    refine r_iload_n hC dX8_numberOf_15 rfl ?_
    refine rM_V0 hC hM dX8_numberOf_16 mi_X8_writeOf se_X8_writeOf ml_X8_47 (rm := rmX8_writeOf) rfl rfl rfl rfl ⟨le_b rfl, le_b rfl⟩ (k_writeOf hfC hM hf hk) ?_ rfl
    refine r_iret hC hR dX8_numberOf_19 (le_b rfl) (le_b rfl) ?_
    refine ⟨congrArg (fun i => some (xI i)) ?_, rfl⟩
    unfold m_num
    split <;> first | rfl | omega
  · skip
    refine r_iload_n hC dX8_numberOf_10 rfl ?_
    refine r_goto (t := 19) hC dX8_numberOf_11 (by rfl) ?_
    refine r_iret hC hR dX8_numberOf_19 (le_b rfl) (le_b rfl) ?_
    refine ⟨congrArg (fun i => some (xI i)) ?_, rfl⟩
    unfold m_num
    split <;> first | rfl | omega

abbrev rmX8_keptRows : Room := { frames := 0, cells := 0, slots := 0, locals := 0 }
set_option maxRecDepth 100000 in
theorem k_keptRows {l : Launch} {D : DD} (hfl : l.stackTraces = false) {u : Mem} {m : Nat} (hM : MO u m) {f : RW} (hf : RF f)  : CT l D yX8_keptRows cX8_keptRows 1 (some .int) rmX8_keptRows [xA m] (sA u (m + 1) f) (RT (xI (m_kept f)) (sA u (m + 1) f)) := by
  refine CT.of hfl (by decide) (le_b rfl) ?_
  intro C hC hR hL hDD hN
  have hfC : (cxL C).stackTraces = false := by rw [hL]; exact hfl
  show VW C 0 [some (xA m)] [] (sA u (m + 1) f) 0 0
  refine r_aload_n hC dX8_keptRows_0 rfl ?_
  refine r_getR (j := 0) hC dX8_keptRows_1 fl_X8_7 rfl rfl hM.o hM.p_row ?_
  refine r_iconst hC dX8_keptRows_4 ?_
  refine rM_ald hC hM (by (repeat (first | assumption | apply rf_up | apply rf_setm | apply rf_mI))) dX8_keptRows_5 ⟨by omega, by omega⟩ ?_
  refine r_aload_n hC dX8_keptRows_6 rfl ?_
  refine r_getR (j := 0) hC dX8_keptRows_7 fl_X8_7 rfl rfl hM.o hM.p_row ?_
  refine r_iconst hC dX8_keptRows_10 ?_
  refine rM_ald hC hM (by (repeat (first | assumption | apply rf_up | apply rf_setm | apply rf_mI))) dX8_keptRows_11 ⟨by omega, by omega⟩ ?_
  refine r_isub hC dX8_keptRows_12 ?_
  refine r_iret hC hR dX8_keptRows_13 (le_b rfl) (le_b rfl) ?_
  exact ⟨rfl, rfl⟩

abbrev rmX8_wants : Room := { frames := 1, cells := 0, slots := 0, locals := 22 }
set_option maxRecDepth 100000 in
theorem k_wants {l : Launch} {D : DD} (hfl : l.stackTraces = false) {u : Mem} {m : Nat} (hM : MO u m) {f : RW} (hf : RF f) {c t : Int} (hc : 0 ≤ c ∧ c < 3) : CT l D yX8_wants cX8_wants 3 (some .boolean) rmX8_wants [xA m, xI c, xI t] (sA u (m + 1) f) (RT (xI (bI (m_wants f c t = true))) (sA u (m + 1) f)) := by
  refine CT.of hfl (by decide) (le_b rfl) ?_
  intro C hC hR hL hDD hN
  have hfC : (cxL C).stackTraces = false := by rw [hL]; exact hfl
  show VW C 0 [some (xA m), some (xI c), some (xI t)] [] (sA u (m + 1) f) 0 0
  refine r_aload_n hC dX8_wants_0 rfl ?_
  refine r_iload_n hC dX8_wants_1 rfl ?_
  refine r_iconst hC dX8_wants_2 ?_
  refine rM_V0 hC hM dX8_wants_3 mi_X8_of se_X8_of ml_X8_58 (rm := rmX8_of) rfl rfl rfl rfl ⟨le_b rfl, le_b rfl⟩ (k_of hfC hM hf ⟨by omega, by omega⟩) ?_ rfl
  refine r_iload_n hC dX8_wants_6 rfl ?_
  refine r_ishr hC dX8_wants_7 ?_
  refine r_iconst hC dX8_wants_8 ?_
  refine r_iand hC dX8_wants_9 ?_
  refine r_iconst hC dX8_wants_10 ?_
  refine r_icmp_ne (t := 18) hC dX8_wants_11 (by rfl) (by first | with_reducible exact rg_mI _ _ _ | (with_reducible refine rg_of ?_ _ _; (repeat (first | assumption | apply rf_up | apply rf_setm | apply rf_mI)); done) | (with_reducible refine rg_its ?_ _ _; (repeat (first | assumption | apply rf_up | apply rf_setm | apply rf_mI)); done) | (with_reducible refine rg_way ?_ _ _; (repeat (first | assumption | apply rf_up | apply rf_setm | apply rf_mI)); done) | with_reducible exact rg_and _ _ | (with_reducible refine rg_num ?_ ⟨by omega, by omega⟩; (repeat (first | assumption | apply rf_up | apply rf_setm | apply rf_mI)); done) | (with_reducible refine rf_at ?_ _; (repeat (first | assumption | apply rf_up | apply rf_setm | apply rf_mI)); done) | exact ⟨by omega, by omega⟩) (by first | with_reducible exact rg_mI _ _ _ | (with_reducible refine rg_of ?_ _ _; (repeat (first | assumption | apply rf_up | apply rf_setm | apply rf_mI)); done) | (with_reducible refine rg_its ?_ _ _; (repeat (first | assumption | apply rf_up | apply rf_setm | apply rf_mI)); done) | (with_reducible refine rg_way ?_ _ _; (repeat (first | assumption | apply rf_up | apply rf_setm | apply rf_mI)); done) | with_reducible exact rg_and _ _ | (with_reducible refine rg_num ?_ ⟨by omega, by omega⟩; (repeat (first | assumption | apply rf_up | apply rf_setm | apply rf_mI)); done) | (with_reducible refine rf_at ?_ _; (repeat (first | assumption | apply rf_up | apply rf_setm | apply rf_mI)); done) | exact ⟨by omega, by omega⟩) (fun h_11 => ?_) (fun h_11 => ?_)
  · skip
    refine r_iconst hC dX8_wants_18 ?_
    refine r_zret hC hR dX8_wants_19 (by first | exact Or.inl rfl | exact Or.inr rfl) (le_b rfl) (le_b rfl) ?_
    refine ⟨congrArg (fun i => some (xI i)) ?_, rfl⟩
    simp only [bI, m_wants]
    simp
    omega
  · skip
    refine r_iconst hC dX8_wants_14 ?_
    refine r_goto (t := 19) hC dX8_wants_15 (by rfl) ?_
    refine r_zret hC hR dX8_wants_19 (by first | exact Or.inl rfl | exact Or.inr rfl) (le_b rfl) (le_b rfl) ?_
    refine ⟨congrArg (fun i => some (xI i)) ?_, rfl⟩
    simp only [bI, m_wants]
    simp
    omega

abbrev rmX8_isAnswered : Room := { frames := 2, cells := 0, slots := 0, locals := 44 }
set_option maxRecDepth 100000 in
theorem k_isAnswered {l : Launch} {D : DD} (hfl : l.stackTraces = false) {u : Mem} {m : Nat} (hM : MO u m) {f : RW} (hf : RF f) {k c : Int} (hk : 0 ≤ k ∧ k < 500) (hc : 0 ≤ c ∧ c < 3) : CT l D yX8_isAnswered cX8_isAnswered 3 (some .boolean) rmX8_isAnswered [xA m, xI k, xI c] (sA u (m + 1) f) (RT (xI (bI (m_ans f k c = true))) (sA u (m + 1) f)) := by
  refine CT.of hfl (by decide) (le_b rfl) ?_
  intro C hC hR hL hDD hN
  have hfC : (cxL C).stackTraces = false := by rw [hL]; exact hfl
  show VW C 0 [some (xA m), some (xI k), some (xI c)] [] (sA u (m + 1) f) 0 0
  refine r_aload_n hC dX8_isAnswered_0 rfl ?_
  refine r_iload_n hC dX8_isAnswered_1 rfl ?_
  refine r_aload_n hC dX8_isAnswered_2 rfl ?_
  refine r_iload_n hC dX8_isAnswered_3 rfl ?_
  refine rM_V0 hC hM dX8_isAnswered_4 mi_X8_topicOf se_X8_topicOf ml_X8_61 (rm := rmX8_topicOf) rfl rfl rfl rfl ⟨le_b rfl, le_b rfl⟩ (k_topicOf hfC hM hf hk) ?_ rfl
  refine rM_V0 hC hM dX8_isAnswered_7 mi_X8_wants se_X8_wants ml_X8_64 (rm := rmX8_wants) rfl rfl rfl rfl ⟨le_b rfl, le_b rfl⟩ (k_wants hfC hM hf hc) ?_ rfl
  refine r_beq (t := 28) hC dX8_isAnswered_10 (by rfl) (fun h_10 => ?_) (fun h_10 => ?_)
  · skip
    refine r_iconst hC dX8_isAnswered_28 ?_
    refine r_goto (t := 33) hC dX8_isAnswered_29 (by rfl) ?_
    refine r_zret hC hR dX8_isAnswered_33 (by first | exact Or.inl rfl | exact Or.inr rfl) (le_b rfl) (le_b rfl) ?_
    refine ⟨congrArg (fun i => some (xI i)) ?_, rfl⟩
    simp only [bI, m_ans]
    simp_all
    try omega
  · skip
    refine r_aload_n hC dX8_isAnswered_13 rfl ?_
    refine r_iload_n hC dX8_isAnswered_14 rfl ?_
    refine rM_V0 hC hM dX8_isAnswered_15 mi_X8_numberOf se_X8_numberOf ml_X8_55 (rm := rmX8_numberOf) rfl rfl rfl rfl ⟨le_b rfl, le_b rfl⟩ (k_numberOf hfC hM hf hk) ?_ rfl
    refine r_aload_n hC dX8_isAnswered_18 rfl ?_
    refine r_iload_n hC dX8_isAnswered_19 rfl ?_
    refine r_bipush hC dX8_isAnswered_20 (by rfl) ?_
    refine rM_V0 hC hM dX8_isAnswered_22 mi_X8_of se_X8_of ml_X8_58 (rm := rmX8_of) rfl rfl rfl rfl ⟨le_b rfl, le_b rfl⟩ (k_of hfC hM hf ⟨by omega, by omega⟩) ?_ rfl
    refine r_icmp_gt (t := 32) hC dX8_isAnswered_25 (by rfl) (by first | with_reducible exact rg_mI _ _ _ | (with_reducible refine rg_of ?_ _ _; (repeat (first | assumption | apply rf_up | apply rf_setm | apply rf_mI)); done) | (with_reducible refine rg_its ?_ _ _; (repeat (first | assumption | apply rf_up | apply rf_setm | apply rf_mI)); done) | (with_reducible refine rg_way ?_ _ _; (repeat (first | assumption | apply rf_up | apply rf_setm | apply rf_mI)); done) | with_reducible exact rg_and _ _ | (with_reducible refine rg_num ?_ ⟨by omega, by omega⟩; (repeat (first | assumption | apply rf_up | apply rf_setm | apply rf_mI)); done) | (with_reducible refine rf_at ?_ _; (repeat (first | assumption | apply rf_up | apply rf_setm | apply rf_mI)); done) | exact ⟨by omega, by omega⟩) (by first | with_reducible exact rg_mI _ _ _ | (with_reducible refine rg_of ?_ _ _; (repeat (first | assumption | apply rf_up | apply rf_setm | apply rf_mI)); done) | (with_reducible refine rg_its ?_ _ _; (repeat (first | assumption | apply rf_up | apply rf_setm | apply rf_mI)); done) | (with_reducible refine rg_way ?_ _ _; (repeat (first | assumption | apply rf_up | apply rf_setm | apply rf_mI)); done) | with_reducible exact rg_and _ _ | (with_reducible refine rg_num ?_ ⟨by omega, by omega⟩; (repeat (first | assumption | apply rf_up | apply rf_setm | apply rf_mI)); done) | (with_reducible refine rf_at ?_ _; (repeat (first | assumption | apply rf_up | apply rf_setm | apply rf_mI)); done) | exact ⟨by omega, by omega⟩) (fun h_25 => ?_) (fun h_25 => ?_)
    · skip
      refine r_iconst hC dX8_isAnswered_32 ?_
      refine r_zret hC hR dX8_isAnswered_33 (by first | exact Or.inl rfl | exact Or.inr rfl) (le_b rfl) (le_b rfl) ?_
      refine ⟨congrArg (fun i => some (xI i)) ?_, rfl⟩
      simp only [bI, m_ans]
      simp_all
      try omega
    · skip
      refine r_iconst hC dX8_isAnswered_28 ?_
      refine r_goto (t := 33) hC dX8_isAnswered_29 (by rfl) ?_
      refine r_zret hC hR dX8_isAnswered_33 (by first | exact Or.inl rfl | exact Or.inr rfl) (le_b rfl) (le_b rfl) ?_
      refine ⟨congrArg (fun i => some (xI i)) ?_, rfl⟩
      simp only [bI, m_ans]
      simp_all
      try omega

abbrev rmX8_way : Room := { frames := 0, cells := 0, slots := 0, locals := 0 }
set_option maxRecDepth 100000 in
theorem k_way {l : Launch} {D : DD} (hfl : l.stackTraces = false) {u : Mem} {m : Nat} (hM : MO u m) {f : RW} (hf : RF f) {n w : Int} (h : 0 ≤ 811 + 7 * n + w ∧ 811 + 7 * n + w < 1651) : CT l D yX8_way cX8_way 3 (some .int) rmX8_way [xA m, xI n, xI w] (sA u (m + 1) f) (RT (xI (m_way f n w)) (sA u (m + 1) f)) := by
  refine CT.of hfl (by decide) (le_b rfl) ?_
  intro C hC hR hL hDD hN
  have hfC : (cxL C).stackTraces = false := by rw [hL]; exact hfl
  show VW C 0 [some (xA m), some (xI n), some (xI w)] [] (sA u (m + 1) f) 0 0
  refine r_aload_n hC dX8_way_0 rfl ?_
  refine r_getR (j := 0) hC dX8_way_1 fl_X8_7 rfl rfl hM.o hM.p_row ?_
  refine r_sipush hC dX8_way_4 (by rfl) ?_
  refine r_bipush hC dX8_way_7 (by rfl) ?_
  refine r_iload_n hC dX8_way_9 rfl ?_
  refine r_imul hC dX8_way_10 ?_
  refine r_iadd hC dX8_way_11 ?_
  refine r_iload_n hC dX8_way_12 rfl ?_
  refine r_iadd hC dX8_way_13 ?_
  refine rM_ald hC hM (by (repeat (first | assumption | apply rf_up | apply rf_setm | apply rf_mI))) dX8_way_14 ⟨by omega, by omega⟩ ?_
  refine r_iret hC hR dX8_way_15 (le_b rfl) (le_b rfl) ?_
  exact ⟨rfl, rfl⟩

