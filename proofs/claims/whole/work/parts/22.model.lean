theorem m_free_rg (r : RW) : m_free r = -1 ∨ (0 ≤ m_free r ∧ m_free r ≤ 3) := by
  unfold m_free; split <;> (try split) <;> (try split) <;> (try split) <;> omega
def m_begins (r : RW) : RW := up (up r (17 + 20 * m_free r + 0) 1) (17 + 20 * m_free r + 1) 0
theorem rf_begins {r : RW} (h : RF r) : RF (m_begins r) := rf_up (rf_up h _ _) _ _
abbrev rmX8_begins : Room := { frames := 2, cells := 0, slots := 0, locals := 43 }
set_option maxRecDepth 100000 in
theorem k_begins {l : Launch} {D : DD} (hfl : l.stackTraces = false) {u : Mem} {m : Nat} (hM : MO u m) {f : RW} (hf : RF f) : CT l D yX8_begins cX8_begins 2 (some .int) rmX8_begins [xA m] (sA u (m + 1) f) (RT (xI (if m_free f = -1 then -11 else m_free f)) (sA u (m + 1) (if m_free f = -1 then f else m_begins f))) := by
  refine CT.of hfl (by decide) (le_b rfl) ?_
  intro C hC hR hL hDD hN
  have hfC : (cxL C).stackTraces = false := by rw [hL]; exact hfl
  show VW C 0 [some (xA m), none] [] (sA u (m + 1) f) 0 0
  have hfr := m_free_rg f
  refine r_aload_n hC dX8_begins_0 rfl ?_
  refine rM_V0 hC hM dX8_begins_1 mi_X8_freePlace se_X8_freePlace ml_X8_83 (rm := rmX8_freePlace) rfl rfl rfl rfl ⟨le_b rfl, le_b rfl⟩ (k_freePlace hfC hM hf) ?_ rfl
  refine r_istore_n (lv' := [_, _]) hC dX8_begins_4 (lt_b rfl) rfl (lt_b rfl) rfl ?_
  refine r_iload_n hC dX8_begins_5 rfl ?_
  refine r_iconst hC dX8_begins_6 ?_
  refine r_icmp_ne (t := 13) hC dX8_begins_7 (by rfl) (by first | with_reducible exact rg_mI _ _ _ | (with_reducible refine rg_of ?_ _ _; (repeat (first | assumption | with_reducible apply rf_up | with_reducible apply rf_setm | with_reducible apply rf_mI | with_reducible apply rf_begins)); done) | (with_reducible refine rg_its ?_ _ _; (repeat (first | assumption | with_reducible apply rf_up | with_reducible apply rf_setm | with_reducible apply rf_mI | with_reducible apply rf_begins)); done) | (with_reducible refine rg_way ?_ _ _; (repeat (first | assumption | with_reducible apply rf_up | with_reducible apply rf_setm | with_reducible apply rf_mI | with_reducible apply rf_begins)); done) | with_reducible exact rg_and _ _ | (with_reducible refine rg_num ?_ ⟨by omega, by omega⟩; (repeat (first | assumption | with_reducible apply rf_up | with_reducible apply rf_setm | with_reducible apply rf_mI | with_reducible apply rf_begins)); done) | (with_reducible refine rf_at ?_ _; (repeat (first | assumption | with_reducible apply rf_up | with_reducible apply rf_setm | with_reducible apply rf_mI | with_reducible apply rf_begins)); done) | exact ⟨by omega, by omega⟩) (by first | with_reducible exact rg_mI _ _ _ | (with_reducible refine rg_of ?_ _ _; (repeat (first | assumption | with_reducible apply rf_up | with_reducible apply rf_setm | with_reducible apply rf_mI | with_reducible apply rf_begins)); done) | (with_reducible refine rg_its ?_ _ _; (repeat (first | assumption | with_reducible apply rf_up | with_reducible apply rf_setm | with_reducible apply rf_mI | with_reducible apply rf_begins)); done) | (with_reducible refine rg_way ?_ _ _; (repeat (first | assumption | with_reducible apply rf_up | with_reducible apply rf_setm | with_reducible apply rf_mI | with_reducible apply rf_begins)); done) | with_reducible exact rg_and _ _ | (with_reducible refine rg_num ?_ ⟨by omega, by omega⟩; (repeat (first | assumption | with_reducible apply rf_up | with_reducible apply rf_setm | with_reducible apply rf_mI | with_reducible apply rf_begins)); done) | (with_reducible refine rf_at ?_ _; (repeat (first | assumption | with_reducible apply rf_up | with_reducible apply rf_setm | with_reducible apply rf_mI | with_reducible apply rf_begins)); done) | exact ⟨by omega, by omega⟩) (fun h_7 => ?_) (fun h_7 => ?_)
  · skip
    refine r_aload_n hC dX8_begins_13 rfl ?_
    refine r_getR (j := 0) hC dX8_begins_14 fl_X8_7 rfl rfl hM.o hM.p_row ?_
    refine r_bipush hC dX8_begins_17 (by rfl) ?_
    refine r_bipush hC dX8_begins_19 (by rfl) ?_
    refine r_iload_n hC dX8_begins_21 rfl ?_
    refine r_imul hC dX8_begins_22 ?_
    refine r_iadd hC dX8_begins_23 ?_
    refine r_iconst hC dX8_begins_24 ?_
    refine r_iadd hC dX8_begins_25 ?_
    refine r_iconst hC dX8_begins_26 ?_
    refine rM_ast hC hM dX8_begins_27 ⟨by omega, by omega⟩ ?_
    refine r_aload_n hC dX8_begins_28 rfl ?_
    refine r_getR (j := 0) hC dX8_begins_29 fl_X8_7 rfl rfl hM.o hM.p_row ?_
    refine r_bipush hC dX8_begins_32 (by rfl) ?_
    refine r_bipush hC dX8_begins_34 (by rfl) ?_
    refine r_iload_n hC dX8_begins_36 rfl ?_
    refine r_imul hC dX8_begins_37 ?_
    refine r_iadd hC dX8_begins_38 ?_
    refine r_iconst hC dX8_begins_39 ?_
    refine r_iadd hC dX8_begins_40 ?_
    refine r_iconst hC dX8_begins_41 ?_
    refine rM_ast hC hM dX8_begins_42 ⟨by omega, by omega⟩ ?_
    refine r_iload_n hC dX8_begins_43 rfl ?_
    refine r_iret hC hR dX8_begins_44 (le_b rfl) (le_b rfl) ?_
    rw [if_neg h_7, if_neg h_7]; exact ⟨rfl, rfl⟩
  · skip
    refine r_bipush hC dX8_begins_10 (by rfl) ?_
    refine r_iret hC hR dX8_begins_12 (le_b rfl) (le_b rfl) ?_
    rw [if_pos h_7, if_pos h_7]; exact ⟨rfl, rfl⟩

def m_writesR (r : RW) (p t v : Int) : RW :=
  let n := m_its r p 1
  let a := 17 + 20 * p + 2 + 3 * n
  let r2 := up (up r a t) (a + 1) v
  let r4 := up (up r2 (a + 2) (r2 1)) (17 + 20 * p + 1) (n + 1)
  up r4 1 (r4 1 + 1)
theorem rf_writes {r : RW} (h : RF r) (p t v : Int) : RF (m_writesR r p t v) := rf_up (rf_up (rf_up (rf_up (rf_up h _ _) _ _) _ _) _ _) _ _
def m_writesC (r : RW) (p t v : Int) : Int := if m_open r p = false then -11 else if ¬ ((0 ≤ t ∧ t ≤ 3) ∧ (0 ≤ v ∧ v ≤ 99)) then -12 else if m_its r p 1 = 6 then -13 else (m_writesR r p t v) 1 - 1
def m_writes (r : RW) (p t v : Int) : RW := if m_open r p = false then r else if ¬ ((0 ≤ t ∧ t ≤ 3) ∧ (0 ≤ v ∧ v ≤ 99)) then r else if m_its r p 1 = 6 then r else m_writesR r p t v
theorem m_open_rg {r : RW} {p : Int} (h : m_open r p = true) : 0 ≤ p ∧ p ≤ 3 := by
  simp [m_open] at h; omega
abbrev rmX8_writes : Room := { frames := 2, cells := 0, slots := 0, locals := 43 }
set_option maxRecDepth 100000 in
theorem k_writes {l : Launch} {D : DD} (hfl : l.stackTraces = false) {u : Mem} {m : Nat} (hM : MO u m) {f : RW} (hf : RF f) {p t v : Int} (hp : rg p) (ht : rg t) (hv : rg v) (hn : m_open f p = true → 0 ≤ m_its f p 1 ∧ m_its f p 1 ≤ 6) : CT l D yX8_writes cX8_writes 6 (some .int) rmX8_writes [xA m, xI p, xI t, xI v] (sA u (m + 1) f) (RT (xI (m_writesC f p t v)) (sA u (m + 1) (m_writes f p t v))) := by
  refine CT.of hfl (by decide) (le_b rfl) ?_
  intro C hC hR hL hDD hN
  have hfC : (cxL C).stackTraces = false := by rw [hL]; exact hfl
  show VW C 0 [some (xA m), some (xI p), some (xI t), some (xI v), none, none] [] (sA u (m + 1) f) 0 0
  refine r_aload_n hC dX8_writes_0 rfl ?_
  refine r_iload_n hC dX8_writes_1 rfl ?_
  refine rM_V0 hC hM dX8_writes_2 mi_X8_isOpen se_X8_isOpen ml_X8_87 (rm := rmX8_isOpen) rfl rfl rfl rfl ⟨le_b rfl, le_b rfl⟩ (k_isOpen hfC hM hf hp) ?_ rfl
  refine r_bne (t := 11) hC dX8_writes_5 (by rfl) (fun h_5 => ?_) (fun h_5 => ?_)
  · skip
    have hp3 := m_open_rg h_5
    have hn6 := hn h_5
    refine r_iload_n hC dX8_writes_11 rfl ?_
    refine r_iconst hC dX8_writes_12 ?_
    refine r_iconst hC dX8_writes_13 ?_
    refine r_S0 hC dX8_writes_14 mi_X8_in ss_X8_in ml_X8_39 (rm := rmX8_in) rfl rfl rfl ⟨le_b rfl, le_b rfl⟩ (k_in hfC ht rg_0 ⟨by omega, by omega⟩) ?_ rfl
    refine r_beq (t := 30) hC dX8_writes_17 (by rfl) (fun h_17 => ?_) (fun h_17 => ?_)
    · skip
      refine r_bipush hC dX8_writes_30 (by rfl) ?_
      refine r_iret hC hR dX8_writes_32 (le_b rfl) (le_b rfl) ?_
      have c1 : ¬ m_open f p = false := by rw [h_5]; decide
      have c2 : ¬ ((0 ≤ t ∧ t ≤ 3) ∧ (0 ≤ v ∧ v ≤ 99)) := by first | exact fun q => h_17 q.1 | exact fun q => h_27 q.2 | exact fun q => q ⟨h_17, h_27⟩ | exact fun q => absurd ⟨h_17, h_27⟩ q
      simp only [m_writesC, m_writes, if_neg c1, if_pos c2]; exact ⟨rfl, rfl⟩
    · skip
      refine r_iload_n hC dX8_writes_20 rfl ?_
      refine r_iconst hC dX8_writes_21 ?_
      refine r_bipush hC dX8_writes_22 (by rfl) ?_
      refine r_S0 hC dX8_writes_24 mi_X8_in ss_X8_in ml_X8_39 (rm := rmX8_in) rfl rfl rfl ⟨le_b rfl, le_b rfl⟩ (k_in hfC hv rg_0 ⟨by omega, by omega⟩) ?_ rfl
      refine r_bne (t := 33) hC dX8_writes_27 (by rfl) (fun h_27 => ?_) (fun h_27 => ?_)
      · skip
        refine r_aload_n hC dX8_writes_33 rfl ?_
        refine r_iload_n hC dX8_writes_34 rfl ?_
        refine r_iconst hC dX8_writes_35 ?_
        refine rM_V0 hC hM dX8_writes_36 mi_X8_its se_X8_its ml_X8_43 (rm := rmX8_its) rfl rfl rfl rfl ⟨le_b rfl, le_b rfl⟩ (k_its hfC hM hf ⟨by omega, by omega⟩) ?_ rfl
        refine r_istore (lv' := [_, _, _, _, _, _]) hC dX8_writes_39 (lt_b rfl) rfl (lt_b rfl) rfl ?_
        refine r_iload hC dX8_writes_41 rfl ?_
        refine r_bipush hC dX8_writes_43 (by rfl) ?_
        refine r_icmp_ne (t := 51) hC dX8_writes_45 (by rfl) (by first | with_reducible exact rg_mI _ _ _ | (with_reducible refine rg_of ?_ _ _; (repeat (first | assumption | with_reducible apply rf_up | with_reducible apply rf_setm | with_reducible apply rf_mI | with_reducible apply rf_begins | with_reducible apply rf_writes)); done) | (with_reducible refine rg_its ?_ _ _; (repeat (first | assumption | with_reducible apply rf_up | with_reducible apply rf_setm | with_reducible apply rf_mI | with_reducible apply rf_begins | with_reducible apply rf_writes)); done) | (with_reducible refine rg_way ?_ _ _; (repeat (first | assumption | with_reducible apply rf_up | with_reducible apply rf_setm | with_reducible apply rf_mI | with_reducible apply rf_begins | with_reducible apply rf_writes)); done) | with_reducible exact rg_and _ _ | (with_reducible refine rg_num ?_ ⟨by omega, by omega⟩; (repeat (first | assumption | with_reducible apply rf_up | with_reducible apply rf_setm | with_reducible apply rf_mI | with_reducible apply rf_begins | with_reducible apply rf_writes)); done) | (with_reducible refine rf_at ?_ _; (repeat (first | assumption | with_reducible apply rf_up | with_reducible apply rf_setm | with_reducible apply rf_mI | with_reducible apply rf_begins | with_reducible apply rf_writes)); done) | exact ⟨by omega, by omega⟩) (by first | with_reducible exact rg_mI _ _ _ | (with_reducible refine rg_of ?_ _ _; (repeat (first | assumption | with_reducible apply rf_up | with_reducible apply rf_setm | with_reducible apply rf_mI | with_reducible apply rf_begins | with_reducible apply rf_writes)); done) | (with_reducible refine rg_its ?_ _ _; (repeat (first | assumption | with_reducible apply rf_up | with_reducible apply rf_setm | with_reducible apply rf_mI | with_reducible apply rf_begins | with_reducible apply rf_writes)); done) | (with_reducible refine rg_way ?_ _ _; (repeat (first | assumption | with_reducible apply rf_up | with_reducible apply rf_setm | with_reducible apply rf_mI | with_reducible apply rf_begins | with_reducible apply rf_writes)); done) | with_reducible exact rg_and _ _ | (with_reducible refine rg_num ?_ ⟨by omega, by omega⟩; (repeat (first | assumption | with_reducible apply rf_up | with_reducible apply rf_setm | with_reducible apply rf_mI | with_reducible apply rf_begins | with_reducible apply rf_writes)); done) | (with_reducible refine rf_at ?_ _; (repeat (first | assumption | with_reducible apply rf_up | with_reducible apply rf_setm | with_reducible apply rf_mI | with_reducible apply rf_begins | with_reducible apply rf_writes)); done) | exact ⟨by omega, by omega⟩) (fun h_45 => ?_) (fun h_45 => ?_)
        · skip
          refine r_bipush hC dX8_writes_51 (by rfl) ?_
          refine r_bipush hC dX8_writes_53 (by rfl) ?_
          refine r_iload_n hC dX8_writes_55 rfl ?_
          refine r_imul hC dX8_writes_56 ?_
          refine r_iadd hC dX8_writes_57 ?_
          refine r_iconst hC dX8_writes_58 ?_
          refine r_iadd hC dX8_writes_59 ?_
          refine r_iconst hC dX8_writes_60 ?_
          refine r_iload hC dX8_writes_61 rfl ?_
          refine r_imul hC dX8_writes_63 ?_
          refine r_iadd hC dX8_writes_64 ?_
          refine r_istore (lv' := [_, _, _, _, _, _]) hC dX8_writes_65 (lt_b rfl) rfl (lt_b rfl) rfl ?_
          refine r_aload_n hC dX8_writes_67 rfl ?_
          refine r_getR (j := 0) hC dX8_writes_68 fl_X8_7 rfl rfl hM.o hM.p_row ?_
          refine r_iload hC dX8_writes_71 rfl ?_
          refine r_iload_n hC dX8_writes_73 rfl ?_
          refine rM_ast hC hM dX8_writes_74 ⟨by omega, by omega⟩ ?_
          refine r_aload_n hC dX8_writes_75 rfl ?_
          refine r_getR (j := 0) hC dX8_writes_76 fl_X8_7 rfl rfl hM.o hM.p_row ?_
          refine r_iload hC dX8_writes_79 rfl ?_
          refine r_iconst hC dX8_writes_81 ?_
          refine r_iadd hC dX8_writes_82 ?_
          refine r_iload_n hC dX8_writes_83 rfl ?_
          refine rM_ast hC hM dX8_writes_84 ⟨by omega, by omega⟩ ?_
          refine r_aload_n hC dX8_writes_85 rfl ?_
          refine r_getR (j := 0) hC dX8_writes_86 fl_X8_7 rfl rfl hM.o hM.p_row ?_
          refine r_iload hC dX8_writes_89 rfl ?_
          refine r_iconst hC dX8_writes_91 ?_
          refine r_iadd hC dX8_writes_92 ?_
          refine r_aload_n hC dX8_writes_93 rfl ?_
          refine r_getR (j := 0) hC dX8_writes_94 fl_X8_7 rfl rfl hM.o hM.p_row ?_
          refine r_iconst hC dX8_writes_97 ?_
          refine rM_ald hC hM (by (repeat (first | assumption | with_reducible apply rf_up | with_reducible apply rf_setm | with_reducible apply rf_mI | with_reducible apply rf_begins | with_reducible apply rf_writes))) dX8_writes_98 ⟨by omega, by omega⟩ ?_
          refine rM_ast hC hM dX8_writes_99 ⟨by omega, by omega⟩ ?_
          refine r_aload_n hC dX8_writes_100 rfl ?_
          refine r_getR (j := 0) hC dX8_writes_101 fl_X8_7 rfl rfl hM.o hM.p_row ?_
          refine r_bipush hC dX8_writes_104 (by rfl) ?_
          refine r_bipush hC dX8_writes_106 (by rfl) ?_
          refine r_iload_n hC dX8_writes_108 rfl ?_
          refine r_imul hC dX8_writes_109 ?_
          refine r_iadd hC dX8_writes_110 ?_
          refine r_iconst hC dX8_writes_111 ?_
          refine r_iadd hC dX8_writes_112 ?_
          refine r_iload hC dX8_writes_113 rfl ?_
          refine r_iconst hC dX8_writes_115 ?_
          refine r_iadd hC dX8_writes_116 ?_
          refine rM_ast hC hM dX8_writes_117 ⟨by omega, by omega⟩ ?_
          refine r_aload_n hC dX8_writes_118 rfl ?_
          refine r_getR (j := 0) hC dX8_writes_119 fl_X8_7 rfl rfl hM.o hM.p_row ?_
          refine r_iconst hC dX8_writes_122 ?_
          refine r_dup2 hC dX8_writes_123 rfl rfl ?_
          refine rM_ald hC hM (by (repeat (first | assumption | with_reducible apply rf_up | with_reducible apply rf_setm | with_reducible apply rf_mI | with_reducible apply rf_begins | with_reducible apply rf_writes))) dX8_writes_124 ⟨by omega, by omega⟩ ?_
          refine r_iconst hC dX8_writes_125 ?_
          refine r_iadd hC dX8_writes_126 ?_
          refine rM_ast hC hM dX8_writes_127 ⟨by omega, by omega⟩ ?_
          refine r_aload_n hC dX8_writes_128 rfl ?_
          refine r_getR (j := 0) hC dX8_writes_129 fl_X8_7 rfl rfl hM.o hM.p_row ?_
          refine r_iconst hC dX8_writes_132 ?_
          refine rM_ald hC hM (by (repeat (first | assumption | with_reducible apply rf_up | with_reducible apply rf_setm | with_reducible apply rf_mI | with_reducible apply rf_begins | with_reducible apply rf_writes))) dX8_writes_133 ⟨by omega, by omega⟩ ?_
          refine r_iconst hC dX8_writes_134 ?_
          refine r_isub hC dX8_writes_135 ?_
          refine r_iret hC hR dX8_writes_136 (le_b rfl) (le_b rfl) ?_
          have c1 : ¬ m_open f p = false := by rw [h_5]; decide
          have c2 : ¬ ¬ ((0 ≤ t ∧ t ≤ 3) ∧ (0 ≤ v ∧ v ≤ 99)) := by first | exact fun q => h_17 q.1 | exact fun q => h_27 q.2 | exact fun q => q ⟨h_17, h_27⟩ | exact fun q => absurd ⟨h_17, h_27⟩ q
          simp only [m_writesC, m_writes, if_neg c1, if_neg c2, if_neg h_45]; exact ⟨rfl, rfl⟩
        · skip
          refine r_bipush hC dX8_writes_48 (by rfl) ?_
          refine r_iret hC hR dX8_writes_50 (le_b rfl) (le_b rfl) ?_
          have c1 : ¬ m_open f p = false := by rw [h_5]; decide
          have c2 : ¬ ¬ ((0 ≤ t ∧ t ≤ 3) ∧ (0 ≤ v ∧ v ≤ 99)) := by first | exact fun q => h_17 q.1 | exact fun q => h_27 q.2 | exact fun q => q ⟨h_17, h_27⟩ | exact fun q => absurd ⟨h_17, h_27⟩ q
          simp only [m_writesC, m_writes, if_neg c1, if_neg c2, if_pos h_45]; exact ⟨rfl, rfl⟩
      · skip
        refine r_bipush hC dX8_writes_30 (by rfl) ?_
        refine r_iret hC hR dX8_writes_32 (le_b rfl) (le_b rfl) ?_
        have c1 : ¬ m_open f p = false := by rw [h_5]; decide
        have c2 : ¬ ((0 ≤ t ∧ t ≤ 3) ∧ (0 ≤ v ∧ v ≤ 99)) := by first | exact fun q => h_17 q.1 | exact fun q => h_27 q.2 | exact fun q => q ⟨h_17, h_27⟩ | exact fun q => absurd ⟨h_17, h_27⟩ q
        simp only [m_writesC, m_writes, if_neg c1, if_pos c2]; exact ⟨rfl, rfl⟩
  · skip
    refine r_bipush hC dX8_writes_8 (by rfl) ?_
    refine r_iret hC hR dX8_writes_10 (le_b rfl) (le_b rfl) ?_
    have c1 : m_open f p = false := by simpa using h_5
    simp only [m_writesC, m_writes, if_pos c1]; exact ⟨rfl, rfl⟩

def m_drops (r : RW) (p : Int) : RW := if m_open r p = false then r else up r (17 + 20 * p + 0) 0
theorem rf_drops {r : RW} (h : RF r) (p : Int) : RF (m_drops r p) := by
  unfold m_drops; split
  · exact h
  · exact rf_up h _ _
def m_dropsC (r : RW) (p : Int) : Int := if m_open r p = false then -11 else m_its (m_drops r p) p 1
abbrev rmX8_drops : Room := { frames := 2, cells := 0, slots := 0, locals := 43 }
set_option maxRecDepth 100000 in
theorem k_drops {l : Launch} {D : DD} (hfl : l.stackTraces = false) {u : Mem} {m : Nat} (hM : MO u m) {f : RW} (hf : RF f) {p : Int} (hp : rg p) : CT l D yX8_drops cX8_drops 2 (some .int) rmX8_drops [xA m, xI p] (sA u (m + 1) f) (RT (xI (m_dropsC f p)) (sA u (m + 1) (m_drops f p))) := by
  refine CT.of hfl (by decide) (le_b rfl) ?_
  intro C hC hR hL hDD hN
  have hfC : (cxL C).stackTraces = false := by rw [hL]; exact hfl
  show VW C 0 [some (xA m), some (xI p)] [] (sA u (m + 1) f) 0 0
  refine r_aload_n hC dX8_drops_0 rfl ?_
  refine r_iload_n hC dX8_drops_1 rfl ?_
  refine rM_V0 hC hM dX8_drops_2 mi_X8_isOpen se_X8_isOpen ml_X8_87 (rm := rmX8_isOpen) rfl rfl rfl rfl ⟨le_b rfl, le_b rfl⟩ (k_isOpen hfC hM hf hp) ?_ rfl
  refine r_bne (t := 11) hC dX8_drops_5 (by rfl) (fun h_5 => ?_) (fun h_5 => ?_)
  · skip
    have hp3 := m_open_rg h_5
    refine r_aload_n hC dX8_drops_11 rfl ?_
    refine r_getR (j := 0) hC dX8_drops_12 fl_X8_7 rfl rfl hM.o hM.p_row ?_
    refine r_bipush hC dX8_drops_15 (by rfl) ?_
    refine r_bipush hC dX8_drops_17 (by rfl) ?_
    refine r_iload_n hC dX8_drops_19 rfl ?_
    refine r_imul hC dX8_drops_20 ?_
    refine r_iadd hC dX8_drops_21 ?_
    refine r_iconst hC dX8_drops_22 ?_
    refine r_iadd hC dX8_drops_23 ?_
    refine r_iconst hC dX8_drops_24 ?_
    refine rM_ast hC hM dX8_drops_25 ⟨by omega, by omega⟩ ?_
    refine r_aload_n hC dX8_drops_26 rfl ?_
    refine r_iload_n hC dX8_drops_27 rfl ?_
    refine r_iconst hC dX8_drops_28 ?_
    refine rM_V0 hC hM dX8_drops_29 mi_X8_its se_X8_its ml_X8_43 (rm := rmX8_its) rfl rfl rfl rfl ⟨le_b rfl, le_b rfl⟩ (k_its hfC hM (by (repeat (first | assumption | with_reducible apply rf_up | with_reducible apply rf_setm | with_reducible apply rf_mI | with_reducible apply rf_begins | with_reducible apply rf_writes | with_reducible apply rf_drops))) ⟨by omega, by omega⟩) ?_ rfl
    refine r_iret hC hR dX8_drops_32 (le_b rfl) (le_b rfl) ?_
    have c1 : ¬ m_open f p = false := by rw [h_5]; decide
    simp only [m_dropsC, m_drops, if_neg c1]; exact ⟨rfl, rfl⟩
  · skip
    refine r_bipush hC dX8_drops_8 (by rfl) ?_
    refine r_iret hC hR dX8_drops_10 (le_b rfl) (le_b rfl) ?_
    have c1 : m_open f p = false := by simpa using h_5
    simp only [m_dropsC, m_drops, if_pos c1]; exact ⟨rfl, rfl⟩

def m_rowOf (r : RW) (n k : Int) : Int := b_and (b_shr (m_way r n (5 + k.tdiv 4)) (8 * k.tmod 4)) 255
abbrev rmX8_rowOf : Room := { frames := 1, cells := 0, slots := 0, locals := 22 }
set_option maxRecDepth 100000 in
theorem k_rowOf {l : Launch} {D : DD} (hfl : l.stackTraces = false) {u : Mem} {m : Nat} (hM : MO u m) {f : RW} (hf : RF f) {n k : Int} (hn : 0 ≤ n ∧ n < 100) (hk : 0 ≤ k ∧ k < 8) : CT l D yX8_rowOf cX8_rowOf 3 (some .int) rmX8_rowOf [xA m, xI n, xI k] (sA u (m + 1) f) (RT (xI (m_rowOf f n k)) (sA u (m + 1) f)) := by
  refine CT.of hfl (by decide) (le_b rfl) ?_
  intro C hC hR hL hDD hN
  have hfC : (cxL C).stackTraces = false := by rw [hL]; exact hfl
  show VW C 0 [some (xA m), some (xI n), some (xI k)] [] (sA u (m + 1) f) 0 0
  refine r_aload_n hC dX8_rowOf_0 rfl ?_
  refine r_iload_n hC dX8_rowOf_1 rfl ?_
  refine r_iconst hC dX8_rowOf_2 ?_
  refine r_iload_n hC dX8_rowOf_3 rfl ?_
  refine r_iconst hC dX8_rowOf_4 ?_
  refine r_idiv hC (by first | with_reducible exact rg_mI _ _ _ | (with_reducible refine rg_of ?_ _ _; (repeat (first | assumption | with_reducible apply rf_up | with_reducible apply rf_setm | with_reducible apply rf_mI | with_reducible apply rf_begins | with_reducible apply rf_writes | with_reducible apply rf_drops)); done) | (with_reducible refine rg_its ?_ _ _; (repeat (first | assumption | with_reducible apply rf_up | with_reducible apply rf_setm | with_reducible apply rf_mI | with_reducible apply rf_begins | with_reducible apply rf_writes | with_reducible apply rf_drops)); done) | (with_reducible refine rg_way ?_ _ _; (repeat (first | assumption | with_reducible apply rf_up | with_reducible apply rf_setm | with_reducible apply rf_mI | with_reducible apply rf_begins | with_reducible apply rf_writes | with_reducible apply rf_drops)); done) | with_reducible exact rg_and _ _ | (with_reducible refine rg_num ?_ ⟨by omega, by omega⟩; (repeat (first | assumption | with_reducible apply rf_up | with_reducible apply rf_setm | with_reducible apply rf_mI | with_reducible apply rf_begins | with_reducible apply rf_writes | with_reducible apply rf_drops)); done) | (with_reducible refine rf_at ?_ _; (repeat (first | assumption | with_reducible apply rf_up | with_reducible apply rf_setm | with_reducible apply rf_mI | with_reducible apply rf_begins | with_reducible apply rf_writes | with_reducible apply rf_drops)); done) | exact ⟨by omega, by omega⟩) (by first | with_reducible exact rg_mI _ _ _ | (with_reducible refine rg_of ?_ _ _; (repeat (first | assumption | with_reducible apply rf_up | with_reducible apply rf_setm | with_reducible apply rf_mI | with_reducible apply rf_begins | with_reducible apply rf_writes | with_reducible apply rf_drops)); done) | (with_reducible refine rg_its ?_ _ _; (repeat (first | assumption | with_reducible apply rf_up | with_reducible apply rf_setm | with_reducible apply rf_mI | with_reducible apply rf_begins | with_reducible apply rf_writes | with_reducible apply rf_drops)); done) | (with_reducible refine rg_way ?_ _ _; (repeat (first | assumption | with_reducible apply rf_up | with_reducible apply rf_setm | with_reducible apply rf_mI | with_reducible apply rf_begins | with_reducible apply rf_writes | with_reducible apply rf_drops)); done) | with_reducible exact rg_and _ _ | (with_reducible refine rg_num ?_ ⟨by omega, by omega⟩; (repeat (first | assumption | with_reducible apply rf_up | with_reducible apply rf_setm | with_reducible apply rf_mI | with_reducible apply rf_begins | with_reducible apply rf_writes | with_reducible apply rf_drops)); done) | (with_reducible refine rf_at ?_ _; (repeat (first | assumption | with_reducible apply rf_up | with_reducible apply rf_setm | with_reducible apply rf_mI | with_reducible apply rf_begins | with_reducible apply rf_writes | with_reducible apply rf_drops)); done) | exact ⟨by omega, by omega⟩) (by omega) dX8_rowOf_5 ?_
  refine r_iadd hC dX8_rowOf_6 ?_
  refine rM_V0 hC hM dX8_rowOf_7 mi_X8_way se_X8_way ml_X8_101 (rm := rmX8_way) rfl rfl rfl rfl ⟨le_b rfl, le_b rfl⟩ (k_way hfC hM hf (by rw [Int.tdiv_eq_ediv_of_nonneg hk.1]; omega)) ?_ rfl
  refine r_bipush hC dX8_rowOf_10 (by rfl) ?_
  refine r_iload_n hC dX8_rowOf_12 rfl ?_
  refine r_iconst hC dX8_rowOf_13 ?_
  refine r_irem hC (by first | with_reducible exact rg_mI _ _ _ | (with_reducible refine rg_of ?_ _ _; (repeat (first | assumption | with_reducible apply rf_up | with_reducible apply rf_setm | with_reducible apply rf_mI | with_reducible apply rf_begins | with_reducible apply rf_writes | with_reducible apply rf_drops)); done) | (with_reducible refine rg_its ?_ _ _; (repeat (first | assumption | with_reducible apply rf_up | with_reducible apply rf_setm | with_reducible apply rf_mI | with_reducible apply rf_begins | with_reducible apply rf_writes | with_reducible apply rf_drops)); done) | (with_reducible refine rg_way ?_ _ _; (repeat (first | assumption | with_reducible apply rf_up | with_reducible apply rf_setm | with_reducible apply rf_mI | with_reducible apply rf_begins | with_reducible apply rf_writes | with_reducible apply rf_drops)); done) | with_reducible exact rg_and _ _ | (with_reducible refine rg_num ?_ ⟨by omega, by omega⟩; (repeat (first | assumption | with_reducible apply rf_up | with_reducible apply rf_setm | with_reducible apply rf_mI | with_reducible apply rf_begins | with_reducible apply rf_writes | with_reducible apply rf_drops)); done) | (with_reducible refine rf_at ?_ _; (repeat (first | assumption | with_reducible apply rf_up | with_reducible apply rf_setm | with_reducible apply rf_mI | with_reducible apply rf_begins | with_reducible apply rf_writes | with_reducible apply rf_drops)); done) | exact ⟨by omega, by omega⟩) (by first | with_reducible exact rg_mI _ _ _ | (with_reducible refine rg_of ?_ _ _; (repeat (first | assumption | with_reducible apply rf_up | with_reducible apply rf_setm | with_reducible apply rf_mI | with_reducible apply rf_begins | with_reducible apply rf_writes | with_reducible apply rf_drops)); done) | (with_reducible refine rg_its ?_ _ _; (repeat (first | assumption | with_reducible apply rf_up | with_reducible apply rf_setm | with_reducible apply rf_mI | with_reducible apply rf_begins | with_reducible apply rf_writes | with_reducible apply rf_drops)); done) | (with_reducible refine rg_way ?_ _ _; (repeat (first | assumption | with_reducible apply rf_up | with_reducible apply rf_setm | with_reducible apply rf_mI | with_reducible apply rf_begins | with_reducible apply rf_writes | with_reducible apply rf_drops)); done) | with_reducible exact rg_and _ _ | (with_reducible refine rg_num ?_ ⟨by omega, by omega⟩; (repeat (first | assumption | with_reducible apply rf_up | with_reducible apply rf_setm | with_reducible apply rf_mI | with_reducible apply rf_begins | with_reducible apply rf_writes | with_reducible apply rf_drops)); done) | (with_reducible refine rf_at ?_ _; (repeat (first | assumption | with_reducible apply rf_up | with_reducible apply rf_setm | with_reducible apply rf_mI | with_reducible apply rf_begins | with_reducible apply rf_writes | with_reducible apply rf_drops)); done) | exact ⟨by omega, by omega⟩) (by omega) dX8_rowOf_14 ?_
  refine r_imul hC dX8_rowOf_15 ?_
  refine r_ishr hC dX8_rowOf_16 ?_
  refine r_sipush hC dX8_rowOf_17 (by rfl) ?_
  refine r_iand hC dX8_rowOf_20 ?_
  refine r_iret hC hR dX8_rowOf_21 (le_b rfl) (le_b rfl) ?_
  exact ⟨rfl, rfl⟩

/-- the places k.. of the row are taken from 7 places on, as far as it has come -/
def m_tkL (r : RW) (n k : Int) : RW := fun j => if 811 + 7 * n ≤ j ∧ j < k then r (j + 7) else r j
def m_takeOff (r : RW) (n : Int) : RW := fun j => if j = 9 then r 9 - 1 else if 811 + 7 * (r 9 - 1) ≤ j ∧ j < 811 + 7 * r 9 then 0 else if 811 + 7 * n ≤ j ∧ j < 811 + 7 * (r 9 - 1) then r (j + 7) else r j
theorem rf_takeOff {r : RW} (h : RF r) (h9 : 0 < r 9 ∧ r 9 ≤ 100) (n : Int) : RF (m_takeOff r n) := fun j => by
  unfold m_takeOff; split
  · exact ⟨by omega, by omega⟩
  · split
    · exact rg_0
    · split <;> exact h _
abbrev rmX8_takeOff : Room := { frames := 0, cells := 0, slots := 0, locals := 0 }
set_option maxRecDepth 100000 in
theorem k_takeOff {l : Launch} {D : DD} (hfl : l.stackTraces = false) {u : Mem} {m : Nat} (hM : MO u m) {f : RW} (hf : RF f) (h9 : 0 < f 9 ∧ f 9 ≤ 100) {b : Int} (hb : 0 ≤ b ∧ b < f 9) : CT l D yX8_takeOff cX8_takeOff 3 none rmX8_takeOff [xA m, xI b] (sA u (m + 1) f) (RV (sA u (m + 1) (m_takeOff f b))) := by
  refine CT.of hfl (by decide) (le_b rfl) ?_
  intro C hC hR hL hDD hN
  have hfC : (cxL C).stackTraces = false := by rw [hL]; exact hfl
  have e9 : wr (f 9 - 1) = f 9 - 1 := wr_id ⟨by omega, by omega⟩
  obtain ⟨f1, hf1⟩ : ∃ z, z = up f 9 (f 9 - 1) := ⟨_, rfl⟩
  have h19 : f1 9 = f 9 - 1 := by rw [hf1, up_s, e9]
  have rf1 : RF f1 := by rw [hf1]; exact rf_up hf _ _
  have hfin : ∀ (n : Nat) (i : Nat), 7 - i = n → i ≤ 7 → VW C 61 [some (xA m), some (xI b), some (xI i)] [] (sA u (m + 1) (fun j => if 811 + 7 * (f 9 - 1) ≤ j ∧ j < 811 + 7 * (f 9 - 1) + i then 0 else m_tkL f1 b (811 + 7 * (f 9 - 1)) j)) 0 0 := by
    intro n
    induction n using Nat.strongRecOn with
    | _ n ih =>
      intro i hn hi
      obtain ⟨q, hq⟩ : ∃ z, z = (fun j => if 811 + 7 * (f 9 - 1) ≤ j ∧ j < 811 + 7 * (f 9 - 1) + i then 0 else m_tkL f1 b (811 + 7 * (f 9 - 1)) j : RW) := ⟨_, rfl⟩
      rw [← hq]
      have hq9 : q 9 = f 9 - 1 := by rw [hq]; dsimp only; rw [if_neg (by omega)]; unfold m_tkL; rw [if_neg (by omega)]; exact h19
      have rq : RF q := by rw [hq]; intro j; dsimp only; split; exact rg_0; unfold m_tkL; split <;> exact rf1 _
      refine r_iload_n hC dX8_takeOff_61 rfl ?_
      refine r_bipush hC dX8_takeOff_62 (by rfl) ?_
      refine r_icmp_ge (t := 95) hC dX8_takeOff_64 (by rfl) (by first | with_reducible exact rg_mI _ _ _ | (with_reducible refine rg_of ?_ _ _; (repeat (first | assumption | with_reducible apply rf_up | with_reducible apply rf_setm | with_reducible apply rf_mI | with_reducible apply rf_begins | with_reducible apply rf_writes | with_reducible apply rf_drops)); done) | (with_reducible refine rg_its ?_ _ _; (repeat (first | assumption | with_reducible apply rf_up | with_reducible apply rf_setm | with_reducible apply rf_mI | with_reducible apply rf_begins | with_reducible apply rf_writes | with_reducible apply rf_drops)); done) | (with_reducible refine rg_way ?_ _ _; (repeat (first | assumption | with_reducible apply rf_up | with_reducible apply rf_setm | with_reducible apply rf_mI | with_reducible apply rf_begins | with_reducible apply rf_writes | with_reducible apply rf_drops)); done) | with_reducible exact rg_and _ _ | (with_reducible refine rg_num ?_ ⟨by omega, by omega⟩; (repeat (first | assumption | with_reducible apply rf_up | with_reducible apply rf_setm | with_reducible apply rf_mI | with_reducible apply rf_begins | with_reducible apply rf_writes | with_reducible apply rf_drops)); done) | (with_reducible refine rf_at ?_ _; (repeat (first | assumption | with_reducible apply rf_up | with_reducible apply rf_setm | with_reducible apply rf_mI | with_reducible apply rf_begins | with_reducible apply rf_writes | with_reducible apply rf_drops)); done) | exact ⟨by omega, by omega⟩) (by first | with_reducible exact rg_mI _ _ _ | (with_reducible refine rg_of ?_ _ _; (repeat (first | assumption | with_reducible apply rf_up | with_reducible apply rf_setm | with_reducible apply rf_mI | with_reducible apply rf_begins | with_reducible apply rf_writes | with_reducible apply rf_drops)); done) | (with_reducible refine rg_its ?_ _ _; (repeat (first | assumption | with_reducible apply rf_up | with_reducible apply rf_setm | with_reducible apply rf_mI | with_reducible apply rf_begins | with_reducible apply rf_writes | with_reducible apply rf_drops)); done) | (with_reducible refine rg_way ?_ _ _; (repeat (first | assumption | with_reducible apply rf_up | with_reducible apply rf_setm | with_reducible apply rf_mI | with_reducible apply rf_begins | with_reducible apply rf_writes | with_reducible apply rf_drops)); done) | with_reducible exact rg_and _ _ | (with_reducible refine rg_num ?_ ⟨by omega, by omega⟩; (repeat (first | assumption | with_reducible apply rf_up | with_reducible apply rf_setm | with_reducible apply rf_mI | with_reducible apply rf_begins | with_reducible apply rf_writes | with_reducible apply rf_drops)); done) | (with_reducible refine rf_at ?_ _; (repeat (first | assumption | with_reducible apply rf_up | with_reducible apply rf_setm | with_reducible apply rf_mI | with_reducible apply rf_begins | with_reducible apply rf_writes | with_reducible apply rf_drops)); done) | exact ⟨by omega, by omega⟩) (fun h_64 => ?_) (fun h_64 => ?_)
      · skip
        refine r_vret hC hR dX8_takeOff_95 (le_b rfl) (le_b rfl) ?_
        refine ⟨rfl, sA_wr fun j => ?_⟩
        rw [hq]; dsimp only; unfold m_takeOff m_tkL
        rw [hf1]
        have : (i : Int) = 7 := by omega
        rw [this]; unfold up
        by_cases hj : j = 9
        · subst hj; rw [if_neg (by omega), if_neg (by omega)]; simp only [if_true]; rw [wr_wr]
        · rw [if_neg hj]; split <;> split <;> (try split) <;> first | rfl | omega | skip
          all_goals (first | (rw [if_neg (by omega)]; done) | skip)
          all_goals (first | rfl | (rw [if_neg (by omega)]) | omega)
      · skip
        refine r_aload_n hC dX8_takeOff_67 rfl ?_
        refine r_getR (j := 0) hC dX8_takeOff_68 fl_X8_7 rfl rfl hM.o hM.p_row ?_
        refine r_sipush hC dX8_takeOff_71 (by rfl) ?_
        refine r_bipush hC dX8_takeOff_74 (by rfl) ?_
        refine r_aload_n hC dX8_takeOff_76 rfl ?_
        refine r_getR (j := 0) hC dX8_takeOff_77 fl_X8_7 rfl rfl hM.o hM.p_row ?_
        refine r_bipush hC dX8_takeOff_80 (by rfl) ?_
        refine rM_ald hC hM (by (repeat (first | assumption | with_reducible apply rf_up | with_reducible apply rf_setm | with_reducible apply rf_mI | with_reducible apply rf_begins | with_reducible apply rf_writes | with_reducible apply rf_drops))) dX8_takeOff_82 ⟨by omega, by omega⟩ ?_
        refine r_imul hC dX8_takeOff_83 ?_
        refine r_iadd hC dX8_takeOff_84 ?_
        refine r_iload_n hC dX8_takeOff_85 rfl ?_
        refine r_iadd hC dX8_takeOff_86 ?_
        refine r_iconst hC dX8_takeOff_87 ?_
        refine rM_ast hC hM dX8_takeOff_88 ⟨by omega, by omega⟩ ?_
        refine r_iinc (lv' := [_, _, _]) hC dX8_takeOff_89 rfl (lt_b rfl) rfl (lt_b rfl) rfl ?_
        refine r_goto (t := 61) hC dX8_takeOff_92 (by rfl) ?_
        refine vw_mem ?_ (ih _ (by omega) (i + 1) rfl (by omega))
        refine sA_wr fun j => ?_
        unfold up
        rw [hq9, hq]
        dsimp only
        by_cases hj : j = 811 + 7 * (f 9 - 1) + i
        · rw [if_pos (by rw [hj]), if_pos (by omega)]; rfl
        · rw [if_neg (by omega)]; congr 1; split <;> split <;> first | rfl | omega
  have lp : ∀ (n : Nat) (k : Int), (811 + 7 * (f 9 - 1) - k).toNat = n → 811 + 7 * b ≤ k → k ≤ 811 + 7 * (f 9 - 1) → VW C 20 [some (xA m), some (xI b), some (xI k)] [] (sA u (m + 1) (m_tkL f1 b k)) 0 0 := by
    intro n
    induction n using Nat.strongRecOn with
    | _ n ih =>
      intro k hn hk1 hk2
      have hq9 : (m_tkL f1 b k) 9 = f 9 - 1 := by unfold m_tkL; rw [if_neg (by omega)]; exact h19
      have rq : RF (m_tkL f1 b k) := by intro j; unfold m_tkL; split <;> exact rf1 _
      refine r_iload_n hC dX8_takeOff_20 rfl ?_
      refine r_sipush hC dX8_takeOff_21 (by rfl) ?_
      refine r_bipush hC dX8_takeOff_24 (by rfl) ?_
      refine r_aload_n hC dX8_takeOff_26 rfl ?_
      refine r_getR (j := 0) hC dX8_takeOff_27 fl_X8_7 rfl rfl hM.o hM.p_row ?_
      refine r_bipush hC dX8_takeOff_30 (by rfl) ?_
      refine rM_ald hC hM (by (repeat (first | assumption | with_reducible apply rf_up | with_reducible apply rf_setm | with_reducible apply rf_mI | with_reducible apply rf_begins | with_reducible apply rf_writes | with_reducible apply rf_drops))) dX8_takeOff_32 ⟨by omega, by omega⟩ ?_
      refine r_imul hC dX8_takeOff_33 ?_
      refine r_iadd hC dX8_takeOff_34 ?_
      refine r_icmp_ge (t := 59) hC dX8_takeOff_35 (by rfl) (by first | with_reducible exact rg_mI _ _ _ | (with_reducible refine rg_of ?_ _ _; (repeat (first | assumption | with_reducible apply rf_up | with_reducible apply rf_setm | with_reducible apply rf_mI | with_reducible apply rf_begins | with_reducible apply rf_writes | with_reducible apply rf_drops)); done) | (with_reducible refine rg_its ?_ _ _; (repeat (first | assumption | with_reducible apply rf_up | with_reducible apply rf_setm | with_reducible apply rf_mI | with_reducible apply rf_begins | with_reducible apply rf_writes | with_reducible apply rf_drops)); done) | (with_reducible refine rg_way ?_ _ _; (repeat (first | assumption | with_reducible apply rf_up | with_reducible apply rf_setm | with_reducible apply rf_mI | with_reducible apply rf_begins | with_reducible apply rf_writes | with_reducible apply rf_drops)); done) | with_reducible exact rg_and _ _ | (with_reducible refine rg_num ?_ ⟨by omega, by omega⟩; (repeat (first | assumption | with_reducible apply rf_up | with_reducible apply rf_setm | with_reducible apply rf_mI | with_reducible apply rf_begins | with_reducible apply rf_writes | with_reducible apply rf_drops)); done) | (with_reducible refine rf_at ?_ _; (repeat (first | assumption | with_reducible apply rf_up | with_reducible apply rf_setm | with_reducible apply rf_mI | with_reducible apply rf_begins | with_reducible apply rf_writes | with_reducible apply rf_drops)); done) | exact ⟨by omega, by omega⟩) (by first | with_reducible exact rg_mI _ _ _ | (with_reducible refine rg_of ?_ _ _; (repeat (first | assumption | with_reducible apply rf_up | with_reducible apply rf_setm | with_reducible apply rf_mI | with_reducible apply rf_begins | with_reducible apply rf_writes | with_reducible apply rf_drops)); done) | (with_reducible refine rg_its ?_ _ _; (repeat (first | assumption | with_reducible apply rf_up | with_reducible apply rf_setm | with_reducible apply rf_mI | with_reducible apply rf_begins | with_reducible apply rf_writes | with_reducible apply rf_drops)); done) | (with_reducible refine rg_way ?_ _ _; (repeat (first | assumption | with_reducible apply rf_up | with_reducible apply rf_setm | with_reducible apply rf_mI | with_reducible apply rf_begins | with_reducible apply rf_writes | with_reducible apply rf_drops)); done) | with_reducible exact rg_and _ _ | (with_reducible refine rg_num ?_ ⟨by omega, by omega⟩; (repeat (first | assumption | with_reducible apply rf_up | with_reducible apply rf_setm | with_reducible apply rf_mI | with_reducible apply rf_begins | with_reducible apply rf_writes | with_reducible apply rf_drops)); done) | (with_reducible refine rf_at ?_ _; (repeat (first | assumption | with_reducible apply rf_up | with_reducible apply rf_setm | with_reducible apply rf_mI | with_reducible apply rf_begins | with_reducible apply rf_writes | with_reducible apply rf_drops)); done) | exact ⟨by omega, by omega⟩) (fun h_35 => ?_) (fun h_35 => ?_)
      · skip
        refine r_iconst hC dX8_takeOff_59 ?_
        refine r_istore_n (lv' := [_, _, _]) hC dX8_takeOff_60 (lt_b rfl) rfl (lt_b rfl) rfl ?_
        have e : k = 811 + 7 * (f 9 - 1) := by omega
        subst e
        refine vw_mem (sA_wr fun j => ?_) (hfin _ 0 rfl (by omega))
        rw [if_neg (by omega)]
      · skip
        refine r_aload_n hC dX8_takeOff_38 rfl ?_
        refine r_getR (j := 0) hC dX8_takeOff_39 fl_X8_7 rfl rfl hM.o hM.p_row ?_
        refine r_iload_n hC dX8_takeOff_42 rfl ?_
        refine r_aload_n hC dX8_takeOff_43 rfl ?_
        refine r_getR (j := 0) hC dX8_takeOff_44 fl_X8_7 rfl rfl hM.o hM.p_row ?_
        refine r_iload_n hC dX8_takeOff_47 rfl ?_
        refine r_bipush hC dX8_takeOff_48 (by rfl) ?_
        refine r_iadd hC dX8_takeOff_50 ?_
        refine rM_ald hC hM (by (repeat (first | assumption | with_reducible apply rf_up | with_reducible apply rf_setm | with_reducible apply rf_mI | with_reducible apply rf_begins | with_reducible apply rf_writes | with_reducible apply rf_drops))) dX8_takeOff_51 ⟨by omega, by omega⟩ ?_
        refine rM_ast hC hM dX8_takeOff_52 ⟨by omega, by omega⟩ ?_
        refine r_iinc (lv' := [_, _, _]) hC dX8_takeOff_53 rfl (lt_b rfl) rfl (lt_b rfl) rfl ?_
        refine r_goto (t := 20) hC dX8_takeOff_56 (by rfl) ?_
        refine vw_mem ?_ (ih _ (by omega) (k + 1) rfl (by omega) (by omega))
        refine sA_wr fun j => ?_
        unfold up
        by_cases hj : j = k
        · subst hj; rw [if_pos rfl, wr_wr]; unfold m_tkL; rw [if_neg (by omega), if_pos (by omega)]
        · rw [if_neg hj]; congr 1; unfold m_tkL; split <;> split <;> first | rfl | omega
  show VW C 0 [some (xA m), some (xI b), none] [] (sA u (m + 1) f) 0 0
  refine r_aload_n hC dX8_takeOff_0 rfl ?_
  refine r_getR (j := 0) hC dX8_takeOff_1 fl_X8_7 rfl rfl hM.o hM.p_row ?_
  refine r_bipush hC dX8_takeOff_4 (by rfl) ?_
  refine r_dup2 hC dX8_takeOff_6 rfl rfl ?_
  refine rM_ald hC hM (by (repeat (first | assumption | with_reducible apply rf_up | with_reducible apply rf_setm | with_reducible apply rf_mI | with_reducible apply rf_begins | with_reducible apply rf_writes | with_reducible apply rf_drops))) dX8_takeOff_7 ⟨by omega, by omega⟩ ?_
  refine r_iconst hC dX8_takeOff_8 ?_
  refine r_isub hC dX8_takeOff_9 ?_
  refine rM_ast hC hM dX8_takeOff_10 ⟨by omega, by omega⟩ ?_
  refine r_sipush hC dX8_takeOff_11 (by rfl) ?_
  refine r_bipush hC dX8_takeOff_14 (by rfl) ?_
  refine r_iload_n hC dX8_takeOff_16 rfl ?_
  refine r_imul hC dX8_takeOff_17 ?_
  refine r_iadd hC dX8_takeOff_18 ?_
  refine r_istore_n (lv' := [_, _, _]) hC dX8_takeOff_19 (lt_b rfl) rfl (lt_b rfl) rfl ?_
  rw [← hf1]
  refine vw_mem (sA_wr fun j => ?_) (lp _ (811 + 7 * b) rfl (by omega) (by omega))
  unfold m_tkL; rw [if_neg (by omega)]

