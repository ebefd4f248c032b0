def m_commit1 (g : RW) (p k : Int) : RW :=
  let a := 17 + 20 * p + 2 + 3 * k
  let t := 97 + 3 * g 2
  let g1 := up g t (g a + 4 * g (a + 1))
  let g2 := up g1 (t + 1) (g1 (a + 2))
  let g3 := up g2 (t + 2) 0
  up g3 2 (g3 2 + 1)
def m_commitL (r : RW) (p : Int) : Nat → RW
  | 0 => r
  | k + 1 => m_commit1 (m_commitL r p k) p k
theorem rf_commit1 {g : RW} (h : RF g) (p k : Int) : RF (m_commit1 g p k) := rf_up (rf_up (rf_up (rf_up h _ _) _ _) _ _) _ _
theorem rf_commitL {r : RW} (h : RF r) (p : Int) (n : Nat) : RF (m_commitL r p n) := by
  induction n with
  | zero => exact h
  | succ n ih => exact rf_commit1 ih _ _
theorem m_commitL_2 {r : RW} (h : RF r) (p : Int) (h2 : 0 ≤ r 2 ∧ r 2 ≤ 200) (n : Nat) (hn : n ≤ 6) : (m_commitL r p n) 2 = r 2 + n := by
  induction n with
  | zero => simp [m_commitL]
  | succ n ih =>
    have ih := ih (by omega)
    simp only [m_commitL, m_commit1]
    rw [up_s, up_n _ _ (by omega), up_n _ _ (by omega), up_n _ _ (by omega), ih, wr_id ⟨by omega, by omega⟩]
    omega
def m_commitsC (r : RW) (p : Int) : Int := if m_open r p = false then -11 else if m_kept r + m_its r p 1 > 60 ∨ r 2 + m_its r p 1 > 200 then -12 else m_kept (up (m_commitL r p (m_its r p 1).toNat) (17 + 20 * p + 0) 0)
def m_commits (r : RW) (p : Int) : RW := if m_open r p = false then r else if m_kept r + m_its r p 1 > 60 ∨ r 2 + m_its r p 1 > 200 then r else up (m_commitL r p (m_its r p 1).toNat) (17 + 20 * p + 0) 0
theorem rf_commits {r : RW} (h : RF r) (p : Int) : RF (m_commits r p) := by
  unfold m_commits; split
  · exact h
  · split
    · exact h
    · exact rf_up (rf_commitL h _ _) _ _
abbrev rmX8_commits : Room := { frames := 2, cells := 0, slots := 0, locals := 43 }
set_option maxRecDepth 100000 in
theorem k_commits {l : Launch} {D : DD} (hfl : l.stackTraces = false) {u : Mem} {m : Nat} (hM : MO u m) {f : RW} (hf : RF f) (h2 : 0 ≤ f 2 ∧ f 2 ≤ 200) (h3 : 0 ≤ f 3 ∧ f 3 ≤ f 2) {p : Int} (hp : rg p) (hn : m_open f p = true → 0 ≤ m_its f p 1 ∧ m_its f p 1 ≤ 6) : CT l D yX8_commits cX8_commits 6 (some .int) rmX8_commits [xA m, xI p] (sA u (m + 1) f) (RT (xI (m_commitsC f p)) (sA u (m + 1) (m_commits f p))) := by
  refine CT.of hfl (by decide) (le_b rfl) ?_
  intro C hC hR hL hDD hN
  have hfC : (cxL C).stackTraces = false := by rw [hL]; exact hfl
  show VW C 0 [some (xA m), some (xI p), none, none, none, none] [] (sA u (m + 1) f) 0 0
  refine r_aload_n hC dX8_commits_0 rfl ?_
  refine r_iload_n hC dX8_commits_1 rfl ?_
  refine rM_V0 hC hM dX8_commits_2 mi_X8_isOpen se_X8_isOpen ml_X8_87 (rm := rmX8_isOpen) rfl rfl rfl rfl ⟨le_b rfl, le_b rfl⟩ (k_isOpen hfC hM hf hp) ?_ rfl
  refine r_bne (t := 11) hC dX8_commits_5 (by rfl) (fun h_5 => ?_) (fun h_5 => ?_)
  · skip
    have hp3 := m_open_rg h_5
    have hn6 := hn h_5
    refine r_aload_n hC dX8_commits_11 rfl ?_
    refine r_iload_n hC dX8_commits_12 rfl ?_
    refine r_iconst hC dX8_commits_13 ?_
    refine rM_V0 hC hM dX8_commits_14 mi_X8_its se_X8_its ml_X8_43 (rm := rmX8_its) rfl rfl rfl rfl ⟨le_b rfl, le_b rfl⟩ (k_its hfC hM hf ⟨by omega, by omega⟩) ?_ rfl
    refine r_istore_n (lv' := [_, _, _, _, _, _]) hC dX8_commits_17 (lt_b rfl) rfl (lt_b rfl) rfl ?_
    refine r_aload_n hC dX8_commits_18 rfl ?_
    refine rM_V0 hC hM dX8_commits_19 mi_X8_keptRows se_X8_keptRows ml_X8_91 (rm := rmX8_keptRows) rfl rfl rfl rfl ⟨le_b rfl, le_b rfl⟩ (k_keptRows hfC hM (by (repeat (first | assumption | with_reducible apply rf_up | with_reducible apply rf_setm | with_reducible apply rf_mI | with_reducible apply rf_begins | with_reducible apply rf_writes | with_reducible apply rf_drops | with_reducible apply rf_commitL | with_reducible apply rf_commits)))) ?_ rfl
    refine r_iload_n hC dX8_commits_22 rfl ?_
    refine r_iadd hC dX8_commits_23 ?_
    refine r_bipush hC dX8_commits_24 (by rfl) ?_
    refine r_icmp_gt (t := 43) hC dX8_commits_26 (by rfl) (by unfold m_kept; exact ⟨by omega, by omega⟩) (by first | with_reducible exact rg_mI _ _ _ | (with_reducible refine rg_of ?_ _ _; (repeat (first | assumption | with_reducible apply rf_up | with_reducible apply rf_setm | with_reducible apply rf_mI | with_reducible apply rf_begins | with_reducible apply rf_writes | with_reducible apply rf_drops | with_reducible apply rf_commitL | with_reducible apply rf_commits)); done) | (with_reducible refine rg_its ?_ _ _; (repeat (first | assumption | with_reducible apply rf_up | with_reducible apply rf_setm | with_reducible apply rf_mI | with_reducible apply rf_begins | with_reducible apply rf_writes | with_reducible apply rf_drops | with_reducible apply rf_commitL | with_reducible apply rf_commits)); done) | (with_reducible refine rg_way ?_ _ _; (repeat (first | assumption | with_reducible apply rf_up | with_reducible apply rf_setm | with_reducible apply rf_mI | with_reducible apply rf_begins | with_reducible apply rf_writes | with_reducible apply rf_drops | with_reducible apply rf_commitL | with_reducible apply rf_commits)); done) | with_reducible exact rg_and _ _ | (with_reducible refine rg_num ?_ ⟨by omega, by omega⟩; (repeat (first | assumption | with_reducible apply rf_up | with_reducible apply rf_setm | with_reducible apply rf_mI | with_reducible apply rf_begins | with_reducible apply rf_writes | with_reducible apply rf_drops | with_reducible apply rf_commitL | with_reducible apply rf_commits)); done) | (with_reducible refine rf_at ?_ _; (repeat (first | assumption | with_reducible apply rf_up | with_reducible apply rf_setm | with_reducible apply rf_mI | with_reducible apply rf_begins | with_reducible apply rf_writes | with_reducible apply rf_drops | with_reducible apply rf_commitL | with_reducible apply rf_commits)); done) | exact ⟨by omega, by omega⟩) (fun h_26 => ?_) (fun h_26 => ?_)
    · skip
      refine r_bipush hC dX8_commits_43 (by rfl) ?_
      refine r_iret hC hR dX8_commits_45 (le_b rfl) (le_b rfl) ?_
      have c1 : ¬ m_open f p = false := by rw [h_5]; decide
      have c2 : m_kept f + m_its f p 1 > 60 ∨ f 2 + m_its f p 1 > 200 := by omega
      simp only [m_commitsC, m_commits, if_neg c1, if_pos c2]; exact ⟨rfl, rfl⟩
    · skip
      refine r_aload_n hC dX8_commits_29 rfl ?_
      refine r_getR (j := 0) hC dX8_commits_30 fl_X8_7 rfl rfl hM.o hM.p_row ?_
      refine r_iconst hC dX8_commits_33 ?_
      refine rM_ald hC hM (by (repeat (first | assumption | with_reducible apply rf_up | with_reducible apply rf_setm | with_reducible apply rf_mI | with_reducible apply rf_begins | with_reducible apply rf_writes | with_reducible apply rf_drops | with_reducible apply rf_commitL | with_reducible apply rf_commits))) dX8_commits_34 ⟨by omega, by omega⟩ ?_
      refine r_iload_n hC dX8_commits_35 rfl ?_
      refine r_iadd hC dX8_commits_36 ?_
      refine r_sipush hC dX8_commits_37 (by rfl) ?_
      refine r_icmp_le (t := 46) hC dX8_commits_40 (by rfl) (by first | with_reducible exact rg_mI _ _ _ | (with_reducible refine rg_of ?_ _ _; (repeat (first | assumption | with_reducible apply rf_up | with_reducible apply rf_setm | with_reducible apply rf_mI | with_reducible apply rf_begins | with_reducible apply rf_writes | with_reducible apply rf_drops | with_reducible apply rf_commitL | with_reducible apply rf_commits)); done) | (with_reducible refine rg_its ?_ _ _; (repeat (first | assumption | with_reducible apply rf_up | with_reducible apply rf_setm | with_reducible apply rf_mI | with_reducible apply rf_begins | with_reducible apply rf_writes | with_reducible apply rf_drops | with_reducible apply rf_commitL | with_reducible apply rf_commits)); done) | (with_reducible refine rg_way ?_ _ _; (repeat (first | assumption | with_reducible apply rf_up | with_reducible apply rf_setm | with_reducible apply rf_mI | with_reducible apply rf_begins | with_reducible apply rf_writes | with_reducible apply rf_drops | with_reducible apply rf_commitL | with_reducible apply rf_commits)); done) | with_reducible exact rg_and _ _ | (with_reducible refine rg_num ?_ ⟨by omega, by omega⟩; (repeat (first | assumption | with_reducible apply rf_up | with_reducible apply rf_setm | with_reducible apply rf_mI | with_reducible apply rf_begins | with_reducible apply rf_writes | with_reducible apply rf_drops | with_reducible apply rf_commitL | with_reducible apply rf_commits)); done) | (with_reducible refine rf_at ?_ _; (repeat (first | assumption | with_reducible apply rf_up | with_reducible apply rf_setm | with_reducible apply rf_mI | with_reducible apply rf_begins | with_reducible apply rf_writes | with_reducible apply rf_drops | with_reducible apply rf_commitL | with_reducible apply rf_commits)); done) | exact ⟨by omega, by omega⟩) (by first | with_reducible exact rg_mI _ _ _ | (with_reducible refine rg_of ?_ _ _; (repeat (first | assumption | with_reducible apply rf_up | with_reducible apply rf_setm | with_reducible apply rf_mI | with_reducible apply rf_begins | with_reducible apply rf_writes | with_reducible apply rf_drops | with_reducible apply rf_commitL | with_reducible apply rf_commits)); done) | (with_reducible refine rg_its ?_ _ _; (repeat (first | assumption | with_reducible apply rf_up | with_reducible apply rf_setm | with_reducible apply rf_mI | with_reducible apply rf_begins | with_reducible apply rf_writes | with_reducible apply rf_drops | with_reducible apply rf_commitL | with_reducible apply rf_commits)); done) | (with_reducible refine rg_way ?_ _ _; (repeat (first | assumption | with_reducible apply rf_up | with_reducible apply rf_setm | with_reducible apply rf_mI | with_reducible apply rf_begins | with_reducible apply rf_writes | with_reducible apply rf_drops | with_reducible apply rf_commitL | with_reducible apply rf_commits)); done) | with_reducible exact rg_and _ _ | (with_reducible refine rg_num ?_ ⟨by omega, by omega⟩; (repeat (first | assumption | with_reducible apply rf_up | with_reducible apply rf_setm | with_reducible apply rf_mI | with_reducible apply rf_begins | with_reducible apply rf_writes | with_reducible apply rf_drops | with_reducible apply rf_commitL | with_reducible apply rf_commits)); done) | (with_reducible refine rf_at ?_ _; (repeat (first | assumption | with_reducible apply rf_up | with_reducible apply rf_setm | with_reducible apply rf_mI | with_reducible apply rf_begins | with_reducible apply rf_writes | with_reducible apply rf_drops | with_reducible apply rf_commitL | with_reducible apply rf_commits)); done) | exact ⟨by omega, by omega⟩) (fun h_40 => ?_) (fun h_40 => ?_)
      · skip
        refine r_iconst hC dX8_commits_46 ?_
        refine r_istore_n (lv' := [_, _, _, _, _, _]) hC dX8_commits_47 (lt_b rfl) rfl (lt_b rfl) rfl ?_
        have c1 : ¬ m_open f p = false := by rw [h_5]; decide
        have c2 : ¬ (m_kept f + m_its f p 1 > 60 ∨ f 2 + m_its f p 1 > 200) := by omega
        obtain ⟨N, hN0⟩ : ∃ N : Nat, m_its f p 1 = N := ⟨(m_its f p 1).toNat, by omega⟩
        rw [hN0] at hn6 c2
        have lp : ∀ (n : Nat) (k : Nat) (w1 w2 : Option SV), N - k = n → k ≤ N → VW C 48 [some (xA m), some (xI p), some (xI N), some (xI k), w1, w2] [] (sA u (m + 1) (m_commitL f p k)) 0 0 := by
          intro n
          induction n using Nat.strongRecOn with
          | _ n ih =>
            intro k w1 w2 hn hk
            have hg2 := m_commitL_2 hf p h2 k (by omega)
            refine r_iload_n hC dX8_commits_48 rfl ?_
            refine r_iload_n hC dX8_commits_49 rfl ?_
            refine r_icmp_ge (t := 151) hC dX8_commits_50 (by rfl) (by first | with_reducible exact rg_mI _ _ _ | (with_reducible refine rg_of ?_ _ _; (repeat (first | assumption | with_reducible apply rf_up | with_reducible apply rf_setm | with_reducible apply rf_mI | with_reducible apply rf_begins | with_reducible apply rf_writes | with_reducible apply rf_drops | with_reducible apply rf_commitL | with_reducible apply rf_commits)); done) | (with_reducible refine rg_its ?_ _ _; (repeat (first | assumption | with_reducible apply rf_up | with_reducible apply rf_setm | with_reducible apply rf_mI | with_reducible apply rf_begins | with_reducible apply rf_writes | with_reducible apply rf_drops | with_reducible apply rf_commitL | with_reducible apply rf_commits)); done) | (with_reducible refine rg_way ?_ _ _; (repeat (first | assumption | with_reducible apply rf_up | with_reducible apply rf_setm | with_reducible apply rf_mI | with_reducible apply rf_begins | with_reducible apply rf_writes | with_reducible apply rf_drops | with_reducible apply rf_commitL | with_reducible apply rf_commits)); done) | with_reducible exact rg_and _ _ | (with_reducible refine rg_num ?_ ⟨by omega, by omega⟩; (repeat (first | assumption | with_reducible apply rf_up | with_reducible apply rf_setm | with_reducible apply rf_mI | with_reducible apply rf_begins | with_reducible apply rf_writes | with_reducible apply rf_drops | with_reducible apply rf_commitL | with_reducible apply rf_commits)); done) | (with_reducible refine rf_at ?_ _; (repeat (first | assumption | with_reducible apply rf_up | with_reducible apply rf_setm | with_reducible apply rf_mI | with_reducible apply rf_begins | with_reducible apply rf_writes | with_reducible apply rf_drops | with_reducible apply rf_commitL | with_reducible apply rf_commits)); done) | exact ⟨by omega, by omega⟩) (by first | with_reducible exact rg_mI _ _ _ | (with_reducible refine rg_of ?_ _ _; (repeat (first | assumption | with_reducible apply rf_up | with_reducible apply rf_setm | with_reducible apply rf_mI | with_reducible apply rf_begins | with_reducible apply rf_writes | with_reducible apply rf_drops | with_reducible apply rf_commitL | with_reducible apply rf_commits)); done) | (with_reducible refine rg_its ?_ _ _; (repeat (first | assumption | with_reducible apply rf_up | with_reducible apply rf_setm | with_reducible apply rf_mI | with_reducible apply rf_begins | with_reducible apply rf_writes | with_reducible apply rf_drops | with_reducible apply rf_commitL | with_reducible apply rf_commits)); done) | (with_reducible refine rg_way ?_ _ _; (repeat (first | assumption | with_reducible apply rf_up | with_reducible apply rf_setm | with_reducible apply rf_mI | with_reducible apply rf_begins | with_reducible apply rf_writes | with_reducible apply rf_drops | with_reducible apply rf_commitL | with_reducible apply rf_commits)); done) | with_reducible exact rg_and _ _ | (with_reducible refine rg_num ?_ ⟨by omega, by omega⟩; (repeat (first | assumption | with_reducible apply rf_up | with_reducible apply rf_setm | with_reducible apply rf_mI | with_reducible apply rf_begins | with_reducible apply rf_writes | with_reducible apply rf_drops | with_reducible apply rf_commitL | with_reducible apply rf_commits)); done) | (with_reducible refine rf_at ?_ _; (repeat (first | assumption | with_reducible apply rf_up | with_reducible apply rf_setm | with_reducible apply rf_mI | with_reducible apply rf_begins | with_reducible apply rf_writes | with_reducible apply rf_drops | with_reducible apply rf_commitL | with_reducible apply rf_commits)); done) | exact ⟨by omega, by omega⟩) (fun h_50 => ?_) (fun h_50 => ?_)
            · skip
              refine r_aload_n hC dX8_commits_151 rfl ?_
              refine r_getR (j := 0) hC dX8_commits_152 fl_X8_7 rfl rfl hM.o hM.p_row ?_
              refine r_bipush hC dX8_commits_155 (by rfl) ?_
              refine r_bipush hC dX8_commits_157 (by rfl) ?_
              refine r_iload_n hC dX8_commits_159 rfl ?_
              refine r_imul hC dX8_commits_160 ?_
              refine r_iadd hC dX8_commits_161 ?_
              refine r_iconst hC dX8_commits_162 ?_
              refine r_iadd hC dX8_commits_163 ?_
              refine r_iconst hC dX8_commits_164 ?_
              refine rM_ast hC hM dX8_commits_165 ⟨by omega, by omega⟩ ?_
              refine r_aload_n hC dX8_commits_166 rfl ?_
              refine rM_V0 hC hM dX8_commits_167 mi_X8_keptRows se_X8_keptRows ml_X8_91 (rm := rmX8_keptRows) rfl rfl rfl rfl ⟨le_b rfl, le_b rfl⟩ (k_keptRows hfC hM (by (repeat (first | assumption | with_reducible apply rf_up | with_reducible apply rf_setm | with_reducible apply rf_mI | with_reducible apply rf_begins | with_reducible apply rf_writes | with_reducible apply rf_drops | with_reducible apply rf_commitL | with_reducible apply rf_commits)))) ?_ rfl
              refine r_iret hC hR dX8_commits_170 (le_b rfl) (le_b rfl) ?_
              have e : (m_its f p 1).toNat = k := by omega
              simp only [m_commitsC, m_commits, if_neg c1, hN0]
              rw [if_neg c2, if_neg c2, show ((N : Int)).toNat = k by omega]; exact ⟨rfl, rfl⟩
            · skip
              refine r_bipush hC dX8_commits_53 (by rfl) ?_
              refine r_bipush hC dX8_commits_55 (by rfl) ?_
              refine r_iload_n hC dX8_commits_57 rfl ?_
              refine r_imul hC dX8_commits_58 ?_
              refine r_iadd hC dX8_commits_59 ?_
              refine r_iconst hC dX8_commits_60 ?_
              refine r_iadd hC dX8_commits_61 ?_
              refine r_iconst hC dX8_commits_62 ?_
              refine r_iload_n hC dX8_commits_63 rfl ?_
              refine r_imul hC dX8_commits_64 ?_
              refine r_iadd hC dX8_commits_65 ?_
              refine r_istore (lv' := [_, _, _, _, _, _]) hC dX8_commits_66 (lt_b rfl) rfl (lt_b rfl) rfl ?_
              refine r_bipush hC dX8_commits_68 (by rfl) ?_
              refine r_iconst hC dX8_commits_70 ?_
              refine r_aload_n hC dX8_commits_71 rfl ?_
              refine r_getR (j := 0) hC dX8_commits_72 fl_X8_7 rfl rfl hM.o hM.p_row ?_
              refine r_iconst hC dX8_commits_75 ?_
              refine rM_ald hC hM (by (repeat (first | assumption | with_reducible apply rf_up | with_reducible apply rf_setm | with_reducible apply rf_mI | with_reducible apply rf_begins | with_reducible apply rf_writes | with_reducible apply rf_drops | with_reducible apply rf_commitL | with_reducible apply rf_commits))) dX8_commits_76 ⟨by omega, by omega⟩ ?_
              refine r_imul hC dX8_commits_77 ?_
              refine r_iadd hC dX8_commits_78 ?_
              refine r_istore (lv' := [_, _, _, _, _, _]) hC dX8_commits_79 (lt_b rfl) rfl (lt_b rfl) rfl ?_
              refine r_aload_n hC dX8_commits_81 rfl ?_
              refine r_getR (j := 0) hC dX8_commits_82 fl_X8_7 rfl rfl hM.o hM.p_row ?_
              refine r_iload hC dX8_commits_85 rfl ?_
              refine r_aload_n hC dX8_commits_87 rfl ?_
              refine r_getR (j := 0) hC dX8_commits_88 fl_X8_7 rfl rfl hM.o hM.p_row ?_
              refine r_iload hC dX8_commits_91 rfl ?_
              refine rM_ald hC hM (by (repeat (first | assumption | with_reducible apply rf_up | with_reducible apply rf_setm | with_reducible apply rf_mI | with_reducible apply rf_begins | with_reducible apply rf_writes | with_reducible apply rf_drops | with_reducible apply rf_commitL | with_reducible apply rf_commits))) dX8_commits_93 ⟨by omega, by omega⟩ ?_
              refine r_iconst hC dX8_commits_94 ?_
              refine r_aload_n hC dX8_commits_95 rfl ?_
              refine r_getR (j := 0) hC dX8_commits_96 fl_X8_7 rfl rfl hM.o hM.p_row ?_
              refine r_iload hC dX8_commits_99 rfl ?_
              refine r_iconst hC dX8_commits_101 ?_
              refine r_iadd hC dX8_commits_102 ?_
              refine rM_ald hC hM (by (repeat (first | assumption | with_reducible apply rf_up | with_reducible apply rf_setm | with_reducible apply rf_mI | with_reducible apply rf_begins | with_reducible apply rf_writes | with_reducible apply rf_drops | with_reducible apply rf_commitL | with_reducible apply rf_commits))) dX8_commits_103 ⟨by omega, by omega⟩ ?_
              refine r_imul hC dX8_commits_104 ?_
              refine r_iadd hC dX8_commits_105 ?_
              refine rM_ast hC hM dX8_commits_106 ⟨by omega, by omega⟩ ?_
              refine r_aload_n hC dX8_commits_107 rfl ?_
              refine r_getR (j := 0) hC dX8_commits_108 fl_X8_7 rfl rfl hM.o hM.p_row ?_
              refine r_iload hC dX8_commits_111 rfl ?_
              refine r_iconst hC dX8_commits_113 ?_
              refine r_iadd hC dX8_commits_114 ?_
              refine r_aload_n hC dX8_commits_115 rfl ?_
              refine r_getR (j := 0) hC dX8_commits_116 fl_X8_7 rfl rfl hM.o hM.p_row ?_
              refine r_iload hC dX8_commits_119 rfl ?_
              refine r_iconst hC dX8_commits_121 ?_
              refine r_iadd hC dX8_commits_122 ?_
              refine rM_ald hC hM (by (repeat (first | assumption | with_reducible apply rf_up | with_reducible apply rf_setm | with_reducible apply rf_mI | with_reducible apply rf_begins | with_reducible apply rf_writes | with_reducible apply rf_drops | with_reducible apply rf_commitL | with_reducible apply rf_commits))) dX8_commits_123 ⟨by omega, by omega⟩ ?_
              refine rM_ast hC hM dX8_commits_124 ⟨by omega, by omega⟩ ?_
              refine r_aload_n hC dX8_commits_125 rfl ?_
              refine r_getR (j := 0) hC dX8_commits_126 fl_X8_7 rfl rfl hM.o hM.p_row ?_
              refine r_iload hC dX8_commits_129 rfl ?_
              refine r_iconst hC dX8_commits_131 ?_
              refine r_iadd hC dX8_commits_132 ?_
              refine r_iconst hC dX8_commits_133 ?_
              refine rM_ast hC hM dX8_commits_134 ⟨by omega, by omega⟩ ?_
              refine r_aload_n hC dX8_commits_135 rfl ?_
              refine r_getR (j := 0) hC dX8_commits_136 fl_X8_7 rfl rfl hM.o hM.p_row ?_
              refine r_iconst hC dX8_commits_139 ?_
              refine r_dup2 hC dX8_commits_140 rfl rfl ?_
              refine rM_ald hC hM (by (repeat (first | assumption | with_reducible apply rf_up | with_reducible apply rf_setm | with_reducible apply rf_mI | with_reducible apply rf_begins | with_reducible apply rf_writes | with_reducible apply rf_drops | with_reducible apply rf_commitL | with_reducible apply rf_commits))) dX8_commits_141 ⟨by omega, by omega⟩ ?_
              refine r_iconst hC dX8_commits_142 ?_
              refine r_iadd hC dX8_commits_143 ?_
              refine rM_ast hC hM dX8_commits_144 ⟨by omega, by omega⟩ ?_
              refine r_iinc (lv' := [_, _, _, _, _, _]) hC dX8_commits_145 rfl (lt_b rfl) rfl (lt_b rfl) rfl ?_
              refine r_goto (t := 48) hC dX8_commits_148 (by rfl) ?_
              exact ih _ (by omega) (k + 1) _ _ rfl (by omega)
        rw [hN0]; exact lp _ 0 _ _ rfl (by omega)
      · skip
        refine r_bipush hC dX8_commits_43 (by rfl) ?_
        refine r_iret hC hR dX8_commits_45 (le_b rfl) (le_b rfl) ?_
        have c1 : ¬ m_open f p = false := by rw [h_5]; decide
        have c2 : m_kept f + m_its f p 1 > 60 ∨ f 2 + m_its f p 1 > 200 := by omega
        simp only [m_commitsC, m_commits, if_neg c1, if_pos c2]; exact ⟨rfl, rfl⟩
  · skip
    refine r_bipush hC dX8_commits_8 (by rfl) ?_
    refine r_iret hC hR dX8_commits_10 (le_b rfl) (le_b rfl) ?_
    have c1 : m_open f p = false := by simpa using h_5
    simp only [m_commitsC, m_commits, if_pos c1]; exact ⟨rfl, rfl⟩

def m_lost (g : RW) (k c : Int) : RW := up g (697 + 38 * c + 12) (m_of g c 12 + (if m_wants g c (m_topic g k) = true ∧ m_mark g k (1 + c) = false then 1 else 0))
def m_sweep1 (g : RW) (k : Int) : RW := m_lost (m_lost (m_lost (m_setm g k 0) k 0) k 1) k 2
theorem rf_lost {g : RW} (h : RF g) (k c : Int) : RF (m_lost g k c) := rf_up h _ _
def m_sweepL (r : RW) : Nat → RW
  | 0 => r
  | k + 1 => if m_mark (m_sweepL r k) k 0 = false ∧ m_ansBy (m_sweepL r k) k = 7 then m_sweep1 (m_sweepL r k) k else m_sweepL r k
def m_sweepN (r : RW) : Nat → Int
  | 0 => 0
  | k + 1 => if m_mark (m_sweepL r k) k 0 = false ∧ m_ansBy (m_sweepL r k) k = 7 then m_sweepN r k + 1 else m_sweepN r k
theorem rf_sweep1 {g : RW} (h : RF g) (k : Int) : RF (m_sweep1 g k) := rf_lost (rf_lost (rf_lost (rf_setm h _ _) _ _) _ _) _ _
theorem rf_sweepL {r : RW} (h : RF r) (n : Nat) : RF (m_sweepL r n) := by
  induction n with
  | zero => exact h
  | succ n ih => simp only [m_sweepL]; split; exact rf_sweep1 ih _; exact ih
theorem m_sweep1_lo {g : RW} {k j : Int} (hk : 0 ≤ k) (hj : j < 97) : (m_sweep1 g k) j = g j := by
  unfold m_sweep1 m_lost m_setm
  rw [up_n _ _ (by omega), up_n _ _ (by omega), up_n _ _ (by omega), up_n _ _ (by omega)]
theorem m_sweepL_lo {r : RW} {j : Int} (hj : j < 97) (n : Nat) : (m_sweepL r n) j = r j := by
  induction n with
  | zero => rfl
  | succ n ih =>
    simp only [m_sweepL]; split
    · rw [m_sweep1_lo (by omega) hj, ih]
    · exact ih
theorem m_sweepN_rg (r : RW) (n : Nat) : 0 ≤ m_sweepN r n ∧ m_sweepN r n ≤ n := by
  induction n with
  | zero => simp [m_sweepN]
  | succ n ih => simp only [m_sweepN]; split <;> omega
def m_sweepsC (r : RW) : Int := m_sweepN r (r 2).toNat
def m_sweeps (r : RW) : RW := up (m_sweepL r (r 2).toNat) 3 ((m_sweepL r (r 2).toNat) 3 + m_sweepN r (r 2).toNat)
theorem rf_sweeps {r : RW} (h : RF r) : RF (m_sweeps r) := rf_up (rf_sweepL h _) _ _
theorem rg_ansBy (r : RW) (k : Int) : rg (m_ansBy r k) := rg_or _ _
abbrev rmX8_sweeps : Room := { frames := 4, cells := 0, slots := 0, locals := 89 }
set_option maxRecDepth 100000 in
theorem k_sweeps {l : Launch} {D : DD} (hfl : l.stackTraces = false) {u : Mem} {m : Nat} (hM : MO u m) {f : RW} (hf : RF f) (h2 : 0 ≤ f 2 ∧ f 2 ≤ 200) : CT l D yX8_sweeps cX8_sweeps 5 (some .int) rmX8_sweeps [xA m] (sA u (m + 1) f) (RT (xI (m_sweepsC f)) (sA u (m + 1) (m_sweeps f))) := by
  refine CT.of hfl (by decide) (le_b rfl) ?_
  intro C hC hR hL hDD hN
  have hfC : (cxL C).stackTraces = false := by rw [hL]; exact hfl
  have lp : ∀ (n : Nat) (k : Nat) (s : Int) (w1 w2 : Option SV), ((f 2 - k).toNat = n) → ((k : Int) ≤ f 2) → (s = m_sweepN f k) → VW C 4 [some (xA m), some (xI s), some (xI k), w1, w2] [] (sA u (m + 1) (m_sweepL f k)) 0 0 := by
    intro n
    induction n using Nat.strongRecOn with
    | _ n ih =>
      intro k s w1 w2 hn hk hs
      have hlo : ∀ j, j < 97 → (m_sweepL f k) j = f j := fun j hj => m_sweepL_lo hj k
      have hc2 := hlo 2 (by omega)
      have hsr := m_sweepN_rg f k
      refine r_iload_n hC dX8_sweeps_4 rfl ?_
      refine r_aload_n hC dX8_sweeps_5 rfl ?_
      refine r_getR (j := 0) hC dX8_sweeps_6 fl_X8_7 rfl rfl hM.o hM.p_row ?_
      refine r_iconst hC dX8_sweeps_9 ?_
      refine rM_ald hC hM (by (repeat (first | assumption | with_reducible apply rf_up | with_reducible apply rf_setm | with_reducible apply rf_mI | with_reducible apply rf_begins | with_reducible apply rf_writes | with_reducible apply rf_drops | with_reducible apply rf_commitL | with_reducible apply rf_commits | with_reducible apply rf_lost | with_reducible apply rf_sweepL | with_reducible apply rf_sweep1 | with_reducible apply rf_sweeps))) dX8_sweeps_10 ⟨by omega, by omega⟩ ?_
      refine r_icmp_ge (t := 117) hC dX8_sweeps_11 (by rfl) (by first | with_reducible exact rg_mI _ _ _ | (with_reducible refine rg_of ?_ _ _; (repeat (first | assumption | with_reducible apply rf_up | with_reducible apply rf_setm | with_reducible apply rf_mI | with_reducible apply rf_begins | with_reducible apply rf_writes | with_reducible apply rf_drops | with_reducible apply rf_commitL | with_reducible apply rf_commits | with_reducible apply rf_lost | with_reducible apply rf_sweepL | with_reducible apply rf_sweep1 | with_reducible apply rf_sweeps)); done) | (with_reducible refine rg_its ?_ _ _; (repeat (first | assumption | with_reducible apply rf_up | with_reducible apply rf_setm | with_reducible apply rf_mI | with_reducible apply rf_begins | with_reducible apply rf_writes | with_reducible apply rf_drops | with_reducible apply rf_commitL | with_reducible apply rf_commits | with_reducible apply rf_lost | with_reducible apply rf_sweepL | with_reducible apply rf_sweep1 | with_reducible apply rf_sweeps)); done) | (with_reducible refine rg_way ?_ _ _; (repeat (first | assumption | with_reducible apply rf_up | with_reducible apply rf_setm | with_reducible apply rf_mI | with_reducible apply rf_begins | with_reducible apply rf_writes | with_reducible apply rf_drops | with_reducible apply rf_commitL | with_reducible apply rf_commits | with_reducible apply rf_lost | with_reducible apply rf_sweepL | with_reducible apply rf_sweep1 | with_reducible apply rf_sweeps)); done) | with_reducible exact rg_and _ _ | (with_reducible refine rg_num ?_ ⟨by omega, by omega⟩; (repeat (first | assumption | with_reducible apply rf_up | with_reducible apply rf_setm | with_reducible apply rf_mI | with_reducible apply rf_begins | with_reducible apply rf_writes | with_reducible apply rf_drops | with_reducible apply rf_commitL | with_reducible apply rf_commits | with_reducible apply rf_lost | with_reducible apply rf_sweepL | with_reducible apply rf_sweep1 | with_reducible apply rf_sweeps)); done) | (with_reducible refine rf_at ?_ _; (repeat (first | assumption | with_reducible apply rf_up | with_reducible apply rf_setm | with_reducible apply rf_mI | with_reducible apply rf_begins | with_reducible apply rf_writes | with_reducible apply rf_drops | with_reducible apply rf_commitL | with_reducible apply rf_commits | with_reducible apply rf_lost | with_reducible apply rf_sweepL | with_reducible apply rf_sweep1 | with_reducible apply rf_sweeps)); done) | exact ⟨by omega, by omega⟩) (by first | with_reducible exact rg_mI _ _ _ | (with_reducible refine rg_of ?_ _ _; (repeat (first | assumption | with_reducible apply rf_up | with_reducible apply rf_setm | with_reducible apply rf_mI | with_reducible apply rf_begins | with_reducible apply rf_writes | with_reducible apply rf_drops | with_reducible apply rf_commitL | with_reducible apply rf_commits | with_reducible apply rf_lost | with_reducible apply rf_sweepL | with_reducible apply rf_sweep1 | with_reducible apply rf_sweeps)); done) | (with_reducible refine rg_its ?_ _ _; (repeat (first | assumption | with_reducible apply rf_up | with_reducible apply rf_setm | with_reducible apply rf_mI | with_reducible apply rf_begins | with_reducible apply rf_writes | with_reducible apply rf_drops | with_reducible apply rf_commitL | with_reducible apply rf_commits | with_reducible apply rf_lost | with_reducible apply rf_sweepL | with_reducible apply rf_sweep1 | with_reducible apply rf_sweeps)); done) | (with_reducible refine rg_way ?_ _ _; (repeat (first | assumption | with_reducible apply rf_up | with_reducible apply rf_setm | with_reducible apply rf_mI | with_reducible apply rf_begins | with_reducible apply rf_writes | with_reducible apply rf_drops | with_reducible apply rf_commitL | with_reducible apply rf_commits | with_reducible apply rf_lost | with_reducible apply rf_sweepL | with_reducible apply rf_sweep1 | with_reducible apply rf_sweeps)); done) | with_reducible exact rg_and _ _ | (with_reducible refine rg_num ?_ ⟨by omega, by omega⟩; (repeat (first | assumption | with_reducible apply rf_up | with_reducible apply rf_setm | with_reducible apply rf_mI | with_reducible apply rf_begins | with_reducible apply rf_writes | with_reducible apply rf_drops | with_reducible apply rf_commitL | with_reducible apply rf_commits | with_reducible apply rf_lost | with_reducible apply rf_sweepL | with_reducible apply rf_sweep1 | with_reducible apply rf_sweeps)); done) | (with_reducible refine rf_at ?_ _; (repeat (first | assumption | with_reducible apply rf_up | with_reducible apply rf_setm | with_reducible apply rf_mI | with_reducible apply rf_begins | with_reducible apply rf_writes | with_reducible apply rf_drops | with_reducible apply rf_commitL | with_reducible apply rf_commits | with_reducible apply rf_lost | with_reducible apply rf_sweepL | with_reducible apply rf_sweep1 | with_reducible apply rf_sweeps)); done) | exact ⟨by omega, by omega⟩) (fun h_11 => ?_) (fun h_11 => ?_)
      · skip
        refine r_aload_n hC dX8_sweeps_117 rfl ?_
        refine r_getR (j := 0) hC dX8_sweeps_118 fl_X8_7 rfl rfl hM.o hM.p_row ?_
        refine r_iconst hC dX8_sweeps_121 ?_
        refine r_dup2 hC dX8_sweeps_122 rfl rfl ?_
        refine rM_ald hC hM (by (repeat (first | assumption | with_reducible apply rf_up | with_reducible apply rf_setm | with_reducible apply rf_mI | with_reducible apply rf_begins | with_reducible apply rf_writes | with_reducible apply rf_drops | with_reducible apply rf_commitL | with_reducible apply rf_commits | with_reducible apply rf_lost | with_reducible apply rf_sweepL | with_reducible apply rf_sweep1 | with_reducible apply rf_sweeps))) dX8_sweeps_123 ⟨by omega, by omega⟩ ?_
        refine r_iload_n hC dX8_sweeps_124 rfl ?_
        refine r_iadd hC dX8_sweeps_125 ?_
        refine rM_ast hC hM dX8_sweeps_126 ⟨by omega, by omega⟩ ?_
        refine r_iload_n hC dX8_sweeps_127 rfl ?_
        refine r_iret hC hR dX8_sweeps_128 (le_b rfl) (le_b rfl) ?_
        have e : (f 2).toNat = k := by omega
        unfold m_sweepsC m_sweeps
        rw [e, hs]; exact ⟨rfl, rfl⟩
      · skip
        refine r_aload_n hC dX8_sweeps_14 rfl ?_
        refine r_iload_n hC dX8_sweeps_15 rfl ?_
        refine r_iconst hC dX8_sweeps_16 ?_
        refine rM_V0 hC hM dX8_sweeps_17 mi_X8_hasMark se_X8_hasMark ml_X8_51 (rm := rmX8_hasMark) rfl rfl rfl rfl ⟨le_b rfl, le_b rfl⟩ (k_hasMark hfC hM (by (repeat (first | assumption | with_reducible apply rf_up | with_reducible apply rf_setm | with_reducible apply rf_mI | with_reducible apply rf_begins | with_reducible apply rf_writes | with_reducible apply rf_drops | with_reducible apply rf_commitL | with_reducible apply rf_commits | with_reducible apply rf_lost | with_reducible apply rf_sweepL | with_reducible apply rf_sweep1 | with_reducible apply rf_sweeps))) ⟨by omega, by omega⟩) ?_ rfl
        refine r_bne (t := 111) hC dX8_sweeps_20 (by rfl) (fun h_20 => ?_) (fun h_20 => ?_)
        · skip
          refine r_iinc (lv' := [_, _, _, _, _]) hC dX8_sweeps_111 rfl (lt_b rfl) rfl (lt_b rfl) rfl ?_
          refine r_goto (t := 4) hC dX8_sweeps_114 (by rfl) ?_
          refine vw_mem ?_ (ih _ (by omega) (k + 1) _ _ _ rfl (by omega) (by simp only [m_sweepN]; rw [if_neg (by simp_all), hs]))
          simp only [m_sweepL]; rw [if_neg (by simp_all)]
        · skip
          refine r_aload_n hC dX8_sweeps_23 rfl ?_
          refine r_iload_n hC dX8_sweeps_24 rfl ?_
          refine rM_V0 hC hM dX8_sweeps_25 mi_X8_answeredBy se_X8_answeredBy ml_X8_94 (rm := rmX8_answeredBy) rfl rfl rfl rfl ⟨le_b rfl, le_b rfl⟩ (k_answeredBy hfC hM (by (repeat (first | assumption | with_reducible apply rf_up | with_reducible apply rf_setm | with_reducible apply rf_mI | with_reducible apply rf_begins | with_reducible apply rf_writes | with_reducible apply rf_drops | with_reducible apply rf_commitL | with_reducible apply rf_commits | with_reducible apply rf_lost | with_reducible apply rf_sweepL | with_reducible apply rf_sweep1 | with_reducible apply rf_sweeps))) ⟨by omega, by omega⟩) ?_ rfl
          refine r_bipush hC dX8_sweeps_28 (by rfl) ?_
          refine r_icmp_ne (t := 111) hC dX8_sweeps_30 (by rfl) (rg_ansBy _ _) (by first | with_reducible exact rg_mI _ _ _ | (with_reducible refine rg_of ?_ _ _; (repeat (first | assumption | with_reducible apply rf_up | with_reducible apply rf_setm | with_reducible apply rf_mI | with_reducible apply rf_begins | with_reducible apply rf_writes | with_reducible apply rf_drops | with_reducible apply rf_commitL | with_reducible apply rf_commits | with_reducible apply rf_lost | with_reducible apply rf_sweepL | with_reducible apply rf_sweep1 | with_reducible apply rf_sweeps)); done) | (with_reducible refine rg_its ?_ _ _; (repeat (first | assumption | with_reducible apply rf_up | with_reducible apply rf_setm | with_reducible apply rf_mI | with_reducible apply rf_begins | with_reducible apply rf_writes | with_reducible apply rf_drops | with_reducible apply rf_commitL | with_reducible apply rf_commits | with_reducible apply rf_lost | with_reducible apply rf_sweepL | with_reducible apply rf_sweep1 | with_reducible apply rf_sweeps)); done) | (with_reducible refine rg_way ?_ _ _; (repeat (first | assumption | with_reducible apply rf_up | with_reducible apply rf_setm | with_reducible apply rf_mI | with_reducible apply rf_begins | with_reducible apply rf_writes | with_reducible apply rf_drops | with_reducible apply rf_commitL | with_reducible apply rf_commits | with_reducible apply rf_lost | with_reducible apply rf_sweepL | with_reducible apply rf_sweep1 | with_reducible apply rf_sweeps)); done) | with_reducible exact rg_and _ _ | (with_reducible refine rg_num ?_ ⟨by omega, by omega⟩; (repeat (first | assumption | with_reducible apply rf_up | with_reducible apply rf_setm | with_reducible apply rf_mI | with_reducible apply rf_begins | with_reducible apply rf_writes | with_reducible apply rf_drops | with_reducible apply rf_commitL | with_reducible apply rf_commits | with_reducible apply rf_lost | with_reducible apply rf_sweepL | with_reducible apply rf_sweep1 | with_reducible apply rf_sweeps)); done) | (with_reducible refine rf_at ?_ _; (repeat (first | assumption | with_reducible apply rf_up | with_reducible apply rf_setm | with_reducible apply rf_mI | with_reducible apply rf_begins | with_reducible apply rf_writes | with_reducible apply rf_drops | with_reducible apply rf_commitL | with_reducible apply rf_commits | with_reducible apply rf_lost | with_reducible apply rf_sweepL | with_reducible apply rf_sweep1 | with_reducible apply rf_sweeps)); done) | exact ⟨by omega, by omega⟩) (fun h_30 => ?_) (fun h_30 => ?_)
          · skip
            refine r_iinc (lv' := [_, _, _, _, _]) hC dX8_sweeps_111 rfl (lt_b rfl) rfl (lt_b rfl) rfl ?_
            refine r_goto (t := 4) hC dX8_sweeps_114 (by rfl) ?_
            refine vw_mem ?_ (ih _ (by omega) (k + 1) _ _ _ rfl (by omega) (by simp only [m_sweepN]; rw [if_neg (by simp_all), hs]))
            simp only [m_sweepL]; rw [if_neg (by simp_all)]
          · skip
            refine r_aload_n hC dX8_sweeps_33 rfl ?_
            refine r_iload_n hC dX8_sweeps_34 rfl ?_
            refine r_iconst hC dX8_sweeps_35 ?_
            refine rM_V0v hC hM dX8_sweeps_36 mi_X8_mark se_X8_mark ml_X8_97 (rm := rmX8_mark) rfl rfl rfl rfl ⟨le_b rfl, le_b rfl⟩ (k_mark hfC hM (by (repeat (first | assumption | with_reducible apply rf_up | with_reducible apply rf_setm | with_reducible apply rf_mI | with_reducible apply rf_begins | with_reducible apply rf_writes | with_reducible apply rf_drops | with_reducible apply rf_commitL | with_reducible apply rf_commits | with_reducible apply rf_lost | with_reducible apply rf_sweepL | with_reducible apply rf_sweep1 | with_reducible apply rf_sweeps))) ⟨by omega, by omega⟩) ?_ rfl
            refine r_iinc (lv' := [_, _, _, _, _]) hC dX8_sweeps_39 rfl (lt_b rfl) rfl (lt_b rfl) rfl ?_
            refine r_iconst hC dX8_sweeps_42 ?_
            refine r_istore_n (lv' := [_, _, _, _, _]) hC dX8_sweeps_43 (lt_b rfl) rfl (lt_b rfl) rfl ?_
            have hm0 : m_mark (m_sweepL f k) k 0 = false := by simpa using h_20
            have inn : ∀ (c : Nat) (h : RW) (w : Option SV), RF h → c < 3 → (∀ w', VW C 44 [some (xA m), some (xI (s + 1)), some (xI k), some (xI ((c : Int) + 1)), w'] [] (sA u (m + 1) (m_lost h k c)) 0 0) → VW C 44 [some (xA m), some (xI (s + 1)), some (xI k), some (xI (c : Int)), w] [] (sA u (m + 1) h) 0 0 := by
              intro c h w rh hc3 kk
              refine r_iload_n hC dX8_sweeps_44 rfl ?_
              refine r_iconst hC dX8_sweeps_45 ?_
              refine r_icmp_ge (t := 111) hC dX8_sweeps_46 (by rfl) (by first | with_reducible exact rg_mI _ _ _ | (with_reducible refine rg_of ?_ _ _; (repeat (first | assumption | with_reducible apply rf_up | with_reducible apply rf_setm | with_reducible apply rf_mI | with_reducible apply rf_begins | with_reducible apply rf_writes | with_reducible apply rf_drops | with_reducible apply rf_commitL | with_reducible apply rf_commits | with_reducible apply rf_lost | with_reducible apply rf_sweepL | with_reducible apply rf_sweep1 | with_reducible apply rf_sweeps)); done) | (with_reducible refine rg_its ?_ _ _; (repeat (first | assumption | with_reducible apply rf_up | with_reducible apply rf_setm | with_reducible apply rf_mI | with_reducible apply rf_begins | with_reducible apply rf_writes | with_reducible apply rf_drops | with_reducible apply rf_commitL | with_reducible apply rf_commits | with_reducible apply rf_lost | with_reducible apply rf_sweepL | with_reducible apply rf_sweep1 | with_reducible apply rf_sweeps)); done) | (with_reducible refine rg_way ?_ _ _; (repeat (first | assumption | with_reducible apply rf_up | with_reducible apply rf_setm | with_reducible apply rf_mI | with_reducible apply rf_begins | with_reducible apply rf_writes | with_reducible apply rf_drops | with_reducible apply rf_commitL | with_reducible apply rf_commits | with_reducible apply rf_lost | with_reducible apply rf_sweepL | with_reducible apply rf_sweep1 | with_reducible apply rf_sweeps)); done) | with_reducible exact rg_and _ _ | (with_reducible refine rg_num ?_ ⟨by omega, by omega⟩; (repeat (first | assumption | with_reducible apply rf_up | with_reducible apply rf_setm | with_reducible apply rf_mI | with_reducible apply rf_begins | with_reducible apply rf_writes | with_reducible apply rf_drops | with_reducible apply rf_commitL | with_reducible apply rf_commits | with_reducible apply rf_lost | with_reducible apply rf_sweepL | with_reducible apply rf_sweep1 | with_reducible apply rf_sweeps)); done) | (with_reducible refine rf_at ?_ _; (repeat (first | assumption | with_reducible apply rf_up | with_reducible apply rf_setm | with_reducible apply rf_mI | with_reducible apply rf_begins | with_reducible apply rf_writes | with_reducible apply rf_drops | with_reducible apply rf_commitL | with_reducible apply rf_commits | with_reducible apply rf_lost | with_reducible apply rf_sweepL | with_reducible apply rf_sweep1 | with_reducible apply rf_sweeps)); done) | exact ⟨by omega, by omega⟩) (by first | with_reducible exact rg_mI _ _ _ | (with_reducible refine rg_of ?_ _ _; (repeat (first | assumption | with_reducible apply rf_up | with_reducible apply rf_setm | with_reducible apply rf_mI | with_reducible apply rf_begins | with_reducible apply rf_writes | with_reducible apply rf_drops | with_reducible apply rf_commitL | with_reducible apply rf_commits | with_reducible apply rf_lost | with_reducible apply rf_sweepL | with_reducible apply rf_sweep1 | with_reducible apply rf_sweeps)); done) | (with_reducible refine rg_its ?_ _ _; (repeat (first | assumption | with_reducible apply rf_up | with_reducible apply rf_setm | with_reducible apply rf_mI | with_reducible apply rf_begins | with_reducible apply rf_writes | with_reducible apply rf_drops | with_reducible apply rf_commitL | with_reducible apply rf_commits | with_reducible apply rf_lost | with_reducible apply rf_sweepL | with_reducible apply rf_sweep1 | with_reducible apply rf_sweeps)); done) | (with_reducible refine rg_way ?_ _ _; (repeat (first | assumption | with_reducible apply rf_up | with_reducible apply rf_setm | with_reducible apply rf_mI | with_reducible apply rf_begins | with_reducible apply rf_writes | with_reducible apply rf_drops | with_reducible apply rf_commitL | with_reducible apply rf_commits | with_reducible apply rf_lost | with_reducible apply rf_sweepL | with_reducible apply rf_sweep1 | with_reducible apply rf_sweeps)); done) | with_reducible exact rg_and _ _ | (with_reducible refine rg_num ?_ ⟨by omega, by omega⟩; (repeat (first | assumption | with_reducible apply rf_up | with_reducible apply rf_setm | with_reducible apply rf_mI | with_reducible apply rf_begins | with_reducible apply rf_writes | with_reducible apply rf_drops | with_reducible apply rf_commitL | with_reducible apply rf_commits | with_reducible apply rf_lost | with_reducible apply rf_sweepL | with_reducible apply rf_sweep1 | with_reducible apply rf_sweeps)); done) | (with_reducible refine rf_at ?_ _; (repeat (first | assumption | with_reducible apply rf_up | with_reducible apply rf_setm | with_reducible apply rf_mI | with_reducible apply rf_begins | with_reducible apply rf_writes | with_reducible apply rf_drops | with_reducible apply rf_commitL | with_reducible apply rf_commits | with_reducible apply rf_lost | with_reducible apply rf_sweepL | with_reducible apply rf_sweep1 | with_reducible apply rf_sweeps)); done) | exact ⟨by omega, by omega⟩) (fun h_46 => ?_) (fun h_46 => ?_)
              · skip
                omega
              · skip
                refine r_aload_n hC dX8_sweeps_49 rfl ?_
                refine r_iload_n hC dX8_sweeps_50 rfl ?_
                refine r_aload_n hC dX8_sweeps_51 rfl ?_
                refine r_iload_n hC dX8_sweeps_52 rfl ?_
                refine rM_V0 hC hM dX8_sweeps_53 mi_X8_topicOf se_X8_topicOf ml_X8_61 (rm := rmX8_topicOf) rfl rfl rfl rfl ⟨le_b rfl, le_b rfl⟩ (k_topicOf hfC hM (by (repeat (first | assumption | with_reducible apply rf_up | with_reducible apply rf_setm | with_reducible apply rf_mI | with_reducible apply rf_begins | with_reducible apply rf_writes | with_reducible apply rf_drops | with_reducible apply rf_commitL | with_reducible apply rf_commits | with_reducible apply rf_lost | with_reducible apply rf_sweepL | with_reducible apply rf_sweep1 | with_reducible apply rf_sweeps))) ⟨by omega, by omega⟩) ?_ rfl
                refine rM_V0 hC hM dX8_sweeps_56 mi_X8_wants se_X8_wants ml_X8_64 (rm := rmX8_wants) rfl rfl rfl rfl ⟨le_b rfl, le_b rfl⟩ (k_wants hfC hM (by (repeat (first | assumption | with_reducible apply rf_up | with_reducible apply rf_setm | with_reducible apply rf_mI | with_reducible apply rf_begins | with_reducible apply rf_writes | with_reducible apply rf_drops | with_reducible apply rf_commitL | with_reducible apply rf_commits | with_reducible apply rf_lost | with_reducible apply rf_sweepL | with_reducible apply rf_sweep1 | with_reducible apply rf_sweeps))) ⟨by omega, by omega⟩) ?_ rfl
                refine r_beq (t := 77) hC dX8_sweeps_59 (by rfl) (fun h_59 => ?_) (fun h_59 => ?_)
                · skip
                  refine r_iconst hC dX8_sweeps_77 ?_
                  refine r_istore (lv' := [_, _, _, _, _]) hC dX8_sweeps_78 (lt_b rfl) rfl (lt_b rfl) rfl ?_
                  refine r_aload_n hC dX8_sweeps_80 rfl ?_
                  refine r_iload_n hC dX8_sweeps_81 rfl ?_
                  refine r_bipush hC dX8_sweeps_82 (by rfl) ?_
                  refine r_aload_n hC dX8_sweeps_84 rfl ?_
                  refine r_iload_n hC dX8_sweeps_85 rfl ?_
                  refine r_bipush hC dX8_sweeps_86 (by rfl) ?_
                  refine rM_V0 hC hM dX8_sweeps_88 mi_X8_of se_X8_of ml_X8_58 (rm := rmX8_of) rfl rfl rfl rfl ⟨le_b rfl, le_b rfl⟩ (k_of hfC hM (by (repeat (first | assumption | with_reducible apply rf_up | with_reducible apply rf_setm | with_reducible apply rf_mI | with_reducible apply rf_begins | with_reducible apply rf_writes | with_reducible apply rf_drops | with_reducible apply rf_commitL | with_reducible apply rf_commits | with_reducible apply rf_lost | with_reducible apply rf_sweepL | with_reducible apply rf_sweep1 | with_reducible apply rf_sweeps))) ⟨by omega, by omega⟩) ?_ rfl
                  refine r_iload hC dX8_sweeps_91 rfl ?_
                  refine r_if_eq (t := 100) hC dX8_sweeps_93 (by rfl) (by first | with_reducible exact rg_mI _ _ _ | (with_reducible refine rg_of ?_ _ _; (repeat (first | assumption | with_reducible apply rf_up | with_reducible apply rf_setm | with_reducible apply rf_mI | with_reducible apply rf_begins | with_reducible apply rf_writes | with_reducible apply rf_drops | with_reducible apply rf_commitL | with_reducible apply rf_commits | with_reducible apply rf_lost | with_reducible apply rf_sweepL | with_reducible apply rf_sweep1 | with_reducible apply rf_sweeps)); done) | (with_reducible refine rg_its ?_ _ _; (repeat (first | assumption | with_reducible apply rf_up | with_reducible apply rf_setm | with_reducible apply rf_mI | with_reducible apply rf_begins | with_reducible apply rf_writes | with_reducible apply rf_drops | with_reducible apply rf_commitL | with_reducible apply rf_commits | with_reducible apply rf_lost | with_reducible apply rf_sweepL | with_reducible apply rf_sweep1 | with_reducible apply rf_sweeps)); done) | (with_reducible refine rg_way ?_ _ _; (repeat (first | assumption | with_reducible apply rf_up | with_reducible apply rf_setm | with_reducible apply rf_mI | with_reducible apply rf_begins | with_reducible apply rf_writes | with_reducible apply rf_drops | with_reducible apply rf_commitL | with_reducible apply rf_commits | with_reducible apply rf_lost | with_reducible apply rf_sweepL | with_reducible apply rf_sweep1 | with_reducible apply rf_sweeps)); done) | with_reducible exact rg_and _ _ | (with_reducible refine rg_num ?_ ⟨by omega, by omega⟩; (repeat (first | assumption | with_reducible apply rf_up | with_reducible apply rf_setm | with_reducible apply rf_mI | with_reducible apply rf_begins | with_reducible apply rf_writes | with_reducible apply rf_drops | with_reducible apply rf_commitL | with_reducible apply rf_commits | with_reducible apply rf_lost | with_reducible apply rf_sweepL | with_reducible apply rf_sweep1 | with_reducible apply rf_sweeps)); done) | (with_reducible refine rf_at ?_ _; (repeat (first | assumption | with_reducible apply rf_up | with_reducible apply rf_setm | with_reducible apply rf_mI | with_reducible apply rf_begins | with_reducible apply rf_writes | with_reducible apply rf_drops | with_reducible apply rf_commitL | with_reducible apply rf_commits | with_reducible apply rf_lost | with_reducible apply rf_sweepL | with_reducible apply rf_sweep1 | with_reducible apply rf_sweeps)); done) | exact ⟨by omega, by omega⟩) (fun h_93 => ?_) (fun h_93 => (by omega))
                  refine r_iconst hC dX8_sweeps_100 ?_
                  refine r_iadd hC dX8_sweeps_101 ?_
                  refine rM_V0v hC hM dX8_sweeps_102 mi_X8_lay se_X8_lay ml_X8_31 (rm := rmX8_lay) rfl rfl rfl rfl ⟨le_b rfl, le_b rfl⟩ (k_lay hfC hM (by (repeat (first | assumption | with_reducible apply rf_up | with_reducible apply rf_setm | with_reducible apply rf_mI | with_reducible apply rf_begins | with_reducible apply rf_writes | with_reducible apply rf_drops | with_reducible apply rf_commitL | with_reducible apply rf_commits | with_reducible apply rf_lost | with_reducible apply rf_sweepL | with_reducible apply rf_sweep1 | with_reducible apply rf_sweeps))) ⟨by omega, by omega⟩) ?_ rfl
                  refine r_iinc (lv' := [_, _, _, _, _]) hC dX8_sweeps_105 rfl (lt_b rfl) rfl (lt_b rfl) rfl ?_
                  refine r_goto (t := 44) hC dX8_sweeps_108 (by rfl) ?_
                  refine vw_mem ?_ (kk _)
                  unfold m_lost
                  split
                  · first | rfl | (exfalso; simp_all; done)
                  · first | rfl | (exfalso; simp_all; done)
                · skip
                  refine r_aload_n hC dX8_sweeps_62 rfl ?_
                  refine r_iload_n hC dX8_sweeps_63 rfl ?_
                  refine r_iconst hC dX8_sweeps_64 ?_
                  refine r_iload_n hC dX8_sweeps_65 rfl ?_
                  refine r_iadd hC dX8_sweeps_66 ?_
                  refine rM_V0 hC hM dX8_sweeps_67 mi_X8_hasMark se_X8_hasMark ml_X8_51 (rm := rmX8_hasMark) rfl rfl rfl rfl ⟨le_b rfl, le_b rfl⟩ (k_hasMark hfC hM (by (repeat (first | assumption | with_reducible apply rf_up | with_reducible apply rf_setm | with_reducible apply rf_mI | with_reducible apply rf_begins | with_reducible apply rf_writes | with_reducible apply rf_drops | with_reducible apply rf_commitL | with_reducible apply rf_commits | with_reducible apply rf_lost | with_reducible apply rf_sweepL | with_reducible apply rf_sweep1 | with_reducible apply rf_sweeps))) ⟨by omega, by omega⟩) ?_ rfl
                  refine r_bne (t := 77) hC dX8_sweeps_70 (by rfl) (fun h_70 => ?_) (fun h_70 => ?_)
                  · skip
                    refine r_iconst hC dX8_sweeps_77 ?_
                    refine r_istore (lv' := [_, _, _, _, _]) hC dX8_sweeps_78 (lt_b rfl) rfl (lt_b rfl) rfl ?_
                    refine r_aload_n hC dX8_sweeps_80 rfl ?_
                    refine r_iload_n hC dX8_sweeps_81 rfl ?_
                    refine r_bipush hC dX8_sweeps_82 (by rfl) ?_
                    refine r_aload_n hC dX8_sweeps_84 rfl ?_
                    refine r_iload_n hC dX8_sweeps_85 rfl ?_
                    refine r_bipush hC dX8_sweeps_86 (by rfl) ?_
                    refine rM_V0 hC hM dX8_sweeps_88 mi_X8_of se_X8_of ml_X8_58 (rm := rmX8_of) rfl rfl rfl rfl ⟨le_b rfl, le_b rfl⟩ (k_of hfC hM (by (repeat (first | assumption | with_reducible apply rf_up | with_reducible apply rf_setm | with_reducible apply rf_mI | with_reducible apply rf_begins | with_reducible apply rf_writes | with_reducible apply rf_drops | with_reducible apply rf_commitL | with_reducible apply rf_commits | with_reducible apply rf_lost | with_reducible apply rf_sweepL | with_reducible apply rf_sweep1 | with_reducible apply rf_sweeps))) ⟨by omega, by omega⟩) ?_ rfl
                    refine r_iload hC dX8_sweeps_91 rfl ?_
                    refine r_if_eq (t := 100) hC dX8_sweeps_93 (by rfl) (by first | with_reducible exact rg_mI _ _ _ | (with_reducible refine rg_of ?_ _ _; (repeat (first | assumption | with_reducible apply rf_up | with_reducible apply rf_setm | with_reducible apply rf_mI | with_reducible apply rf_begins | with_reducible apply rf_writes | with_reducible apply rf_drops | with_reducible apply rf_commitL | with_reducible apply rf_commits | with_reducible apply rf_lost | with_reducible apply rf_sweepL | with_reducible apply rf_sweep1 | with_reducible apply rf_sweeps)); done) | (with_reducible refine rg_its ?_ _ _; (repeat (first | assumption | with_reducible apply rf_up | with_reducible apply rf_setm | with_reducible apply rf_mI | with_reducible apply rf_begins | with_reducible apply rf_writes | with_reducible apply rf_drops | with_reducible apply rf_commitL | with_reducible apply rf_commits | with_reducible apply rf_lost | with_reducible apply rf_sweepL | with_reducible apply rf_sweep1 | with_reducible apply rf_sweeps)); done) | (with_reducible refine rg_way ?_ _ _; (repeat (first | assumption | with_reducible apply rf_up | with_reducible apply rf_setm | with_reducible apply rf_mI | with_reducible apply rf_begins | with_reducible apply rf_writes | with_reducible apply rf_drops | with_reducible apply rf_commitL | with_reducible apply rf_commits | with_reducible apply rf_lost | with_reducible apply rf_sweepL | with_reducible apply rf_sweep1 | with_reducible apply rf_sweeps)); done) | with_reducible exact rg_and _ _ | (with_reducible refine rg_num ?_ ⟨by omega, by omega⟩; (repeat (first | assumption | with_reducible apply rf_up | with_reducible apply rf_setm | with_reducible apply rf_mI | with_reducible apply rf_begins | with_reducible apply rf_writes | with_reducible apply rf_drops | with_reducible apply rf_commitL | with_reducible apply rf_commits | with_reducible apply rf_lost | with_reducible apply rf_sweepL | with_reducible apply rf_sweep1 | with_reducible apply rf_sweeps)); done) | (with_reducible refine rf_at ?_ _; (repeat (first | assumption | with_reducible apply rf_up | with_reducible apply rf_setm | with_reducible apply rf_mI | with_reducible apply rf_begins | with_reducible apply rf_writes | with_reducible apply rf_drops | with_reducible apply rf_commitL | with_reducible apply rf_commits | with_reducible apply rf_lost | with_reducible apply rf_sweepL | with_reducible apply rf_sweep1 | with_reducible apply rf_sweeps)); done) | exact ⟨by omega, by omega⟩) (fun h_93 => ?_) (fun h_93 => (by omega))
                    refine r_iconst hC dX8_sweeps_100 ?_
                    refine r_iadd hC dX8_sweeps_101 ?_
                    refine rM_V0v hC hM dX8_sweeps_102 mi_X8_lay se_X8_lay ml_X8_31 (rm := rmX8_lay) rfl rfl rfl rfl ⟨le_b rfl, le_b rfl⟩ (k_lay hfC hM (by (repeat (first | assumption | with_reducible apply rf_up | with_reducible apply rf_setm | with_reducible apply rf_mI | with_reducible apply rf_begins | with_reducible apply rf_writes | with_reducible apply rf_drops | with_reducible apply rf_commitL | with_reducible apply rf_commits | with_reducible apply rf_lost | with_reducible apply rf_sweepL | with_reducible apply rf_sweep1 | with_reducible apply rf_sweeps))) ⟨by omega, by omega⟩) ?_ rfl
                    refine r_iinc (lv' := [_, _, _, _, _]) hC dX8_sweeps_105 rfl (lt_b rfl) rfl (lt_b rfl) rfl ?_
                    refine r_goto (t := 44) hC dX8_sweeps_108 (by rfl) ?_
                    refine vw_mem ?_ (kk _)
                    unfold m_lost
                    split
                    · first | rfl | (exfalso; simp_all; done)
                    · first | rfl | (exfalso; simp_all; done)
                  · skip
                    refine r_iconst hC dX8_sweeps_73 ?_
                    refine r_goto (t := 78) hC dX8_sweeps_74 (by rfl) ?_
                    refine r_istore (lv' := [_, _, _, _, _]) hC dX8_sweeps_78 (lt_b rfl) rfl (lt_b rfl) rfl ?_
                    refine r_aload_n hC dX8_sweeps_80 rfl ?_
                    refine r_iload_n hC dX8_sweeps_81 rfl ?_
                    refine r_bipush hC dX8_sweeps_82 (by rfl) ?_
                    refine r_aload_n hC dX8_sweeps_84 rfl ?_
                    refine r_iload_n hC dX8_sweeps_85 rfl ?_
                    refine r_bipush hC dX8_sweeps_86 (by rfl) ?_
                    refine rM_V0 hC hM dX8_sweeps_88 mi_X8_of se_X8_of ml_X8_58 (rm := rmX8_of) rfl rfl rfl rfl ⟨le_b rfl, le_b rfl⟩ (k_of hfC hM (by (repeat (first | assumption | with_reducible apply rf_up | with_reducible apply rf_setm | with_reducible apply rf_mI | with_reducible apply rf_begins | with_reducible apply rf_writes | with_reducible apply rf_drops | with_reducible apply rf_commitL | with_reducible apply rf_commits | with_reducible apply rf_lost | with_reducible apply rf_sweepL | with_reducible apply rf_sweep1 | with_reducible apply rf_sweeps))) ⟨by omega, by omega⟩) ?_ rfl
                    refine r_iload hC dX8_sweeps_91 rfl ?_
                    refine r_if_eq (t := 100) hC dX8_sweeps_93 (by rfl) (by first | with_reducible exact rg_mI _ _ _ | (with_reducible refine rg_of ?_ _ _; (repeat (first | assumption | with_reducible apply rf_up | with_reducible apply rf_setm | with_reducible apply rf_mI | with_reducible apply rf_begins | with_reducible apply rf_writes | with_reducible apply rf_drops | with_reducible apply rf_commitL | with_reducible apply rf_commits | with_reducible apply rf_lost | with_reducible apply rf_sweepL | with_reducible apply rf_sweep1 | with_reducible apply rf_sweeps)); done) | (with_reducible refine rg_its ?_ _ _; (repeat (first | assumption | with_reducible apply rf_up | with_reducible apply rf_setm | with_reducible apply rf_mI | with_reducible apply rf_begins | with_reducible apply rf_writes | with_reducible apply rf_drops | with_reducible apply rf_commitL | with_reducible apply rf_commits | with_reducible apply rf_lost | with_reducible apply rf_sweepL | with_reducible apply rf_sweep1 | with_reducible apply rf_sweeps)); done) | (with_reducible refine rg_way ?_ _ _; (repeat (first | assumption | with_reducible apply rf_up | with_reducible apply rf_setm | with_reducible apply rf_mI | with_reducible apply rf_begins | with_reducible apply rf_writes | with_reducible apply rf_drops | with_reducible apply rf_commitL | with_reducible apply rf_commits | with_reducible apply rf_lost | with_reducible apply rf_sweepL | with_reducible apply rf_sweep1 | with_reducible apply rf_sweeps)); done) | with_reducible exact rg_and _ _ | (with_reducible refine rg_num ?_ ⟨by omega, by omega⟩; (repeat (first | assumption | with_reducible apply rf_up | with_reducible apply rf_setm | with_reducible apply rf_mI | with_reducible apply rf_begins | with_reducible apply rf_writes | with_reducible apply rf_drops | with_reducible apply rf_commitL | with_reducible apply rf_commits | with_reducible apply rf_lost | with_reducible apply rf_sweepL | with_reducible apply rf_sweep1 | with_reducible apply rf_sweeps)); done) | (with_reducible refine rf_at ?_ _; (repeat (first | assumption | with_reducible apply rf_up | with_reducible apply rf_setm | with_reducible apply rf_mI | with_reducible apply rf_begins | with_reducible apply rf_writes | with_reducible apply rf_drops | with_reducible apply rf_commitL | with_reducible apply rf_commits | with_reducible apply rf_lost | with_reducible apply rf_sweepL | with_reducible apply rf_sweep1 | with_reducible apply rf_sweeps)); done) | exact ⟨by omega, by omega⟩) (fun h_93 => (by omega)) (fun h_93 => ?_)
                    refine r_iconst hC dX8_sweeps_96 ?_
                    refine r_goto (t := 101) hC dX8_sweeps_97 (by rfl) ?_
                    refine r_iadd hC dX8_sweeps_101 ?_
                    refine rM_V0v hC hM dX8_sweeps_102 mi_X8_lay se_X8_lay ml_X8_31 (rm := rmX8_lay) rfl rfl rfl rfl ⟨le_b rfl, le_b rfl⟩ (k_lay hfC hM (by (repeat (first | assumption | with_reducible apply rf_up | with_reducible apply rf_setm | with_reducible apply rf_mI | with_reducible apply rf_begins | with_reducible apply rf_writes | with_reducible apply rf_drops | with_reducible apply rf_commitL | with_reducible apply rf_commits | with_reducible apply rf_lost | with_reducible apply rf_sweepL | with_reducible apply rf_sweep1 | with_reducible apply rf_sweeps))) ⟨by omega, by omega⟩) ?_ rfl
                    refine r_iinc (lv' := [_, _, _, _, _]) hC dX8_sweeps_105 rfl (lt_b rfl) rfl (lt_b rfl) rfl ?_
                    refine r_goto (t := 44) hC dX8_sweeps_108 (by rfl) ?_
                    refine vw_mem ?_ (kk _)
                    unfold m_lost
                    split
                    · first | rfl | (exfalso; simp_all; done)
                    · first | rfl | (exfalso; simp_all; done)
            refine inn 0 _ _ (by repeat (first | assumption | apply rf_setm | apply rf_sweepL)) (by omega) (fun _ => ?_)
            refine inn 1 _ _ (by repeat (first | assumption | apply rf_lost | apply rf_setm | apply rf_sweepL)) (by omega) (fun _ => ?_)
            refine inn 2 _ _ (by repeat (first | assumption | apply rf_lost | apply rf_setm | apply rf_sweepL)) (by omega) (fun _ => ?_)
            refine r_iload_n hC dX8_sweeps_44 rfl ?_
            refine r_iconst hC dX8_sweeps_45 ?_
            refine r_icmp_ge (t := 111) hC dX8_sweeps_46 (by rfl) (by first | with_reducible exact rg_mI _ _ _ | (with_reducible refine rg_of ?_ _ _; (repeat (first | assumption | with_reducible apply rf_up | with_reducible apply rf_setm | with_reducible apply rf_mI | with_reducible apply rf_begins | with_reducible apply rf_writes | with_reducible apply rf_drops | with_reducible apply rf_commitL | with_reducible apply rf_commits | with_reducible apply rf_lost | with_reducible apply rf_sweepL | with_reducible apply rf_sweep1 | with_reducible apply rf_sweeps)); done) | (with_reducible refine rg_its ?_ _ _; (repeat (first | assumption | with_reducible apply rf_up | with_reducible apply rf_setm | with_reducible apply rf_mI | with_reducible apply rf_begins | with_reducible apply rf_writes | with_reducible apply rf_drops | with_reducible apply rf_commitL | with_reducible apply rf_commits | with_reducible apply rf_lost | with_reducible apply rf_sweepL | with_reducible apply rf_sweep1 | with_reducible apply rf_sweeps)); done) | (with_reducible refine rg_way ?_ _ _; (repeat (first | assumption | with_reducible apply rf_up | with_reducible apply rf_setm | with_reducible apply rf_mI | with_reducible apply rf_begins | with_reducible apply rf_writes | with_reducible apply rf_drops | with_reducible apply rf_commitL | with_reducible apply rf_commits | with_reducible apply rf_lost | with_reducible apply rf_sweepL | with_reducible apply rf_sweep1 | with_reducible apply rf_sweeps)); done) | with_reducible exact rg_and _ _ | (with_reducible refine rg_num ?_ ⟨by omega, by omega⟩; (repeat (first | assumption | with_reducible apply rf_up | with_reducible apply rf_setm | with_reducible apply rf_mI | with_reducible apply rf_begins | with_reducible apply rf_writes | with_reducible apply rf_drops | with_reducible apply rf_commitL | with_reducible apply rf_commits | with_reducible apply rf_lost | with_reducible apply rf_sweepL | with_reducible apply rf_sweep1 | with_reducible apply rf_sweeps)); done) | (with_reducible refine rf_at ?_ _; (repeat (first | assumption | with_reducible apply rf_up | with_reducible apply rf_setm | with_reducible apply rf_mI | with_reducible apply rf_begins | with_reducible apply rf_writes | with_reducible apply rf_drops | with_reducible apply rf_commitL | with_reducible apply rf_commits | with_reducible apply rf_lost | with_reducible apply rf_sweepL | with_reducible apply rf_sweep1 | with_reducible apply rf_sweeps)); done) | exact ⟨by omega, by omega⟩) (by first | with_reducible exact rg_mI _ _ _ | (with_reducible refine rg_of ?_ _ _; (repeat (first | assumption | with_reducible apply rf_up | with_reducible apply rf_setm | with_reducible apply rf_mI | with_reducible apply rf_begins | with_reducible apply rf_writes | with_reducible apply rf_drops | with_reducible apply rf_commitL | with_reducible apply rf_commits | with_reducible apply rf_lost | with_reducible apply rf_sweepL | with_reducible apply rf_sweep1 | with_reducible apply rf_sweeps)); done) | (with_reducible refine rg_its ?_ _ _; (repeat (first | assumption | with_reducible apply rf_up | with_reducible apply rf_setm | with_reducible apply rf_mI | with_reducible apply rf_begins | with_reducible apply rf_writes | with_reducible apply rf_drops | with_reducible apply rf_commitL | with_reducible apply rf_commits | with_reducible apply rf_lost | with_reducible apply rf_sweepL | with_reducible apply rf_sweep1 | with_reducible apply rf_sweeps)); done) | (with_reducible refine rg_way ?_ _ _; (repeat (first | assumption | with_reducible apply rf_up | with_reducible apply rf_setm | with_reducible apply rf_mI | with_reducible apply rf_begins | with_reducible apply rf_writes | with_reducible apply rf_drops | with_reducible apply rf_commitL | with_reducible apply rf_commits | with_reducible apply rf_lost | with_reducible apply rf_sweepL | with_reducible apply rf_sweep1 | with_reducible apply rf_sweeps)); done) | with_reducible exact rg_and _ _ | (with_reducible refine rg_num ?_ ⟨by omega, by omega⟩; (repeat (first | assumption | with_reducible apply rf_up | with_reducible apply rf_setm | with_reducible apply rf_mI | with_reducible apply rf_begins | with_reducible apply rf_writes | with_reducible apply rf_drops | with_reducible apply rf_commitL | with_reducible apply rf_commits | with_reducible apply rf_lost | with_reducible apply rf_sweepL | with_reducible apply rf_sweep1 | with_reducible apply rf_sweeps)); done) | (with_reducible refine rf_at ?_ _; (repeat (first | assumption | with_reducible apply rf_up | with_reducible apply rf_setm | with_reducible apply rf_mI | with_reducible apply rf_begins | with_reducible apply rf_writes | with_reducible apply rf_drops | with_reducible apply rf_commitL | with_reducible apply rf_commits | with_reducible apply rf_lost | with_reducible apply rf_sweepL | with_reducible apply rf_sweep1 | with_reducible apply rf_sweeps)); done) | exact ⟨by omega, by omega⟩) (fun h_46 => ?_) (fun h_46 => (by omega))
            refine r_iinc (lv' := [_, _, _, _, _]) hC dX8_sweeps_111 rfl (lt_b rfl) rfl (lt_b rfl) rfl ?_
            refine r_goto (t := 4) hC dX8_sweeps_114 (by rfl) ?_
            refine vw_mem ?_ (ih _ (by omega) (k + 1) _ _ _ rfl (by omega) (by simp only [m_sweepN]; rw [if_pos ⟨hm0, h_30⟩, hs]))
            simp only [m_sweepL]; rw [if_pos ⟨hm0, h_30⟩]; rfl
  show VW C 0 [some (xA m), none, none, none, none] [] (sA u (m + 1) f) 0 0
  refine r_iconst hC dX8_sweeps_0 ?_
  refine r_istore_n (lv' := [_, _, _, _, _]) hC dX8_sweeps_1 (lt_b rfl) rfl (lt_b rfl) rfl ?_
  refine r_iconst hC dX8_sweeps_2 ?_
  refine r_istore_n (lv' := [_, _, _, _, _]) hC dX8_sweeps_3 (lt_b rfl) rfl (lt_b rfl) rfl ?_
  exact lp _ 0 _ _ _ rfl (by omega) rfl

