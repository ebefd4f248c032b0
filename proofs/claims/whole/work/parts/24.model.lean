def m_sends0 (r : RW) : RW := up r 4 (r 4 + 1)
def m_sendsA (g : RW) (kd c mn gr : Int) : RW :=
  let a := 811 + 7 * g 9
  let g2 := up (up g (a + 0) kd) (a + 1) c
  up (up (up (up (up g2 (a + 2) (g2 0 + g2 11)) (a + 3) mn) (a + 4) gr) (a + 5) 0) (a + 5 + 1) 0
def m_pack (g b : RW) (a : Int) : Nat → RW
  | 0 => g
  | k + 1 => up (m_pack g b a k) (a + 5 + (k : Int).tdiv 4) (b_or ((m_pack g b a k) (a + 5 + (k : Int).tdiv 4)) (b_shl (b k) (8 * (k : Int).tmod 4)))
def m_sends (r b : RW) (kd c mn gr : Int) : RW :=
  if (m_sends0 r) 14 ≠ 0 ∧ ((m_sends0 r) 4).tmod ((m_sends0 r) 14) = 0 then up (m_sends0 r) 5 ((m_sends0 r) 5 + 1)
  else up (m_pack (m_sendsA (m_sends0 r) kd c mn gr) b (811 + 7 * (m_sends0 r) 9) mn.toNat) 9 ((m_pack (m_sendsA (m_sends0 r) kd c mn gr) b (811 + 7 * (m_sends0 r) 9) mn.toNat) 9 + 1)
theorem rf_sends0 {r : RW} (h : RF r) : RF (m_sends0 r) := rf_up h _ _
theorem rf_sendsA {r : RW} (h : RF r) (kd c mn gr : Int) : RF (m_sendsA r kd c mn gr) := rf_up (rf_up (rf_up (rf_up (rf_up (rf_up (rf_up h _ _) _ _) _ _) _ _) _ _) _ _) _ _
theorem rf_pack {g : RW} (h : RF g) (b : RW) (a : Int) (n : Nat) : RF (m_pack g b a n) := by
  induction n with
  | zero => exact h
  | succ n ih => exact rf_up ih _ _
theorem rf_sends {r : RW} (h : RF r) (b : RW) (kd c mn gr : Int) : RF (m_sends r b kd c mn gr) := by
  unfold m_sends; split
  · exact rf_up (rf_sends0 h) _ _
  · exact rf_up (rf_pack (rf_sendsA (rf_sends0 h) _ _ _ _) _ _ _) _ _
theorem m_sends0_n (r : RW) {j : Int} (h : j ≠ 4) : (m_sends0 r) j = r j := up_n r _ h
theorem m_sendsA_lo {g : RW} (h9 : 0 ≤ g 9) (kd c mn gr : Int) {j : Int} (hj : j < 811) : (m_sendsA g kd c mn gr) j = g j := by
  simp only [m_sendsA]
  rw [up_n _ _ (by omega), up_n _ _ (by omega), up_n _ _ (by omega), up_n _ _ (by omega), up_n _ _ (by omega), up_n _ _ (by omega), up_n _ _ (by omega)]
theorem tdiv4 (k : Nat) : (k : Int).tdiv 4 = ((k / 4 : Nat) : Int) := by rw [Int.tdiv_eq_ediv_of_nonneg (by omega)]; rfl
theorem m_pack_lo {g : RW} (b : RW) {a : Int} (ha : 811 ≤ a) (n : Nat) {j : Int} (hj : j < 811) : (m_pack g b a n) j = g j := by
  induction n with
  | zero => rfl
  | succ n ih =>
    simp only [m_pack]
    rw [up_n _ _ (by rw [tdiv4]; omega), ih]
theorem rg_tmod {i j : Int} (hi : rg i) (hj : rg j) (h0 : j ≠ 0) : rg (i.tmod j) := by
  rcases Int.lt_or_gt_of_ne h0 with q | q
  · have := tmod_bounds (a := i) (M := -j) (by omega)
    rw [Int.tmod_neg] at this
    constructor <;> omega
  · have := tmod_bounds (a := i) (M := j) (by omega)
    constructor <;> omega
abbrev rmX8_sends : Room := { frames := 0, cells := 0, slots := 0, locals := 0 }
set_option maxRecDepth 100000 in
theorem k_sends {l : Launch} {D : DD} (hfl : l.stackTraces = false) {u : Mem} {m : Nat} (hM : MO u m) {f : RW} (hf : RF f) (h9 : 0 ≤ f 9 ∧ f 9 ≤ 100) {kd c mn gr : Int} (hmn : 0 ≤ mn ∧ mn ≤ 8) : CT l D yX8_sends cX8_sends 7 none rmX8_sends [xA m, xI kd, xI c, xI mn, xI gr] (sA u (m + 1) f) (RV (sA u (m + 1) (m_sends f (mI u (m + 7)) kd c mn gr))) := by
  refine CT.of hfl (by decide) (le_b rfl) ?_
  intro C hC hR hL hDD hN
  have hfC : (cxL C).stackTraces = false := by rw [hL]; exact hfl
  show VW C 0 [some (xA m), some (xI kd), some (xI c), some (xI mn), some (xI gr), none, none] [] (sA u (m + 1) f) 0 0
  refine r_aload_n hC dX8_sends_0 rfl ?_
  refine r_getR (j := 0) hC dX8_sends_1 fl_X8_7 rfl rfl hM.o hM.p_row ?_
  refine r_iconst hC dX8_sends_4 ?_
  refine r_dup2 hC dX8_sends_5 rfl rfl ?_
  refine rM_ald hC hM (by (repeat (first | assumption | with_reducible apply rf_up | with_reducible apply rf_setm | with_reducible apply rf_mI | with_reducible apply rf_begins | with_reducible apply rf_writes | with_reducible apply rf_drops | with_reducible apply rf_commitL | with_reducible apply rf_commits | with_reducible apply rf_lost | with_reducible apply rf_sweepL | with_reducible apply rf_sweep1 | with_reducible apply rf_sweeps | with_reducible apply rf_sends0 | with_reducible apply rf_sendsA | with_reducible apply rf_pack | with_reducible apply rf_sends))) dX8_sends_6 ⟨by omega, by omega⟩ ?_
  refine r_iconst hC dX8_sends_7 ?_
  refine r_iadd hC dX8_sends_8 ?_
  refine rM_ast hC hM dX8_sends_9 ⟨by omega, by omega⟩ ?_
  obtain ⟨g, hg⟩ : ∃ z, z = m_sends0 f := ⟨_, rfl⟩
  rw [show up f 4 (f 4 + 1) = g from hg.symm]
  have g9 : g 9 = f 9 := by rw [hg]; exact m_sends0_n f (by omega)
  have rfg : RF g := by rw [hg]; exact rf_sends0 hf
  refine r_aload_n hC dX8_sends_10 rfl ?_
  refine r_getR (j := 0) hC dX8_sends_11 fl_X8_7 rfl rfl hM.o hM.p_row ?_
  refine r_bipush hC dX8_sends_14 (by rfl) ?_
  refine rM_ald hC hM (by (repeat (first | assumption | with_reducible apply rf_up | with_reducible apply rf_setm | with_reducible apply rf_mI | with_reducible apply rf_begins | with_reducible apply rf_writes | with_reducible apply rf_drops | with_reducible apply rf_commitL | with_reducible apply rf_commits | with_reducible apply rf_lost | with_reducible apply rf_sweepL | with_reducible apply rf_sweep1 | with_reducible apply rf_sweeps | with_reducible apply rf_sends0 | with_reducible apply rf_sendsA | with_reducible apply rf_pack | with_reducible apply rf_sends))) dX8_sends_16 ⟨by omega, by omega⟩ ?_
  refine r_if_eq (t := 48) hC dX8_sends_17 (by rfl) (by first | with_reducible exact rg_mI _ _ _ | (with_reducible refine rg_of ?_ _ _; (repeat (first | assumption | with_reducible apply rf_up | with_reducible apply rf_setm | with_reducible apply rf_mI | with_reducible apply rf_begins | with_reducible apply rf_writes | with_reducible apply rf_drops | with_reducible apply rf_commitL | with_reducible apply rf_commits | with_reducible apply rf_lost | with_reducible apply rf_sweepL | with_reducible apply rf_sweep1 | with_reducible apply rf_sweeps | with_reducible apply rf_sends0 | with_reducible apply rf_sendsA | with_reducible apply rf_pack | with_reducible apply rf_sends)); done) | (with_reducible refine rg_its ?_ _ _; (repeat (first | assumption | with_reducible apply rf_up | with_reducible apply rf_setm | with_reducible apply rf_mI | with_reducible apply rf_begins | with_reducible apply rf_writes | with_reducible apply rf_drops | with_reducible apply rf_commitL | with_reducible apply rf_commits | with_reducible apply rf_lost | with_reducible apply rf_sweepL | with_reducible apply rf_sweep1 | with_reducible apply rf_sweeps | with_reducible apply rf_sends0 | with_reducible apply rf_sendsA | with_reducible apply rf_pack | with_reducible apply rf_sends)); done) | (with_reducible refine rg_way ?_ _ _; (repeat (first | assumption | with_reducible apply rf_up | with_reducible apply rf_setm | with_reducible apply rf_mI | with_reducible apply rf_begins | with_reducible apply rf_writes | with_reducible apply rf_drops | with_reducible apply rf_commitL | with_reducible apply rf_commits | with_reducible apply rf_lost | with_reducible apply rf_sweepL | with_reducible apply rf_sweep1 | with_reducible apply rf_sweeps | with_reducible apply rf_sends0 | with_reducible apply rf_sendsA | with_reducible apply rf_pack | with_reducible apply rf_sends)); done) | with_reducible exact rg_and _ _ | (with_reducible refine rg_num ?_ ⟨by omega, by omega⟩; (repeat (first | assumption | with_reducible apply rf_up | with_reducible apply rf_setm | with_reducible apply rf_mI | with_reducible apply rf_begins | with_reducible apply rf_writes | with_reducible apply rf_drops | with_reducible apply rf_commitL | with_reducible apply rf_commits | with_reducible apply rf_lost | with_reducible apply rf_sweepL | with_reducible apply rf_sweep1 | with_reducible apply rf_sweeps | with_reducible apply rf_sends0 | with_reducible apply rf_sendsA | with_reducible apply rf_pack | with_reducible apply rf_sends)); done) | (with_reducible refine rf_at ?_ _; (repeat (first | assumption | with_reducible apply rf_up | with_reducible apply rf_setm | with_reducible apply rf_mI | with_reducible apply rf_begins | with_reducible apply rf_writes | with_reducible apply rf_drops | with_reducible apply rf_commitL | with_reducible apply rf_commits | with_reducible apply rf_lost | with_reducible apply rf_sweepL | with_reducible apply rf_sweep1 | with_reducible apply rf_sweeps | with_reducible apply rf_sends0 | with_reducible apply rf_sendsA | with_reducible apply rf_pack | with_reducible apply rf_sends)); done) | exact ⟨by omega, by omega⟩) (fun h_17 => ?_) (fun h_17 => ?_)
  · skip
    have hno : ¬ (g 14 ≠ 0 ∧ (g 4).tmod (g 14) = 0) := fun q => q.1 h_17
    refine r_sipush hC dX8_sends_48 (by rfl) ?_
    refine r_bipush hC dX8_sends_51 (by rfl) ?_
    refine r_aload_n hC dX8_sends_53 rfl ?_
    refine r_getR (j := 0) hC dX8_sends_54 fl_X8_7 rfl rfl hM.o hM.p_row ?_
    refine r_bipush hC dX8_sends_57 (by rfl) ?_
    refine rM_ald hC hM (by (repeat (first | assumption | with_reducible apply rf_up | with_reducible apply rf_setm | with_reducible apply rf_mI | with_reducible apply rf_begins | with_reducible apply rf_writes | with_reducible apply rf_drops | with_reducible apply rf_commitL | with_reducible apply rf_commits | with_reducible apply rf_lost | with_reducible apply rf_sweepL | with_reducible apply rf_sweep1 | with_reducible apply rf_sweeps | with_reducible apply rf_sends0 | with_reducible apply rf_sendsA | with_reducible apply rf_pack | with_reducible apply rf_sends))) dX8_sends_59 ⟨by omega, by omega⟩ ?_
    refine r_imul hC dX8_sends_60 ?_
    refine r_iadd hC dX8_sends_61 ?_
    refine r_istore (lv' := [_, _, _, _, _, _, _]) hC dX8_sends_62 (lt_b rfl) rfl (lt_b rfl) rfl ?_
    refine r_aload_n hC dX8_sends_64 rfl ?_
    refine r_getR (j := 0) hC dX8_sends_65 fl_X8_7 rfl rfl hM.o hM.p_row ?_
    refine r_iload hC dX8_sends_68 rfl ?_
    refine r_iconst hC dX8_sends_70 ?_
    refine r_iadd hC dX8_sends_71 ?_
    refine r_iload_n hC dX8_sends_72 rfl ?_
    refine rM_ast hC hM dX8_sends_73 ⟨by omega, by omega⟩ ?_
    refine r_aload_n hC dX8_sends_74 rfl ?_
    refine r_getR (j := 0) hC dX8_sends_75 fl_X8_7 rfl rfl hM.o hM.p_row ?_
    refine r_iload hC dX8_sends_78 rfl ?_
    refine r_iconst hC dX8_sends_80 ?_
    refine r_iadd hC dX8_sends_81 ?_
    refine r_iload_n hC dX8_sends_82 rfl ?_
    refine rM_ast hC hM dX8_sends_83 ⟨by omega, by omega⟩ ?_
    refine r_aload_n hC dX8_sends_84 rfl ?_
    refine r_getR (j := 0) hC dX8_sends_85 fl_X8_7 rfl rfl hM.o hM.p_row ?_
    refine r_iload hC dX8_sends_88 rfl ?_
    refine r_iconst hC dX8_sends_90 ?_
    refine r_iadd hC dX8_sends_91 ?_
    refine r_aload_n hC dX8_sends_92 rfl ?_
    refine r_getR (j := 0) hC dX8_sends_93 fl_X8_7 rfl rfl hM.o hM.p_row ?_
    refine r_iconst hC dX8_sends_96 ?_
    refine rM_ald hC hM (by (repeat (first | assumption | with_reducible apply rf_up | with_reducible apply rf_setm | with_reducible apply rf_mI | with_reducible apply rf_begins | with_reducible apply rf_writes | with_reducible apply rf_drops | with_reducible apply rf_commitL | with_reducible apply rf_commits | with_reducible apply rf_lost | with_reducible apply rf_sweepL | with_reducible apply rf_sweep1 | with_reducible apply rf_sweeps | with_reducible apply rf_sends0 | with_reducible apply rf_sendsA | with_reducible apply rf_pack | with_reducible apply rf_sends))) dX8_sends_97 ⟨by omega, by omega⟩ ?_
    refine r_aload_n hC dX8_sends_98 rfl ?_
    refine r_getR (j := 0) hC dX8_sends_99 fl_X8_7 rfl rfl hM.o hM.p_row ?_
    refine r_bipush hC dX8_sends_102 (by rfl) ?_
    refine rM_ald hC hM (by (repeat (first | assumption | with_reducible apply rf_up | with_reducible apply rf_setm | with_reducible apply rf_mI | with_reducible apply rf_begins | with_reducible apply rf_writes | with_reducible apply rf_drops | with_reducible apply rf_commitL | with_reducible apply rf_commits | with_reducible apply rf_lost | with_reducible apply rf_sweepL | with_reducible apply rf_sweep1 | with_reducible apply rf_sweeps | with_reducible apply rf_sends0 | with_reducible apply rf_sendsA | with_reducible apply rf_pack | with_reducible apply rf_sends))) dX8_sends_104 ⟨by omega, by omega⟩ ?_
    refine r_iadd hC dX8_sends_105 ?_
    refine rM_ast hC hM dX8_sends_106 ⟨by omega, by omega⟩ ?_
    refine r_aload_n hC dX8_sends_107 rfl ?_
    refine r_getR (j := 0) hC dX8_sends_108 fl_X8_7 rfl rfl hM.o hM.p_row ?_
    refine r_iload hC dX8_sends_111 rfl ?_
    refine r_iconst hC dX8_sends_113 ?_
    refine r_iadd hC dX8_sends_114 ?_
    refine r_iload_n hC dX8_sends_115 rfl ?_
    refine rM_ast hC hM dX8_sends_116 ⟨by omega, by omega⟩ ?_
    refine r_aload_n hC dX8_sends_117 rfl ?_
    refine r_getR (j := 0) hC dX8_sends_118 fl_X8_7 rfl rfl hM.o hM.p_row ?_
    refine r_iload hC dX8_sends_121 rfl ?_
    refine r_iconst hC dX8_sends_123 ?_
    refine r_iadd hC dX8_sends_124 ?_
    refine r_iload hC dX8_sends_125 rfl ?_
    refine rM_ast hC hM dX8_sends_127 ⟨by omega, by omega⟩ ?_
    refine r_aload_n hC dX8_sends_128 rfl ?_
    refine r_getR (j := 0) hC dX8_sends_129 fl_X8_7 rfl rfl hM.o hM.p_row ?_
    refine r_iload hC dX8_sends_132 rfl ?_
    refine r_iconst hC dX8_sends_134 ?_
    refine r_iadd hC dX8_sends_135 ?_
    refine r_iconst hC dX8_sends_136 ?_
    refine rM_ast hC hM dX8_sends_137 ⟨by omega, by omega⟩ ?_
    refine r_aload_n hC dX8_sends_138 rfl ?_
    refine r_getR (j := 0) hC dX8_sends_139 fl_X8_7 rfl rfl hM.o hM.p_row ?_
    refine r_iload hC dX8_sends_142 rfl ?_
    refine r_iconst hC dX8_sends_144 ?_
    refine r_iadd hC dX8_sends_145 ?_
    refine r_iconst hC dX8_sends_146 ?_
    refine r_iadd hC dX8_sends_147 ?_
    refine r_iconst hC dX8_sends_148 ?_
    refine rM_ast hC hM dX8_sends_149 ⟨by omega, by omega⟩ ?_
    refine r_iconst hC dX8_sends_150 ?_
    refine r_istore (lv' := [_, _, _, _, _, _, _]) hC dX8_sends_151 (lt_b rfl) rfl (lt_b rfl) rfl ?_
    obtain ⟨N, hN0⟩ : ∃ N : Nat, mn = N := ⟨mn.toNat, by omega⟩
    subst hN0
    obtain ⟨q, hq⟩ : ∃ z, z = m_sendsA g kd c N gr := ⟨_, rfl⟩
    have rfq : RF q := by rw [hq]; exact rf_sendsA rfg _ _ _ _
    have hq9 : q 9 = f 9 := by rw [hq, m_sendsA_lo (by omega) _ _ _ _ (by omega), g9]
    have lp : ∀ (n : Nat) (k : Nat), N - k = n → k ≤ N → VW C 153 [some (xA m), some (xI kd), some (xI c), some (xI N), some (xI gr), some (xI (811 + 7 * g 9)), some (xI k)] [] (sA u (m + 1) (m_pack q (mI u (m + 7)) (811 + 7 * g 9) k)) 0 0 := by
      intro n
      induction n using Nat.strongRecOn with
      | _ n ih =>
        intro k hn hk
        have htd := tdiv4 k
        have hp9 : (m_pack q (mI u (m + 7)) (811 + 7 * g 9) k) 9 = f 9 := by rw [m_pack_lo _ (by omega) _ (by omega), hq9]
        refine r_iload hC dX8_sends_153 rfl ?_
        refine r_iload_n hC dX8_sends_155 rfl ?_
        refine r_icmp_ge (t := 197) hC dX8_sends_156 (by rfl) (by first | with_reducible exact rg_mI _ _ _ | (with_reducible refine rg_of ?_ _ _; (repeat (first | assumption | with_reducible apply rf_up | with_reducible apply rf_setm | with_reducible apply rf_mI | with_reducible apply rf_begins | with_reducible apply rf_writes | with_reducible apply rf_drops | with_reducible apply rf_commitL | with_reducible apply rf_commits | with_reducible apply rf_lost | with_reducible apply rf_sweepL | with_reducible apply rf_sweep1 | with_reducible apply rf_sweeps | with_reducible apply rf_sends0 | with_reducible apply rf_sendsA | with_reducible apply rf_pack | with_reducible apply rf_sends)); done) | (with_reducible refine rg_its ?_ _ _; (repeat (first | assumption | with_reducible apply rf_up | with_reducible apply rf_setm | with_reducible apply rf_mI | with_reducible apply rf_begins | with_reducible apply rf_writes | with_reducible apply rf_drops | with_reducible apply rf_commitL | with_reducible apply rf_commits | with_reducible apply rf_lost | with_reducible apply rf_sweepL | with_reducible apply rf_sweep1 | with_reducible apply rf_sweeps | with_reducible apply rf_sends0 | with_reducible apply rf_sendsA | with_reducible apply rf_pack | with_reducible apply rf_sends)); done) | (with_reducible refine rg_way ?_ _ _; (repeat (first | assumption | with_reducible apply rf_up | with_reducible apply rf_setm | with_reducible apply rf_mI | with_reducible apply rf_begins | with_reducible apply rf_writes | with_reducible apply rf_drops | with_reducible apply rf_commitL | with_reducible apply rf_commits | with_reducible apply rf_lost | with_reducible apply rf_sweepL | with_reducible apply rf_sweep1 | with_reducible apply rf_sweeps | with_reducible apply rf_sends0 | with_reducible apply rf_sendsA | with_reducible apply rf_pack | with_reducible apply rf_sends)); done) | with_reducible exact rg_and _ _ | (with_reducible refine rg_num ?_ ⟨by omega, by omega⟩; (repeat (first | assumption | with_reducible apply rf_up | with_reducible apply rf_setm | with_reducible apply rf_mI | with_reducible apply rf_begins | with_reducible apply rf_writes | with_reducible apply rf_drops | with_reducible apply rf_commitL | with_reducible apply rf_commits | with_reducible apply rf_lost | with_reducible apply rf_sweepL | with_reducible apply rf_sweep1 | with_reducible apply rf_sweeps | with_reducible apply rf_sends0 | with_reducible apply rf_sendsA | with_reducible apply rf_pack | with_reducible apply rf_sends)); done) | (with_reducible refine rf_at ?_ _; (repeat (first | assumption | with_reducible apply rf_up | with_reducible apply rf_setm | with_reducible apply rf_mI | with_reducible apply rf_begins | with_reducible apply rf_writes | with_reducible apply rf_drops | with_reducible apply rf_commitL | with_reducible apply rf_commits | with_reducible apply rf_lost | with_reducible apply rf_sweepL | with_reducible apply rf_sweep1 | with_reducible apply rf_sweeps | with_reducible apply rf_sends0 | with_reducible apply rf_sendsA | with_reducible apply rf_pack | with_reducible apply rf_sends)); done) | exact ⟨by omega, by omega⟩) (by first | with_reducible exact rg_mI _ _ _ | (with_reducible refine rg_of ?_ _ _; (repeat (first | assumption | with_reducible apply rf_up | with_reducible apply rf_setm | with_reducible apply rf_mI | with_reducible apply rf_begins | with_reducible apply rf_writes | with_reducible apply rf_drops | with_reducible apply rf_commitL | with_reducible apply rf_commits | with_reducible apply rf_lost | with_reducible apply rf_sweepL | with_reducible apply rf_sweep1 | with_reducible apply rf_sweeps | with_reducible apply rf_sends0 | with_reducible apply rf_sendsA | with_reducible apply rf_pack | with_reducible apply rf_sends)); done) | (with_reducible refine rg_its ?_ _ _; (repeat (first | assumption | with_reducible apply rf_up | with_reducible apply rf_setm | with_reducible apply rf_mI | with_reducible apply rf_begins | with_reducible apply rf_writes | with_reducible apply rf_drops | with_reducible apply rf_commitL | with_reducible apply rf_commits | with_reducible apply rf_lost | with_reducible apply rf_sweepL | with_reducible apply rf_sweep1 | with_reducible apply rf_sweeps | with_reducible apply rf_sends0 | with_reducible apply rf_sendsA | with_reducible apply rf_pack | with_reducible apply rf_sends)); done) | (with_reducible refine rg_way ?_ _ _; (repeat (first | assumption | with_reducible apply rf_up | with_reducible apply rf_setm | with_reducible apply rf_mI | with_reducible apply rf_begins | with_reducible apply rf_writes | with_reducible apply rf_drops | with_reducible apply rf_commitL | with_reducible apply rf_commits | with_reducible apply rf_lost | with_reducible apply rf_sweepL | with_reducible apply rf_sweep1 | with_reducible apply rf_sweeps | with_reducible apply rf_sends0 | with_reducible apply rf_sendsA | with_reducible apply rf_pack | with_reducible apply rf_sends)); done) | with_reducible exact rg_and _ _ | (with_reducible refine rg_num ?_ ⟨by omega, by omega⟩; (repeat (first | assumption | with_reducible apply rf_up | with_reducible apply rf_setm | with_reducible apply rf_mI | with_reducible apply rf_begins | with_reducible apply rf_writes | with_reducible apply rf_drops | with_reducible apply rf_commitL | with_reducible apply rf_commits | with_reducible apply rf_lost | with_reducible apply rf_sweepL | with_reducible apply rf_sweep1 | with_reducible apply rf_sweeps | with_reducible apply rf_sends0 | with_reducible apply rf_sendsA | with_reducible apply rf_pack | with_reducible apply rf_sends)); done) | (with_reducible refine rf_at ?_ _; (repeat (first | assumption | with_reducible apply rf_up | with_reducible apply rf_setm | with_reducible apply rf_mI | with_reducible apply rf_begins | with_reducible apply rf_writes | with_reducible apply rf_drops | with_reducible apply rf_commitL | with_reducible apply rf_commits | with_reducible apply rf_lost | with_reducible apply rf_sweepL | with_reducible apply rf_sweep1 | with_reducible apply rf_sweeps | with_reducible apply rf_sends0 | with_reducible apply rf_sendsA | with_reducible apply rf_pack | with_reducible apply rf_sends)); done) | exact ⟨by omega, by omega⟩) (fun h_156 => ?_) (fun h_156 => ?_)
        · skip
          refine r_aload_n hC dX8_sends_197 rfl ?_
          refine r_getR (j := 0) hC dX8_sends_198 fl_X8_7 rfl rfl hM.o hM.p_row ?_
          refine r_bipush hC dX8_sends_201 (by rfl) ?_
          refine r_dup2 hC dX8_sends_203 rfl rfl ?_
          refine rM_ald hC hM (by (repeat (first | assumption | with_reducible apply rf_up | with_reducible apply rf_setm | with_reducible apply rf_mI | with_reducible apply rf_begins | with_reducible apply rf_writes | with_reducible apply rf_drops | with_reducible apply rf_commitL | with_reducible apply rf_commits | with_reducible apply rf_lost | with_reducible apply rf_sweepL | with_reducible apply rf_sweep1 | with_reducible apply rf_sweeps | with_reducible apply rf_sends0 | with_reducible apply rf_sendsA | with_reducible apply rf_pack | with_reducible apply rf_sends))) dX8_sends_204 ⟨by omega, by omega⟩ ?_
          refine r_iconst hC dX8_sends_205 ?_
          refine r_iadd hC dX8_sends_206 ?_
          refine rM_ast hC hM dX8_sends_207 ⟨by omega, by omega⟩ ?_
          refine r_vret hC hR dX8_sends_208 (le_b rfl) (le_b rfl) ?_
          refine ⟨rfl, ?_⟩
          unfold m_sends
          rw [← hg, if_neg hno, ← hq, show ((N : Int)).toNat = k by omega]
        · skip
          refine r_aload_n hC dX8_sends_159 rfl ?_
          refine r_getR (j := 0) hC dX8_sends_160 fl_X8_7 rfl rfl hM.o hM.p_row ?_
          refine r_iload hC dX8_sends_163 rfl ?_
          refine r_iconst hC dX8_sends_165 ?_
          refine r_iadd hC dX8_sends_166 ?_
          refine r_iload hC dX8_sends_167 rfl ?_
          refine r_iconst hC dX8_sends_169 ?_
          refine r_idiv hC (by first | with_reducible exact rg_mI _ _ _ | (with_reducible refine rg_of ?_ _ _; (repeat (first | assumption | with_reducible apply rf_up | with_reducible apply rf_setm | with_reducible apply rf_mI | with_reducible apply rf_begins | with_reducible apply rf_writes | with_reducible apply rf_drops | with_reducible apply rf_commitL | with_reducible apply rf_commits | with_reducible apply rf_lost | with_reducible apply rf_sweepL | with_reducible apply rf_sweep1 | with_reducible apply rf_sweeps | with_reducible apply rf_sends0 | with_reducible apply rf_sendsA | with_reducible apply rf_pack | with_reducible apply rf_sends)); done) | (with_reducible refine rg_its ?_ _ _; (repeat (first | assumption | with_reducible apply rf_up | with_reducible apply rf_setm | with_reducible apply rf_mI | with_reducible apply rf_begins | with_reducible apply rf_writes | with_reducible apply rf_drops | with_reducible apply rf_commitL | with_reducible apply rf_commits | with_reducible apply rf_lost | with_reducible apply rf_sweepL | with_reducible apply rf_sweep1 | with_reducible apply rf_sweeps | with_reducible apply rf_sends0 | with_reducible apply rf_sendsA | with_reducible apply rf_pack | with_reducible apply rf_sends)); done) | (with_reducible refine rg_way ?_ _ _; (repeat (first | assumption | with_reducible apply rf_up | with_reducible apply rf_setm | with_reducible apply rf_mI | with_reducible apply rf_begins | with_reducible apply rf_writes | with_reducible apply rf_drops | with_reducible apply rf_commitL | with_reducible apply rf_commits | with_reducible apply rf_lost | with_reducible apply rf_sweepL | with_reducible apply rf_sweep1 | with_reducible apply rf_sweeps | with_reducible apply rf_sends0 | with_reducible apply rf_sendsA | with_reducible apply rf_pack | with_reducible apply rf_sends)); done) | with_reducible exact rg_and _ _ | (with_reducible refine rg_num ?_ ⟨by omega, by omega⟩; (repeat (first | assumption | with_reducible apply rf_up | with_reducible apply rf_setm | with_reducible apply rf_mI | with_reducible apply rf_begins | with_reducible apply rf_writes | with_reducible apply rf_drops | with_reducible apply rf_commitL | with_reducible apply rf_commits | with_reducible apply rf_lost | with_reducible apply rf_sweepL | with_reducible apply rf_sweep1 | with_reducible apply rf_sweeps | with_reducible apply rf_sends0 | with_reducible apply rf_sendsA | with_reducible apply rf_pack | with_reducible apply rf_sends)); done) | (with_reducible refine rf_at ?_ _; (repeat (first | assumption | with_reducible apply rf_up | with_reducible apply rf_setm | with_reducible apply rf_mI | with_reducible apply rf_begins | with_reducible apply rf_writes | with_reducible apply rf_drops | with_reducible apply rf_commitL | with_reducible apply rf_commits | with_reducible apply rf_lost | with_reducible apply rf_sweepL | with_reducible apply rf_sweep1 | with_reducible apply rf_sweeps | with_reducible apply rf_sends0 | with_reducible apply rf_sendsA | with_reducible apply rf_pack | with_reducible apply rf_sends)); done) | exact ⟨by omega, by omega⟩) (by first | with_reducible exact rg_mI _ _ _ | (with_reducible refine rg_of ?_ _ _; (repeat (first | assumption | with_reducible apply rf_up | with_reducible apply rf_setm | with_reducible apply rf_mI | with_reducible apply rf_begins | with_reducible apply rf_writes | with_reducible apply rf_drops | with_reducible apply rf_commitL | with_reducible apply rf_commits | with_reducible apply rf_lost | with_reducible apply rf_sweepL | with_reducible apply rf_sweep1 | with_reducible apply rf_sweeps | with_reducible apply rf_sends0 | with_reducible apply rf_sendsA | with_reducible apply rf_pack | with_reducible apply rf_sends)); done) | (with_reducible refine rg_its ?_ _ _; (repeat (first | assumption | with_reducible apply rf_up | with_reducible apply rf_setm | with_reducible apply rf_mI | with_reducible apply rf_begins | with_reducible apply rf_writes | with_reducible apply rf_drops | with_reducible apply rf_commitL | with_reducible apply rf_commits | with_reducible apply rf_lost | with_reducible apply rf_sweepL | with_reducible apply rf_sweep1 | with_reducible apply rf_sweeps | with_reducible apply rf_sends0 | with_reducible apply rf_sendsA | with_reducible apply rf_pack | with_reducible apply rf_sends)); done) | (with_reducible refine rg_way ?_ _ _; (repeat (first | assumption | with_reducible apply rf_up | with_reducible apply rf_setm | with_reducible apply rf_mI | with_reducible apply rf_begins | with_reducible apply rf_writes | with_reducible apply rf_drops | with_reducible apply rf_commitL | with_reducible apply rf_commits | with_reducible apply rf_lost | with_reducible apply rf_sweepL | with_reducible apply rf_sweep1 | with_reducible apply rf_sweeps | with_reducible apply rf_sends0 | with_reducible apply rf_sendsA | with_reducible apply rf_pack | with_reducible apply rf_sends)); done) | with_reducible exact rg_and _ _ | (with_reducible refine rg_num ?_ ⟨by omega, by omega⟩; (repeat (first | assumption | with_reducible apply rf_up | with_reducible apply rf_setm | with_reducible apply rf_mI | with_reducible apply rf_begins | with_reducible apply rf_writes | with_reducible apply rf_drops | with_reducible apply rf_commitL | with_reducible apply rf_commits | with_reducible apply rf_lost | with_reducible apply rf_sweepL | with_reducible apply rf_sweep1 | with_reducible apply rf_sweeps | with_reducible apply rf_sends0 | with_reducible apply rf_sendsA | with_reducible apply rf_pack | with_reducible apply rf_sends)); done) | (with_reducible refine rf_at ?_ _; (repeat (first | assumption | with_reducible apply rf_up | with_reducible apply rf_setm | with_reducible apply rf_mI | with_reducible apply rf_begins | with_reducible apply rf_writes | with_reducible apply rf_drops | with_reducible apply rf_commitL | with_reducible apply rf_commits | with_reducible apply rf_lost | with_reducible apply rf_sweepL | with_reducible apply rf_sweep1 | with_reducible apply rf_sweeps | with_reducible apply rf_sends0 | with_reducible apply rf_sendsA | with_reducible apply rf_pack | with_reducible apply rf_sends)); done) | exact ⟨by omega, by omega⟩) (by omega) dX8_sends_170 ?_
          refine r_iadd hC dX8_sends_171 ?_
          refine r_dup2 hC dX8_sends_172 rfl rfl ?_
          refine rM_ald hC hM (by (repeat (first | assumption | with_reducible apply rf_up | with_reducible apply rf_setm | with_reducible apply rf_mI | with_reducible apply rf_begins | with_reducible apply rf_writes | with_reducible apply rf_drops | with_reducible apply rf_commitL | with_reducible apply rf_commits | with_reducible apply rf_lost | with_reducible apply rf_sweepL | with_reducible apply rf_sweep1 | with_reducible apply rf_sweeps | with_reducible apply rf_sends0 | with_reducible apply rf_sendsA | with_reducible apply rf_pack | with_reducible apply rf_sends))) dX8_sends_173 ⟨by omega, by omega⟩ ?_
          refine r_aload_n hC dX8_sends_174 rfl ?_
          refine r_getR (j := 10) hC dX8_sends_175 fl_X8_28 rfl rfl hM.o hM.p_batch ?_
          refine r_iload hC dX8_sends_178 rfl ?_
          refine rM_ald2 hC dX8_sends_180 hM.a_batch rfl ⟨by omega, by omega⟩ ?_
          refine r_bipush hC dX8_sends_181 (by rfl) ?_
          refine r_iload hC dX8_sends_183 rfl ?_
          refine r_iconst hC dX8_sends_185 ?_
          refine r_irem hC (by first | with_reducible exact rg_mI _ _ _ | (with_reducible refine rg_of ?_ _ _; (repeat (first | assumption | with_reducible apply rf_up | with_reducible apply rf_setm | with_reducible apply rf_mI | with_reducible apply rf_begins | with_reducible apply rf_writes | with_reducible apply rf_drops | with_reducible apply rf_commitL | with_reducible apply rf_commits | with_reducible apply rf_lost | with_reducible apply rf_sweepL | with_reducible apply rf_sweep1 | with_reducible apply rf_sweeps | with_reducible apply rf_sends0 | with_reducible apply rf_sendsA | with_reducible apply rf_pack | with_reducible apply rf_sends)); done) | (with_reducible refine rg_its ?_ _ _; (repeat (first | assumption | with_reducible apply rf_up | with_reducible apply rf_setm | with_reducible apply rf_mI | with_reducible apply rf_begins | with_reducible apply rf_writes | with_reducible apply rf_drops | with_reducible apply rf_commitL | with_reducible apply rf_commits | with_reducible apply rf_lost | with_reducible apply rf_sweepL | with_reducible apply rf_sweep1 | with_reducible apply rf_sweeps | with_reducible apply rf_sends0 | with_reducible apply rf_sendsA | with_reducible apply rf_pack | with_reducible apply rf_sends)); done) | (with_reducible refine rg_way ?_ _ _; (repeat (first | assumption | with_reducible apply rf_up | with_reducible apply rf_setm | with_reducible apply rf_mI | with_reducible apply rf_begins | with_reducible apply rf_writes | with_reducible apply rf_drops | with_reducible apply rf_commitL | with_reducible apply rf_commits | with_reducible apply rf_lost | with_reducible apply rf_sweepL | with_reducible apply rf_sweep1 | with_reducible apply rf_sweeps | with_reducible apply rf_sends0 | with_reducible apply rf_sendsA | with_reducible apply rf_pack | with_reducible apply rf_sends)); done) | with_reducible exact rg_and _ _ | (with_reducible refine rg_num ?_ ⟨by omega, by omega⟩; (repeat (first | assumption | with_reducible apply rf_up | with_reducible apply rf_setm | with_reducible apply rf_mI | with_reducible apply rf_begins | with_reducible apply rf_writes | with_reducible apply rf_drops | with_reducible apply rf_commitL | with_reducible apply rf_commits | with_reducible apply rf_lost | with_reducible apply rf_sweepL | with_reducible apply rf_sweep1 | with_reducible apply rf_sweeps | with_reducible apply rf_sends0 | with_reducible apply rf_sendsA | with_reducible apply rf_pack | with_reducible apply rf_sends)); done) | (with_reducible refine rf_at ?_ _; (repeat (first | assumption | with_reducible apply rf_up | with_reducible apply rf_setm | with_reducible apply rf_mI | with_reducible apply rf_begins | with_reducible apply rf_writes | with_reducible apply rf_drops | with_reducible apply rf_commitL | with_reducible apply rf_commits | with_reducible apply rf_lost | with_reducible apply rf_sweepL | with_reducible apply rf_sweep1 | with_reducible apply rf_sweeps | with_reducible apply rf_sends0 | with_reducible apply rf_sendsA | with_reducible apply rf_pack | with_reducible apply rf_sends)); done) | exact ⟨by omega, by omega⟩) (by first | with_reducible exact rg_mI _ _ _ | (with_reducible refine rg_of ?_ _ _; (repeat (first | assumption | with_reducible apply rf_up | with_reducible apply rf_setm | with_reducible apply rf_mI | with_reducible apply rf_begins | with_reducible apply rf_writes | with_reducible apply rf_drops | with_reducible apply rf_commitL | with_reducible apply rf_commits | with_reducible apply rf_lost | with_reducible apply rf_sweepL | with_reducible apply rf_sweep1 | with_reducible apply rf_sweeps | with_reducible apply rf_sends0 | with_reducible apply rf_sendsA | with_reducible apply rf_pack | with_reducible apply rf_sends)); done) | (with_reducible refine rg_its ?_ _ _; (repeat (first | assumption | with_reducible apply rf_up | with_reducible apply rf_setm | with_reducible apply rf_mI | with_reducible apply rf_begins | with_reducible apply rf_writes | with_reducible apply rf_drops | with_reducible apply rf_commitL | with_reducible apply rf_commits | with_reducible apply rf_lost | with_reducible apply rf_sweepL | with_reducible apply rf_sweep1 | with_reducible apply rf_sweeps | with_reducible apply rf_sends0 | with_reducible apply rf_sendsA | with_reducible apply rf_pack | with_reducible apply rf_sends)); done) | (with_reducible refine rg_way ?_ _ _; (repeat (first | assumption | with_reducible apply rf_up | with_reducible apply rf_setm | with_reducible apply rf_mI | with_reducible apply rf_begins | with_reducible apply rf_writes | with_reducible apply rf_drops | with_reducible apply rf_commitL | with_reducible apply rf_commits | with_reducible apply rf_lost | with_reducible apply rf_sweepL | with_reducible apply rf_sweep1 | with_reducible apply rf_sweeps | with_reducible apply rf_sends0 | with_reducible apply rf_sendsA | with_reducible apply rf_pack | with_reducible apply rf_sends)); done) | with_reducible exact rg_and _ _ | (with_reducible refine rg_num ?_ ⟨by omega, by omega⟩; (repeat (first | assumption | with_reducible apply rf_up | with_reducible apply rf_setm | with_reducible apply rf_mI | with_reducible apply rf_begins | with_reducible apply rf_writes | with_reducible apply rf_drops | with_reducible apply rf_commitL | with_reducible apply rf_commits | with_reducible apply rf_lost | with_reducible apply rf_sweepL | with_reducible apply rf_sweep1 | with_reducible apply rf_sweeps | with_reducible apply rf_sends0 | with_reducible apply rf_sendsA | with_reducible apply rf_pack | with_reducible apply rf_sends)); done) | (with_reducible refine rf_at ?_ _; (repeat (first | assumption | with_reducible apply rf_up | with_reducible apply rf_setm | with_reducible apply rf_mI | with_reducible apply rf_begins | with_reducible apply rf_writes | with_reducible apply rf_drops | with_reducible apply rf_commitL | with_reducible apply rf_commits | with_reducible apply rf_lost | with_reducible apply rf_sweepL | with_reducible apply rf_sweep1 | with_reducible apply rf_sweeps | with_reducible apply rf_sends0 | with_reducible apply rf_sendsA | with_reducible apply rf_pack | with_reducible apply rf_sends)); done) | exact ⟨by omega, by omega⟩) (by omega) dX8_sends_186 ?_
          refine r_imul hC dX8_sends_187 ?_
          refine r_ishl hC dX8_sends_188 ?_
          refine r_ior hC dX8_sends_189 ?_
          refine rM_ast hC hM dX8_sends_190 ⟨by omega, by omega⟩ ?_
          refine r_iinc (lv' := [_, _, _, _, _, _, _]) hC dX8_sends_191 rfl (lt_b rfl) rfl (lt_b rfl) rfl ?_
          refine r_goto (t := 153) hC dX8_sends_194 (by rfl) ?_
          exact ih _ (by omega) (k + 1) rfl (by omega)
    refine vw_mem ?_ (lp _ 0 rfl (by omega))
    rw [hq]; rfl
  · skip
    refine r_aload_n hC dX8_sends_20 rfl ?_
    refine r_getR (j := 0) hC dX8_sends_21 fl_X8_7 rfl rfl hM.o hM.p_row ?_
    refine r_iconst hC dX8_sends_24 ?_
    refine rM_ald hC hM (by (repeat (first | assumption | with_reducible apply rf_up | with_reducible apply rf_setm | with_reducible apply rf_mI | with_reducible apply rf_begins | with_reducible apply rf_writes | with_reducible apply rf_drops | with_reducible apply rf_commitL | with_reducible apply rf_commits | with_reducible apply rf_lost | with_reducible apply rf_sweepL | with_reducible apply rf_sweep1 | with_reducible apply rf_sweeps | with_reducible apply rf_sends0 | with_reducible apply rf_sendsA | with_reducible apply rf_pack | with_reducible apply rf_sends))) dX8_sends_25 ⟨by omega, by omega⟩ ?_
    refine r_aload_n hC dX8_sends_26 rfl ?_
    refine r_getR (j := 0) hC dX8_sends_27 fl_X8_7 rfl rfl hM.o hM.p_row ?_
    refine r_bipush hC dX8_sends_30 (by rfl) ?_
    refine rM_ald hC hM (by (repeat (first | assumption | with_reducible apply rf_up | with_reducible apply rf_setm | with_reducible apply rf_mI | with_reducible apply rf_begins | with_reducible apply rf_writes | with_reducible apply rf_drops | with_reducible apply rf_commitL | with_reducible apply rf_commits | with_reducible apply rf_lost | with_reducible apply rf_sweepL | with_reducible apply rf_sweep1 | with_reducible apply rf_sweeps | with_reducible apply rf_sends0 | with_reducible apply rf_sendsA | with_reducible apply rf_pack | with_reducible apply rf_sends))) dX8_sends_32 ⟨by omega, by omega⟩ ?_
    refine r_irem hC (rf_at (by assumption) _) (rf_at (by assumption) _) h_17 dX8_sends_33 ?_
    refine r_if_ne (t := 48) hC dX8_sends_34 (by rfl) (rg_tmod (rf_at (by assumption) _) (rf_at (by assumption) _) h_17) (fun h_34 => ?_) (fun h_34 => ?_)
    · skip
      have hno : ¬ (g 14 ≠ 0 ∧ (g 4).tmod (g 14) = 0) := fun q => h_34 q.2
      refine r_sipush hC dX8_sends_48 (by rfl) ?_
      refine r_bipush hC dX8_sends_51 (by rfl) ?_
      refine r_aload_n hC dX8_sends_53 rfl ?_
      refine r_getR (j := 0) hC dX8_sends_54 fl_X8_7 rfl rfl hM.o hM.p_row ?_
      refine r_bipush hC dX8_sends_57 (by rfl) ?_
      refine rM_ald hC hM (by (repeat (first | assumption | with_reducible apply rf_up | with_reducible apply rf_setm | with_reducible apply rf_mI | with_reducible apply rf_begins | with_reducible apply rf_writes | with_reducible apply rf_drops | with_reducible apply rf_commitL | with_reducible apply rf_commits | with_reducible apply rf_lost | with_reducible apply rf_sweepL | with_reducible apply rf_sweep1 | with_reducible apply rf_sweeps | with_reducible apply rf_sends0 | with_reducible apply rf_sendsA | with_reducible apply rf_pack | with_reducible apply rf_sends))) dX8_sends_59 ⟨by omega, by omega⟩ ?_
      refine r_imul hC dX8_sends_60 ?_
      refine r_iadd hC dX8_sends_61 ?_
      refine r_istore (lv' := [_, _, _, _, _, _, _]) hC dX8_sends_62 (lt_b rfl) rfl (lt_b rfl) rfl ?_
      refine r_aload_n hC dX8_sends_64 rfl ?_
      refine r_getR (j := 0) hC dX8_sends_65 fl_X8_7 rfl rfl hM.o hM.p_row ?_
      refine r_iload hC dX8_sends_68 rfl ?_
      refine r_iconst hC dX8_sends_70 ?_
      refine r_iadd hC dX8_sends_71 ?_
      refine r_iload_n hC dX8_sends_72 rfl ?_
      refine rM_ast hC hM dX8_sends_73 ⟨by omega, by omega⟩ ?_
      refine r_aload_n hC dX8_sends_74 rfl ?_
      refine r_getR (j := 0) hC dX8_sends_75 fl_X8_7 rfl rfl hM.o hM.p_row ?_
      refine r_iload hC dX8_sends_78 rfl ?_
      refine r_iconst hC dX8_sends_80 ?_
      refine r_iadd hC dX8_sends_81 ?_
      refine r_iload_n hC dX8_sends_82 rfl ?_
      refine rM_ast hC hM dX8_sends_83 ⟨by omega, by omega⟩ ?_
      refine r_aload_n hC dX8_sends_84 rfl ?_
      refine r_getR (j := 0) hC dX8_sends_85 fl_X8_7 rfl rfl hM.o hM.p_row ?_
      refine r_iload hC dX8_sends_88 rfl ?_
      refine r_iconst hC dX8_sends_90 ?_
      refine r_iadd hC dX8_sends_91 ?_
      refine r_aload_n hC dX8_sends_92 rfl ?_
      refine r_getR (j := 0) hC dX8_sends_93 fl_X8_7 rfl rfl hM.o hM.p_row ?_
      refine r_iconst hC dX8_sends_96 ?_
      refine rM_ald hC hM (by (repeat (first | assumption | with_reducible apply rf_up | with_reducible apply rf_setm | with_reducible apply rf_mI | with_reducible apply rf_begins | with_reducible apply rf_writes | with_reducible apply rf_drops | with_reducible apply rf_commitL | with_reducible apply rf_commits | with_reducible apply rf_lost | with_reducible apply rf_sweepL | with_reducible apply rf_sweep1 | with_reducible apply rf_sweeps | with_reducible apply rf_sends0 | with_reducible apply rf_sendsA | with_reducible apply rf_pack | with_reducible apply rf_sends))) dX8_sends_97 ⟨by omega, by omega⟩ ?_
      refine r_aload_n hC dX8_sends_98 rfl ?_
      refine r_getR (j := 0) hC dX8_sends_99 fl_X8_7 rfl rfl hM.o hM.p_row ?_
      refine r_bipush hC dX8_sends_102 (by rfl) ?_
      refine rM_ald hC hM (by (repeat (first | assumption | with_reducible apply rf_up | with_reducible apply rf_setm | with_reducible apply rf_mI | with_reducible apply rf_begins | with_reducible apply rf_writes | with_reducible apply rf_drops | with_reducible apply rf_commitL | with_reducible apply rf_commits | with_reducible apply rf_lost | with_reducible apply rf_sweepL | with_reducible apply rf_sweep1 | with_reducible apply rf_sweeps | with_reducible apply rf_sends0 | with_reducible apply rf_sendsA | with_reducible apply rf_pack | with_reducible apply rf_sends))) dX8_sends_104 ⟨by omega, by omega⟩ ?_
      refine r_iadd hC dX8_sends_105 ?_
      refine rM_ast hC hM dX8_sends_106 ⟨by omega, by omega⟩ ?_
      refine r_aload_n hC dX8_sends_107 rfl ?_
      refine r_getR (j := 0) hC dX8_sends_108 fl_X8_7 rfl rfl hM.o hM.p_row ?_
      refine r_iload hC dX8_sends_111 rfl ?_
      refine r_iconst hC dX8_sends_113 ?_
      refine r_iadd hC dX8_sends_114 ?_
      refine r_iload_n hC dX8_sends_115 rfl ?_
      refine rM_ast hC hM dX8_sends_116 ⟨by omega, by omega⟩ ?_
      refine r_aload_n hC dX8_sends_117 rfl ?_
      refine r_getR (j := 0) hC dX8_sends_118 fl_X8_7 rfl rfl hM.o hM.p_row ?_
      refine r_iload hC dX8_sends_121 rfl ?_
      refine r_iconst hC dX8_sends_123 ?_
      refine r_iadd hC dX8_sends_124 ?_
      refine r_iload hC dX8_sends_125 rfl ?_
      refine rM_ast hC hM dX8_sends_127 ⟨by omega, by omega⟩ ?_
      refine r_aload_n hC dX8_sends_128 rfl ?_
      refine r_getR (j := 0) hC dX8_sends_129 fl_X8_7 rfl rfl hM.o hM.p_row ?_
      refine r_iload hC dX8_sends_132 rfl ?_
      refine r_iconst hC dX8_sends_134 ?_
      refine r_iadd hC dX8_sends_135 ?_
      refine r_iconst hC dX8_sends_136 ?_
      refine rM_ast hC hM dX8_sends_137 ⟨by omega, by omega⟩ ?_
      refine r_aload_n hC dX8_sends_138 rfl ?_
      refine r_getR (j := 0) hC dX8_sends_139 fl_X8_7 rfl rfl hM.o hM.p_row ?_
      refine r_iload hC dX8_sends_142 rfl ?_
      refine r_iconst hC dX8_sends_144 ?_
      refine r_iadd hC dX8_sends_145 ?_
      refine r_iconst hC dX8_sends_146 ?_
      refine r_iadd hC dX8_sends_147 ?_
      refine r_iconst hC dX8_sends_148 ?_
      refine rM_ast hC hM dX8_sends_149 ⟨by omega, by omega⟩ ?_
      refine r_iconst hC dX8_sends_150 ?_
      refine r_istore (lv' := [_, _, _, _, _, _, _]) hC dX8_sends_151 (lt_b rfl) rfl (lt_b rfl) rfl ?_
      obtain ⟨N, hN0⟩ : ∃ N : Nat, mn = N := ⟨mn.toNat, by omega⟩
      subst hN0
      obtain ⟨q, hq⟩ : ∃ z, z = m_sendsA g kd c N gr := ⟨_, rfl⟩
      have rfq : RF q := by rw [hq]; exact rf_sendsA rfg _ _ _ _
      have hq9 : q 9 = f 9 := by rw [hq, m_sendsA_lo (by omega) _ _ _ _ (by omega), g9]
      have lp : ∀ (n : Nat) (k : Nat), N - k = n → k ≤ N → VW C 153 [some (xA m), some (xI kd), some (xI c), some (xI N), some (xI gr), some (xI (811 + 7 * g 9)), some (xI k)] [] (sA u (m + 1) (m_pack q (mI u (m + 7)) (811 + 7 * g 9) k)) 0 0 := by
        intro n
        induction n using Nat.strongRecOn with
        | _ n ih =>
          intro k hn hk
          have htd := tdiv4 k
          have hp9 : (m_pack q (mI u (m + 7)) (811 + 7 * g 9) k) 9 = f 9 := by rw [m_pack_lo _ (by omega) _ (by omega), hq9]
          refine r_iload hC dX8_sends_153 rfl ?_
          refine r_iload_n hC dX8_sends_155 rfl ?_
          refine r_icmp_ge (t := 197) hC dX8_sends_156 (by rfl) (by first | with_reducible exact rg_mI _ _ _ | (with_reducible refine rg_of ?_ _ _; (repeat (first | assumption | with_reducible apply rf_up | with_reducible apply rf_setm | with_reducible apply rf_mI | with_reducible apply rf_begins | with_reducible apply rf_writes | with_reducible apply rf_drops | with_reducible apply rf_commitL | with_reducible apply rf_commits | with_reducible apply rf_lost | with_reducible apply rf_sweepL | with_reducible apply rf_sweep1 | with_reducible apply rf_sweeps | with_reducible apply rf_sends0 | with_reducible apply rf_sendsA | with_reducible apply rf_pack | with_reducible apply rf_sends)); done) | (with_reducible refine rg_its ?_ _ _; (repeat (first | assumption | with_reducible apply rf_up | with_reducible apply rf_setm | with_reducible apply rf_mI | with_reducible apply rf_begins | with_reducible apply rf_writes | with_reducible apply rf_drops | with_reducible apply rf_commitL | with_reducible apply rf_commits | with_reducible apply rf_lost | with_reducible apply rf_sweepL | with_reducible apply rf_sweep1 | with_reducible apply rf_sweeps | with_reducible apply rf_sends0 | with_reducible apply rf_sendsA | with_reducible apply rf_pack | with_reducible apply rf_sends)); done) | (with_reducible refine rg_way ?_ _ _; (repeat (first | assumption | with_reducible apply rf_up | with_reducible apply rf_setm | with_reducible apply rf_mI | with_reducible apply rf_begins | with_reducible apply rf_writes | with_reducible apply rf_drops | with_reducible apply rf_commitL | with_reducible apply rf_commits | with_reducible apply rf_lost | with_reducible apply rf_sweepL | with_reducible apply rf_sweep1 | with_reducible apply rf_sweeps | with_reducible apply rf_sends0 | with_reducible apply rf_sendsA | with_reducible apply rf_pack | with_reducible apply rf_sends)); done) | with_reducible exact rg_and _ _ | (with_reducible refine rg_num ?_ ⟨by omega, by omega⟩; (repeat (first | assumption | with_reducible apply rf_up | with_reducible apply rf_setm | with_reducible apply rf_mI | with_reducible apply rf_begins | with_reducible apply rf_writes | with_reducible apply rf_drops | with_reducible apply rf_commitL | with_reducible apply rf_commits | with_reducible apply rf_lost | with_reducible apply rf_sweepL | with_reducible apply rf_sweep1 | with_reducible apply rf_sweeps | with_reducible apply rf_sends0 | with_reducible apply rf_sendsA | with_reducible apply rf_pack | with_reducible apply rf_sends)); done) | (with_reducible refine rf_at ?_ _; (repeat (first | assumption | with_reducible apply rf_up | with_reducible apply rf_setm | with_reducible apply rf_mI | with_reducible apply rf_begins | with_reducible apply rf_writes | with_reducible apply rf_drops | with_reducible apply rf_commitL | with_reducible apply rf_commits | with_reducible apply rf_lost | with_reducible apply rf_sweepL | with_reducible apply rf_sweep1 | with_reducible apply rf_sweeps | with_reducible apply rf_sends0 | with_reducible apply rf_sendsA | with_reducible apply rf_pack | with_reducible apply rf_sends)); done) | exact ⟨by omega, by omega⟩) (by first | with_reducible exact rg_mI _ _ _ | (with_reducible refine rg_of ?_ _ _; (repeat (first | assumption | with_reducible apply rf_up | with_reducible apply rf_setm | with_reducible apply rf_mI | with_reducible apply rf_begins | with_reducible apply rf_writes | with_reducible apply rf_drops | with_reducible apply rf_commitL | with_reducible apply rf_commits | with_reducible apply rf_lost | with_reducible apply rf_sweepL | with_reducible apply rf_sweep1 | with_reducible apply rf_sweeps | with_reducible apply rf_sends0 | with_reducible apply rf_sendsA | with_reducible apply rf_pack | with_reducible apply rf_sends)); done) | (with_reducible refine rg_its ?_ _ _; (repeat (first | assumption | with_reducible apply rf_up | with_reducible apply rf_setm | with_reducible apply rf_mI | with_reducible apply rf_begins | with_reducible apply rf_writes | with_reducible apply rf_drops | with_reducible apply rf_commitL | with_reducible apply rf_commits | with_reducible apply rf_lost | with_reducible apply rf_sweepL | with_reducible apply rf_sweep1 | with_reducible apply rf_sweeps | with_reducible apply rf_sends0 | with_reducible apply rf_sendsA | with_reducible apply rf_pack | with_reducible apply rf_sends)); done) | (with_reducible refine rg_way ?_ _ _; (repeat (first | assumption | with_reducible apply rf_up | with_reducible apply rf_setm | with_reducible apply rf_mI | with_reducible apply rf_begins | with_reducible apply rf_writes | with_reducible apply rf_drops | with_reducible apply rf_commitL | with_reducible apply rf_commits | with_reducible apply rf_lost | with_reducible apply rf_sweepL | with_reducible apply rf_sweep1 | with_reducible apply rf_sweeps | with_reducible apply rf_sends0 | with_reducible apply rf_sendsA | with_reducible apply rf_pack | with_reducible apply rf_sends)); done) | with_reducible exact rg_and _ _ | (with_reducible refine rg_num ?_ ⟨by omega, by omega⟩; (repeat (first | assumption | with_reducible apply rf_up | with_reducible apply rf_setm | with_reducible apply rf_mI | with_reducible apply rf_begins | with_reducible apply rf_writes | with_reducible apply rf_drops | with_reducible apply rf_commitL | with_reducible apply rf_commits | with_reducible apply rf_lost | with_reducible apply rf_sweepL | with_reducible apply rf_sweep1 | with_reducible apply rf_sweeps | with_reducible apply rf_sends0 | with_reducible apply rf_sendsA | with_reducible apply rf_pack | with_reducible apply rf_sends)); done) | (with_reducible refine rf_at ?_ _; (repeat (first | assumption | with_reducible apply rf_up | with_reducible apply rf_setm | with_reducible apply rf_mI | with_reducible apply rf_begins | with_reducible apply rf_writes | with_reducible apply rf_drops | with_reducible apply rf_commitL | with_reducible apply rf_commits | with_reducible apply rf_lost | with_reducible apply rf_sweepL | with_reducible apply rf_sweep1 | with_reducible apply rf_sweeps | with_reducible apply rf_sends0 | with_reducible apply rf_sendsA | with_reducible apply rf_pack | with_reducible apply rf_sends)); done) | exact ⟨by omega, by omega⟩) (fun h_156 => ?_) (fun h_156 => ?_)
          · skip
            refine r_aload_n hC dX8_sends_197 rfl ?_
            refine r_getR (j := 0) hC dX8_sends_198 fl_X8_7 rfl rfl hM.o hM.p_row ?_
            refine r_bipush hC dX8_sends_201 (by rfl) ?_
            refine r_dup2 hC dX8_sends_203 rfl rfl ?_
            refine rM_ald hC hM (by (repeat (first | assumption | with_reducible apply rf_up | with_reducible apply rf_setm | with_reducible apply rf_mI | with_reducible apply rf_begins | with_reducible apply rf_writes | with_reducible apply rf_drops | with_reducible apply rf_commitL | with_reducible apply rf_commits | with_reducible apply rf_lost | with_reducible apply rf_sweepL | with_reducible apply rf_sweep1 | with_reducible apply rf_sweeps | with_reducible apply rf_sends0 | with_reducible apply rf_sendsA | with_reducible apply rf_pack | with_reducible apply rf_sends))) dX8_sends_204 ⟨by omega, by omega⟩ ?_
            refine r_iconst hC dX8_sends_205 ?_
            refine r_iadd hC dX8_sends_206 ?_
            refine rM_ast hC hM dX8_sends_207 ⟨by omega, by omega⟩ ?_
            refine r_vret hC hR dX8_sends_208 (le_b rfl) (le_b rfl) ?_
            refine ⟨rfl, ?_⟩
            unfold m_sends
            rw [← hg, if_neg hno, ← hq, show ((N : Int)).toNat = k by omega]
          · skip
            refine r_aload_n hC dX8_sends_159 rfl ?_
            refine r_getR (j := 0) hC dX8_sends_160 fl_X8_7 rfl rfl hM.o hM.p_row ?_
            refine r_iload hC dX8_sends_163 rfl ?_
            refine r_iconst hC dX8_sends_165 ?_
            refine r_iadd hC dX8_sends_166 ?_
            refine r_iload hC dX8_sends_167 rfl ?_
            refine r_iconst hC dX8_sends_169 ?_
            refine r_idiv hC (by first | with_reducible exact rg_mI _ _ _ | (with_reducible refine rg_of ?_ _ _; (repeat (first | assumption | with_reducible apply rf_up | with_reducible apply rf_setm | with_reducible apply rf_mI | with_reducible apply rf_begins | with_reducible apply rf_writes | with_reducible apply rf_drops | with_reducible apply rf_commitL | with_reducible apply rf_commits | with_reducible apply rf_lost | with_reducible apply rf_sweepL | with_reducible apply rf_sweep1 | with_reducible apply rf_sweeps | with_reducible apply rf_sends0 | with_reducible apply rf_sendsA | with_reducible apply rf_pack | with_reducible apply rf_sends)); done) | (with_reducible refine rg_its ?_ _ _; (repeat (first | assumption | with_reducible apply rf_up | with_reducible apply rf_setm | with_reducible apply rf_mI | with_reducible apply rf_begins | with_reducible apply rf_writes | with_reducible apply rf_drops | with_reducible apply rf_commitL | with_reducible apply rf_commits | with_reducible apply rf_lost | with_reducible apply rf_sweepL | with_reducible apply rf_sweep1 | with_reducible apply rf_sweeps | with_reducible apply rf_sends0 | with_reducible apply rf_sendsA | with_reducible apply rf_pack | with_reducible apply rf_sends)); done) | (with_reducible refine rg_way ?_ _ _; (repeat (first | assumption | with_reducible apply rf_up | with_reducible apply rf_setm | with_reducible apply rf_mI | with_reducible apply rf_begins | with_reducible apply rf_writes | with_reducible apply rf_drops | with_reducible apply rf_commitL | with_reducible apply rf_commits | with_reducible apply rf_lost | with_reducible apply rf_sweepL | with_reducible apply rf_sweep1 | with_reducible apply rf_sweeps | with_reducible apply rf_sends0 | with_reducible apply rf_sendsA | with_reducible apply rf_pack | with_reducible apply rf_sends)); done) | with_reducible exact rg_and _ _ | (with_reducible refine rg_num ?_ ⟨by omega, by omega⟩; (repeat (first | assumption | with_reducible apply rf_up | with_reducible apply rf_setm | with_reducible apply rf_mI | with_reducible apply rf_begins | with_reducible apply rf_writes | with_reducible apply rf_drops | with_reducible apply rf_commitL | with_reducible apply rf_commits | with_reducible apply rf_lost | with_reducible apply rf_sweepL | with_reducible apply rf_sweep1 | with_reducible apply rf_sweeps | with_reducible apply rf_sends0 | with_reducible apply rf_sendsA | with_reducible apply rf_pack | with_reducible apply rf_sends)); done) | (with_reducible refine rf_at ?_ _; (repeat (first | assumption | with_reducible apply rf_up | with_reducible apply rf_setm | with_reducible apply rf_mI | with_reducible apply rf_begins | with_reducible apply rf_writes | with_reducible apply rf_drops | with_reducible apply rf_commitL | with_reducible apply rf_commits | with_reducible apply rf_lost | with_reducible apply rf_sweepL | with_reducible apply rf_sweep1 | with_reducible apply rf_sweeps | with_reducible apply rf_sends0 | with_reducible apply rf_sendsA | with_reducible apply rf_pack | with_reducible apply rf_sends)); done) | exact ⟨by omega, by omega⟩) (by first | with_reducible exact rg_mI _ _ _ | (with_reducible refine rg_of ?_ _ _; (repeat (first | assumption | with_reducible apply rf_up | with_reducible apply rf_setm | with_reducible apply rf_mI | with_reducible apply rf_begins | with_reducible apply rf_writes | with_reducible apply rf_drops | with_reducible apply rf_commitL | with_reducible apply rf_commits | with_reducible apply rf_lost | with_reducible apply rf_sweepL | with_reducible apply rf_sweep1 | with_reducible apply rf_sweeps | with_reducible apply rf_sends0 | with_reducible apply rf_sendsA | with_reducible apply rf_pack | with_reducible apply rf_sends)); done) | (with_reducible refine rg_its ?_ _ _; (repeat (first | assumption | with_reducible apply rf_up | with_reducible apply rf_setm | with_reducible apply rf_mI | with_reducible apply rf_begins | with_reducible apply rf_writes | with_reducible apply rf_drops | with_reducible apply rf_commitL | with_reducible apply rf_commits | with_reducible apply rf_lost | with_reducible apply rf_sweepL | with_reducible apply rf_sweep1 | with_reducible apply rf_sweeps | with_reducible apply rf_sends0 | with_reducible apply rf_sendsA | with_reducible apply rf_pack | with_reducible apply rf_sends)); done) | (with_reducible refine rg_way ?_ _ _; (repeat (first | assumption | with_reducible apply rf_up | with_reducible apply rf_setm | with_reducible apply rf_mI | with_reducible apply rf_begins | with_reducible apply rf_writes | with_reducible apply rf_drops | with_reducible apply rf_commitL | with_reducible apply rf_commits | with_reducible apply rf_lost | with_reducible apply rf_sweepL | with_reducible apply rf_sweep1 | with_reducible apply rf_sweeps | with_reducible apply rf_sends0 | with_reducible apply rf_sendsA | with_reducible apply rf_pack | with_reducible apply rf_sends)); done) | with_reducible exact rg_and _ _ | (with_reducible refine rg_num ?_ ⟨by omega, by omega⟩; (repeat (first | assumption | with_reducible apply rf_up | with_reducible apply rf_setm | with_reducible apply rf_mI | with_reducible apply rf_begins | with_reducible apply rf_writes | with_reducible apply rf_drops | with_reducible apply rf_commitL | with_reducible apply rf_commits | with_reducible apply rf_lost | with_reducible apply rf_sweepL | with_reducible apply rf_sweep1 | with_reducible apply rf_sweeps | with_reducible apply rf_sends0 | with_reducible apply rf_sendsA | with_reducible apply rf_pack | with_reducible apply rf_sends)); done) | (with_reducible refine rf_at ?_ _; (repeat (first | assumption | with_reducible apply rf_up | with_reducible apply rf_setm | with_reducible apply rf_mI | with_reducible apply rf_begins | with_reducible apply rf_writes | with_reducible apply rf_drops | with_reducible apply rf_commitL | with_reducible apply rf_commits | with_reducible apply rf_lost | with_reducible apply rf_sweepL | with_reducible apply rf_sweep1 | with_reducible apply rf_sweeps | with_reducible apply rf_sends0 | with_reducible apply rf_sendsA | with_reducible apply rf_pack | with_reducible apply rf_sends)); done) | exact ⟨by omega, by omega⟩) (by omega) dX8_sends_170 ?_
            refine r_iadd hC dX8_sends_171 ?_
            refine r_dup2 hC dX8_sends_172 rfl rfl ?_
            refine rM_ald hC hM (by (repeat (first | assumption | with_reducible apply rf_up | with_reducible apply rf_setm | with_reducible apply rf_mI | with_reducible apply rf_begins | with_reducible apply rf_writes | with_reducible apply rf_drops | with_reducible apply rf_commitL | with_reducible apply rf_commits | with_reducible apply rf_lost | with_reducible apply rf_sweepL | with_reducible apply rf_sweep1 | with_reducible apply rf_sweeps | with_reducible apply rf_sends0 | with_reducible apply rf_sendsA | with_reducible apply rf_pack | with_reducible apply rf_sends))) dX8_sends_173 ⟨by omega, by omega⟩ ?_
            refine r_aload_n hC dX8_sends_174 rfl ?_
            refine r_getR (j := 10) hC dX8_sends_175 fl_X8_28 rfl rfl hM.o hM.p_batch ?_
            refine r_iload hC dX8_sends_178 rfl ?_
            refine rM_ald2 hC dX8_sends_180 hM.a_batch rfl ⟨by omega, by omega⟩ ?_
            refine r_bipush hC dX8_sends_181 (by rfl) ?_
            refine r_iload hC dX8_sends_183 rfl ?_
            refine r_iconst hC dX8_sends_185 ?_
            refine r_irem hC (by first | with_reducible exact rg_mI _ _ _ | (with_reducible refine rg_of ?_ _ _; (repeat (first | assumption | with_reducible apply rf_up | with_reducible apply rf_setm | with_reducible apply rf_mI | with_reducible apply rf_begins | with_reducible apply rf_writes | with_reducible apply rf_drops | with_reducible apply rf_commitL | with_reducible apply rf_commits | with_reducible apply rf_lost | with_reducible apply rf_sweepL | with_reducible apply rf_sweep1 | with_reducible apply rf_sweeps | with_reducible apply rf_sends0 | with_reducible apply rf_sendsA | with_reducible apply rf_pack | with_reducible apply rf_sends)); done) | (with_reducible refine rg_its ?_ _ _; (repeat (first | assumption | with_reducible apply rf_up | with_reducible apply rf_setm | with_reducible apply rf_mI | with_reducible apply rf_begins | with_reducible apply rf_writes | with_reducible apply rf_drops | with_reducible apply rf_commitL | with_reducible apply rf_commits | with_reducible apply rf_lost | with_reducible apply rf_sweepL | with_reducible apply rf_sweep1 | with_reducible apply rf_sweeps | with_reducible apply rf_sends0 | with_reducible apply rf_sendsA | with_reducible apply rf_pack | with_reducible apply rf_sends)); done) | (with_reducible refine rg_way ?_ _ _; (repeat (first | assumption | with_reducible apply rf_up | with_reducible apply rf_setm | with_reducible apply rf_mI | with_reducible apply rf_begins | with_reducible apply rf_writes | with_reducible apply rf_drops | with_reducible apply rf_commitL | with_reducible apply rf_commits | with_reducible apply rf_lost | with_reducible apply rf_sweepL | with_reducible apply rf_sweep1 | with_reducible apply rf_sweeps | with_reducible apply rf_sends0 | with_reducible apply rf_sendsA | with_reducible apply rf_pack | with_reducible apply rf_sends)); done) | with_reducible exact rg_and _ _ | (with_reducible refine rg_num ?_ ⟨by omega, by omega⟩; (repeat (first | assumption | with_reducible apply rf_up | with_reducible apply rf_setm | with_reducible apply rf_mI | with_reducible apply rf_begins | with_reducible apply rf_writes | with_reducible apply rf_drops | with_reducible apply rf_commitL | with_reducible apply rf_commits | with_reducible apply rf_lost | with_reducible apply rf_sweepL | with_reducible apply rf_sweep1 | with_reducible apply rf_sweeps | with_reducible apply rf_sends0 | with_reducible apply rf_sendsA | with_reducible apply rf_pack | with_reducible apply rf_sends)); done) | (with_reducible refine rf_at ?_ _; (repeat (first | assumption | with_reducible apply rf_up | with_reducible apply rf_setm | with_reducible apply rf_mI | with_reducible apply rf_begins | with_reducible apply rf_writes | with_reducible apply rf_drops | with_reducible apply rf_commitL | with_reducible apply rf_commits | with_reducible apply rf_lost | with_reducible apply rf_sweepL | with_reducible apply rf_sweep1 | with_reducible apply rf_sweeps | with_reducible apply rf_sends0 | with_reducible apply rf_sendsA | with_reducible apply rf_pack | with_reducible apply rf_sends)); done) | exact ⟨by omega, by omega⟩) (by first | with_reducible exact rg_mI _ _ _ | (with_reducible refine rg_of ?_ _ _; (repeat (first | assumption | with_reducible apply rf_up | with_reducible apply rf_setm | with_reducible apply rf_mI | with_reducible apply rf_begins | with_reducible apply rf_writes | with_reducible apply rf_drops | with_reducible apply rf_commitL | with_reducible apply rf_commits | with_reducible apply rf_lost | with_reducible apply rf_sweepL | with_reducible apply rf_sweep1 | with_reducible apply rf_sweeps | with_reducible apply rf_sends0 | with_reducible apply rf_sendsA | with_reducible apply rf_pack | with_reducible apply rf_sends)); done) | (with_reducible refine rg_its ?_ _ _; (repeat (first | assumption | with_reducible apply rf_up | with_reducible apply rf_setm | with_reducible apply rf_mI | with_reducible apply rf_begins | with_reducible apply rf_writes | with_reducible apply rf_drops | with_reducible apply rf_commitL | with_reducible apply rf_commits | with_reducible apply rf_lost | with_reducible apply rf_sweepL | with_reducible apply rf_sweep1 | with_reducible apply rf_sweeps | with_reducible apply rf_sends0 | with_reducible apply rf_sendsA | with_reducible apply rf_pack | with_reducible apply rf_sends)); done) | (with_reducible refine rg_way ?_ _ _; (repeat (first | assumption | with_reducible apply rf_up | with_reducible apply rf_setm | with_reducible apply rf_mI | with_reducible apply rf_begins | with_reducible apply rf_writes | with_reducible apply rf_drops | with_reducible apply rf_commitL | with_reducible apply rf_commits | with_reducible apply rf_lost | with_reducible apply rf_sweepL | with_reducible apply rf_sweep1 | with_reducible apply rf_sweeps | with_reducible apply rf_sends0 | with_reducible apply rf_sendsA | with_reducible apply rf_pack | with_reducible apply rf_sends)); done) | with_reducible exact rg_and _ _ | (with_reducible refine rg_num ?_ ⟨by omega, by omega⟩; (repeat (first | assumption | with_reducible apply rf_up | with_reducible apply rf_setm | with_reducible apply rf_mI | with_reducible apply rf_begins | with_reducible apply rf_writes | with_reducible apply rf_drops | with_reducible apply rf_commitL | with_reducible apply rf_commits | with_reducible apply rf_lost | with_reducible apply rf_sweepL | with_reducible apply rf_sweep1 | with_reducible apply rf_sweeps | with_reducible apply rf_sends0 | with_reducible apply rf_sendsA | with_reducible apply rf_pack | with_reducible apply rf_sends)); done) | (with_reducible refine rf_at ?_ _; (repeat (first | assumption | with_reducible apply rf_up | with_reducible apply rf_setm | with_reducible apply rf_mI | with_reducible apply rf_begins | with_reducible apply rf_writes | with_reducible apply rf_drops | with_reducible apply rf_commitL | with_reducible apply rf_commits | with_reducible apply rf_lost | with_reducible apply rf_sweepL | with_reducible apply rf_sweep1 | with_reducible apply rf_sweeps | with_reducible apply rf_sends0 | with_reducible apply rf_sendsA | with_reducible apply rf_pack | with_reducible apply rf_sends)); done) | exact ⟨by omega, by omega⟩) (by omega) dX8_sends_186 ?_
            refine r_imul hC dX8_sends_187 ?_
            refine r_ishl hC dX8_sends_188 ?_
            refine r_ior hC dX8_sends_189 ?_
            refine rM_ast hC hM dX8_sends_190 ⟨by omega, by omega⟩ ?_
            refine r_iinc (lv' := [_, _, _, _, _, _, _]) hC dX8_sends_191 rfl (lt_b rfl) rfl (lt_b rfl) rfl ?_
            refine r_goto (t := 153) hC dX8_sends_194 (by rfl) ?_
            exact ih _ (by omega) (k + 1) rfl (by omega)
      refine vw_mem ?_ (lp _ 0 rfl (by omega))
      rw [hq]; rfl
    · skip
      refine r_aload_n hC dX8_sends_37 rfl ?_
      refine r_getR (j := 0) hC dX8_sends_38 fl_X8_7 rfl rfl hM.o hM.p_row ?_
      refine r_iconst hC dX8_sends_41 ?_
      refine r_dup2 hC dX8_sends_42 rfl rfl ?_
      refine rM_ald hC hM (by (repeat (first | assumption | with_reducible apply rf_up | with_reducible apply rf_setm | with_reducible apply rf_mI | with_reducible apply rf_begins | with_reducible apply rf_writes | with_reducible apply rf_drops | with_reducible apply rf_commitL | with_reducible apply rf_commits | with_reducible apply rf_lost | with_reducible apply rf_sweepL | with_reducible apply rf_sweep1 | with_reducible apply rf_sweeps | with_reducible apply rf_sends0 | with_reducible apply rf_sendsA | with_reducible apply rf_pack | with_reducible apply rf_sends))) dX8_sends_43 ⟨by omega, by omega⟩ ?_
      refine r_iconst hC dX8_sends_44 ?_
      refine r_iadd hC dX8_sends_45 ?_
      refine rM_ast hC hM dX8_sends_46 ⟨by omega, by omega⟩ ?_
      refine r_vret hC hR dX8_sends_47 (le_b rfl) (le_b rfl) ?_
      refine ⟨rfl, ?_⟩
      unfold m_sends
      rw [← hg, if_pos ⟨h_17, h_34⟩]

def m_mem (r : RW) (c n : Int) : Nat → Bool
  | 0 => false
  | k + 1 => m_mem r c n k || decide (m_of r c (13 + k) = n)
abbrev rmX8_remembers : Room := { frames := 1, cells := 0, slots := 0, locals := 22 }
set_option maxRecDepth 100000 in
theorem k_remembers {l : Launch} {D : DD} (hfl : l.stackTraces = false) {u : Mem} {m : Nat} (hM : MO u m) {f : RW} (hf : RF f) {c x : Int} (hc : 0 ≤ c ∧ c < 3) (hx : rg x) (hk2 : 0 ≤ m_of f c 2 ∧ m_of f c 2 ≤ 24) : CT l D yX8_remembers cX8_remembers 5 (some .boolean) rmX8_remembers [xA m, xI c, xI x] (sA u (m + 1) f) (RT (xI (bI (m_mem f c x (m_of f c 2).toNat = true))) (sA u (m + 1) f)) := by
  refine CT.of hfl (by decide) (le_b rfl) ?_
  intro C hC hR hL hDD hN
  have hfC : (cxL C).stackTraces = false := by rw [hL]; exact hfl
  have lp : ∀ (n : Nat) (k : Nat) (b : Int), ((m_of f c 2 - k).toNat = n) → ((k : Int) ≤ m_of f c 2) → (b = bI (m_mem f c x k = true)) → VW C 5 [some (xA m), some (xI c), some (xI x), some (xI b), some (xI k)] [] (sA u (m + 1) f) 0 0 := by
    intro n
    induction n using Nat.strongRecOn with
    | _ n ih =>
      intro k b hn hk hb
      refine r_iload hC dX8_remembers_5 rfl ?_
      refine r_aload_n hC dX8_remembers_7 rfl ?_
      refine r_iload_n hC dX8_remembers_8 rfl ?_
      refine r_iconst hC dX8_remembers_9 ?_
      refine rM_V0 hC hM dX8_remembers_10 mi_X8_of se_X8_of ml_X8_58 (rm := rmX8_of) rfl rfl rfl rfl ⟨le_b rfl, le_b rfl⟩ (k_of hfC hM hf ⟨by omega, by omega⟩) ?_ rfl
      refine r_icmp_ge (t := 46) hC dX8_remembers_13 (by rfl) (by first | with_reducible exact rg_mI _ _ _ | (with_reducible refine rg_of ?_ _ _; (repeat (first | assumption | with_reducible apply rf_up | with_reducible apply rf_setm | with_reducible apply rf_mI | with_reducible apply rf_begins | with_reducible apply rf_writes | with_reducible apply rf_drops | with_reducible apply rf_commitL | with_reducible apply rf_commits | with_reducible apply rf_lost | with_reducible apply rf_sweepL | with_reducible apply rf_sweep1 | with_reducible apply rf_sweeps | with_reducible apply rf_sends0 | with_reducible apply rf_sendsA | with_reducible apply rf_pack | with_reducible apply rf_sends)); done) | (with_reducible refine rg_its ?_ _ _; (repeat (first | assumption | with_reducible apply rf_up | with_reducible apply rf_setm | with_reducible apply rf_mI | with_reducible apply rf_begins | with_reducible apply rf_writes | with_reducible apply rf_drops | with_reducible apply rf_commitL | with_reducible apply rf_commits | with_reducible apply rf_lost | with_reducible apply rf_sweepL | with_reducible apply rf_sweep1 | with_reducible apply rf_sweeps | with_reducible apply rf_sends0 | with_reducible apply rf_sendsA | with_reducible apply rf_pack | with_reducible apply rf_sends)); done) | (with_reducible refine rg_way ?_ _ _; (repeat (first | assumption | with_reducible apply rf_up | with_reducible apply rf_setm | with_reducible apply rf_mI | with_reducible apply rf_begins | with_reducible apply rf_writes | with_reducible apply rf_drops | with_reducible apply rf_commitL | with_reducible apply rf_commits | with_reducible apply rf_lost | with_reducible apply rf_sweepL | with_reducible apply rf_sweep1 | with_reducible apply rf_sweeps | with_reducible apply rf_sends0 | with_reducible apply rf_sendsA | with_reducible apply rf_pack | with_reducible apply rf_sends)); done) | with_reducible exact rg_and _ _ | (with_reducible refine rg_num ?_ ⟨by omega, by omega⟩; (repeat (first | assumption | with_reducible apply rf_up | with_reducible apply rf_setm | with_reducible apply rf_mI | with_reducible apply rf_begins | with_reducible apply rf_writes | with_reducible apply rf_drops | with_reducible apply rf_commitL | with_reducible apply rf_commits | with_reducible apply rf_lost | with_reducible apply rf_sweepL | with_reducible apply rf_sweep1 | with_reducible apply rf_sweeps | with_reducible apply rf_sends0 | with_reducible apply rf_sendsA | with_reducible apply rf_pack | with_reducible apply rf_sends)); done) | (with_reducible refine rf_at ?_ _; (repeat (first | assumption | with_reducible apply rf_up | with_reducible apply rf_setm | with_reducible apply rf_mI | with_reducible apply rf_begins | with_reducible apply rf_writes | with_reducible apply rf_drops | with_reducible apply rf_commitL | with_reducible apply rf_commits | with_reducible apply rf_lost | with_reducible apply rf_sweepL | with_reducible apply rf_sweep1 | with_reducible apply rf_sweeps | with_reducible apply rf_sends0 | with_reducible apply rf_sendsA | with_reducible apply rf_pack | with_reducible apply rf_sends)); done) | exact ⟨by omega, by omega⟩) (by first | with_reducible exact rg_mI _ _ _ | (with_reducible refine rg_of ?_ _ _; (repeat (first | assumption | with_reducible apply rf_up | with_reducible apply rf_setm | with_reducible apply rf_mI | with_reducible apply rf_begins | with_reducible apply rf_writes | with_reducible apply rf_drops | with_reducible apply rf_commitL | with_reducible apply rf_commits | with_reducible apply rf_lost | with_reducible apply rf_sweepL | with_reducible apply rf_sweep1 | with_reducible apply rf_sweeps | with_reducible apply rf_sends0 | with_reducible apply rf_sendsA | with_reducible apply rf_pack | with_reducible apply rf_sends)); done) | (with_reducible refine rg_its ?_ _ _; (repeat (first | assumption | with_reducible apply rf_up | with_reducible apply rf_setm | with_reducible apply rf_mI | with_reducible apply rf_begins | with_reducible apply rf_writes | with_reducible apply rf_drops | with_reducible apply rf_commitL | with_reducible apply rf_commits | with_reducible apply rf_lost | with_reducible apply rf_sweepL | with_reducible apply rf_sweep1 | with_reducible apply rf_sweeps | with_reducible apply rf_sends0 | with_reducible apply rf_sendsA | with_reducible apply rf_pack | with_reducible apply rf_sends)); done) | (with_reducible refine rg_way ?_ _ _; (repeat (first | assumption | with_reducible apply rf_up | with_reducible apply rf_setm | with_reducible apply rf_mI | with_reducible apply rf_begins | with_reducible apply rf_writes | with_reducible apply rf_drops | with_reducible apply rf_commitL | with_reducible apply rf_commits | with_reducible apply rf_lost | with_reducible apply rf_sweepL | with_reducible apply rf_sweep1 | with_reducible apply rf_sweeps | with_reducible apply rf_sends0 | with_reducible apply rf_sendsA | with_reducible apply rf_pack | with_reducible apply rf_sends)); done) | with_reducible exact rg_and _ _ | (with_reducible refine rg_num ?_ ⟨by omega, by omega⟩; (repeat (first | assumption | with_reducible apply rf_up | with_reducible apply rf_setm | with_reducible apply rf_mI | with_reducible apply rf_begins | with_reducible apply rf_writes | with_reducible apply rf_drops | with_reducible apply rf_commitL | with_reducible apply rf_commits | with_reducible apply rf_lost | with_reducible apply rf_sweepL | with_reducible apply rf_sweep1 | with_reducible apply rf_sweeps | with_reducible apply rf_sends0 | with_reducible apply rf_sendsA | with_reducible apply rf_pack | with_reducible apply rf_sends)); done) | (with_reducible refine rf_at ?_ _; (repeat (first | assumption | with_reducible apply rf_up | with_reducible apply rf_setm | with_reducible apply rf_mI | with_reducible apply rf_begins | with_reducible apply rf_writes | with_reducible apply rf_drops | with_reducible apply rf_commitL | with_reducible apply rf_commits | with_reducible apply rf_lost | with_reducible apply rf_sweepL | with_reducible apply rf_sweep1 | with_reducible apply rf_sweeps | with_reducible apply rf_sends0 | with_reducible apply rf_sendsA | with_reducible apply rf_pack | with_reducible apply rf_sends)); done) | exact ⟨by omega, by omega⟩) (fun h_13 => ?_) (fun h_13 => ?_)
      · skip
        refine r_iload_n hC dX8_remembers_46 rfl ?_
        refine r_zret hC hR dX8_remembers_47 (by rw [hb]; unfold bI; split <;> simp) (le_b rfl) (le_b rfl) ?_
        refine ⟨congrArg (fun i => some (xI i)) ?_, rfl⟩
        rw [hb, show (m_of f c 2).toNat = k by omega]
      · skip
        refine r_iload_n hC dX8_remembers_16 rfl ?_
        refine r_if_ne (t := 34) hC dX8_remembers_17 (by rfl) (by rw [hb]; exact rg_bI _) (fun h_17 => ?_) (fun h_17 => ?_)
        · skip
          refine r_iconst hC dX8_remembers_34 ?_
          refine r_goto (t := 39) hC dX8_remembers_35 (by rfl) ?_
          refine r_istore_n (lv' := [_, _, _, _, _]) hC dX8_remembers_39 (lt_b rfl) rfl (lt_b rfl) rfl ?_
          refine r_iinc (lv' := [_, _, _, _, _]) hC dX8_remembers_40 rfl (lt_b rfl) rfl (lt_b rfl) rfl ?_
          refine r_goto (t := 5) hC dX8_remembers_43 (by rfl) ?_
          exact ih _ (by omega) (k + 1) _ rfl (by omega) (by simp_all [m_mem, bI])
        · skip
          refine r_aload_n hC dX8_remembers_20 rfl ?_
          refine r_iload_n hC dX8_remembers_21 rfl ?_
          refine r_bipush hC dX8_remembers_22 (by rfl) ?_
          refine r_iload hC dX8_remembers_24 rfl ?_
          refine r_iadd hC dX8_remembers_26 ?_
          refine rM_V0 hC hM dX8_remembers_27 mi_X8_of se_X8_of ml_X8_58 (rm := rmX8_of) rfl rfl rfl rfl ⟨le_b rfl, le_b rfl⟩ (k_of hfC hM hf ⟨by omega, by omega⟩) ?_ rfl
          refine r_iload_n hC dX8_remembers_30 rfl ?_
          refine r_icmp_ne (t := 38) hC dX8_remembers_31 (by rfl) (by first | with_reducible exact rg_mI _ _ _ | (with_reducible refine rg_of ?_ _ _; (repeat (first | assumption | with_reducible apply rf_up | with_reducible apply rf_setm | with_reducible apply rf_mI | with_reducible apply rf_begins | with_reducible apply rf_writes | with_reducible apply rf_drops | with_reducible apply rf_commitL | with_reducible apply rf_commits | with_reducible apply rf_lost | with_reducible apply rf_sweepL | with_reducible apply rf_sweep1 | with_reducible apply rf_sweeps | with_reducible apply rf_sends0 | with_reducible apply rf_sendsA | with_reducible apply rf_pack | with_reducible apply rf_sends)); done) | (with_reducible refine rg_its ?_ _ _; (repeat (first | assumption | with_reducible apply rf_up | with_reducible apply rf_setm | with_reducible apply rf_mI | with_reducible apply rf_begins | with_reducible apply rf_writes | with_reducible apply rf_drops | with_reducible apply rf_commitL | with_reducible apply rf_commits | with_reducible apply rf_lost | with_reducible apply rf_sweepL | with_reducible apply rf_sweep1 | with_reducible apply rf_sweeps | with_reducible apply rf_sends0 | with_reducible apply rf_sendsA | with_reducible apply rf_pack | with_reducible apply rf_sends)); done) | (with_reducible refine rg_way ?_ _ _; (repeat (first | assumption | with_reducible apply rf_up | with_reducible apply rf_setm | with_reducible apply rf_mI | with_reducible apply rf_begins | with_reducible apply rf_writes | with_reducible apply rf_drops | with_reducible apply rf_commitL | with_reducible apply rf_commits | with_reducible apply rf_lost | with_reducible apply rf_sweepL | with_reducible apply rf_sweep1 | with_reducible apply rf_sweeps | with_reducible apply rf_sends0 | with_reducible apply rf_sendsA | with_reducible apply rf_pack | with_reducible apply rf_sends)); done) | with_reducible exact rg_and _ _ | (with_reducible refine rg_num ?_ ⟨by omega, by omega⟩; (repeat (first | assumption | with_reducible apply rf_up | with_reducible apply rf_setm | with_reducible apply rf_mI | with_reducible apply rf_begins | with_reducible apply rf_writes | with_reducible apply rf_drops | with_reducible apply rf_commitL | with_reducible apply rf_commits | with_reducible apply rf_lost | with_reducible apply rf_sweepL | with_reducible apply rf_sweep1 | with_reducible apply rf_sweeps | with_reducible apply rf_sends0 | with_reducible apply rf_sendsA | with_reducible apply rf_pack | with_reducible apply rf_sends)); done) | (with_reducible refine rf_at ?_ _; (repeat (first | assumption | with_reducible apply rf_up | with_reducible apply rf_setm | with_reducible apply rf_mI | with_reducible apply rf_begins | with_reducible apply rf_writes | with_reducible apply rf_drops | with_reducible apply rf_commitL | with_reducible apply rf_commits | with_reducible apply rf_lost | with_reducible apply rf_sweepL | with_reducible apply rf_sweep1 | with_reducible apply rf_sweeps | with_reducible apply rf_sends0 | with_reducible apply rf_sendsA | with_reducible apply rf_pack | with_reducible apply rf_sends)); done) | exact ⟨by omega, by omega⟩) hx (fun h_31 => ?_) (fun h_31 => ?_)
          · skip
            refine r_iconst hC dX8_remembers_38 ?_
            refine r_istore_n (lv' := [_, _, _, _, _]) hC dX8_remembers_39 (lt_b rfl) rfl (lt_b rfl) rfl ?_
            refine r_iinc (lv' := [_, _, _, _, _]) hC dX8_remembers_40 rfl (lt_b rfl) rfl (lt_b rfl) rfl ?_
            refine r_goto (t := 5) hC dX8_remembers_43 (by rfl) ?_
            exact ih _ (by omega) (k + 1) _ rfl (by omega) (by simp_all [m_mem, bI])
          · skip
            refine r_iconst hC dX8_remembers_34 ?_
            refine r_goto (t := 39) hC dX8_remembers_35 (by rfl) ?_
            refine r_istore_n (lv' := [_, _, _, _, _]) hC dX8_remembers_39 (lt_b rfl) rfl (lt_b rfl) rfl ?_
            refine r_iinc (lv' := [_, _, _, _, _]) hC dX8_remembers_40 rfl (lt_b rfl) rfl (lt_b rfl) rfl ?_
            refine r_goto (t := 5) hC dX8_remembers_43 (by rfl) ?_
            exact ih _ (by omega) (k + 1) _ rfl (by omega) (by simp_all [m_mem, bI])
  show VW C 0 [some (xA m), some (xI c), some (xI x), none, none] [] (sA u (m + 1) f) 0 0
  refine r_iconst hC dX8_remembers_0 ?_
  refine r_istore_n (lv' := [_, _, _, _, _]) hC dX8_remembers_1 (lt_b rfl) rfl (lt_b rfl) rfl ?_
  refine r_iconst hC dX8_remembers_2 ?_
  refine r_istore (lv' := [_, _, _, _, _]) hC dX8_remembers_3 (lt_b rfl) rfl (lt_b rfl) rfl ?_
  exact lp _ 0 _ rfl (by omega) rfl

