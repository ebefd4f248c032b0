def m_does (f B N : RW) (k : Int) : RW × RW := if k = 98 then (if m_free f = -1 then f else m_begins f, B) else if k = 119 then (m_writes f (N 0) (N 1) (N 2), B) else if k = 99 then (m_commits f (N 0), B) else if k = 100 then (m_drops f (N 0), B) else if k = 116 then m_pass f B (N 0).toNat else (m_sweeps f, B)
def m_doesC (f B N : RW) (k : Int) : Int := if k = 98 then (if m_free f = -1 then -11 else m_free f) else if k = 119 then m_writesC f (N 0) (N 1) (N 2) else if k = 99 then m_commitsC f (N 0) else if k = 100 then m_dropsC f (N 0) else if k = 116 then m_eff (m_pass f B (N 0).toNat).1 - m_eff f else m_sweepsC f
def DoesOK (f B N : RW) (k : Int) : Prop := (0 ≤ f 2 ∧ f 2 ≤ 200) ∧ (0 ≤ f 3 ∧ f 3 ≤ f 2) ∧ (∀ p, m_open f p = true → 0 ≤ m_its f p 1 ∧ m_its f p 1 ≤ 6) ∧ (k = 116 → 1 ≤ N 0 ∧ N 0 ≤ 99 ∧ PassOK f B (N 0).toNat)
theorem pM_comm (u : Mem) (m : Nat) (a : Int) (N B : RW) : sA (pM u m a N) (m + 7) B = pM (sA u (m + 7) B) m a N := by
  unfold pM
  rw [← sI_sA_comm (sA u (m + 6) N) B 8 a (by omega), sA_comm u N B (by omega)]
abbrev rmX8_does : Room := { frames := 7, cells := 0, slots := 0, locals := 158 }
set_option maxRecDepth 100000 in
theorem k_does {l : Launch} {D : DD} (hfl : l.stackTraces = false) {u : Mem} {m : Nat} (hM : MO u m) {f : RW} (hf : RF f) {a : Int} {N : RW} (hn1 : RF N) {k : Int} (hk : rg k) (hd : DoesOK f (mI u (m + 7)) N k) : CT l D yX8_does cX8_does 2 (some .int) rmX8_does [xA m, xI k] (sA (pM u m a N) (m + 1) f) (RT (xI (m_doesC f (mI u (m + 7)) N k)) (sA (pM (sA u (m + 7) (m_does f (mI u (m + 7)) N k).2) m a N) (m + 1) (m_does f (mI u (m + 7)) N k).1)) := by
  refine CT.of hfl (by decide) (le_b rfl) ?_
  intro C hC hR hL hDD hN
  have hfC : (cxL C).stackTraces = false := by rw [hL]; exact hfl
  obtain ⟨B, hB⟩ : ∃ z, z = mI u (m + 7) := ⟨_, rfl⟩
  have rB : RF B := by rw [hB]; exact rf_mI _ _
  rw [← hB] at hd hR
  show VW C 0 [some (xA m), some (xI k)] [] (sA (pM u m a N) (m + 1) f) 0 0
  refine r_iload_n hC dX8_does_0 rfl ?_
  refine r_lk5 (td := 113) (t0 := 52) (t1 := 80) (t2 := 91) (t3 := 102) (t4 := 57) hC dX8_does_1 (by decide) hk (by rfl) (by rfl) (by rfl) (by rfl) (by rfl) (by rfl) ?_ ?_ ?_ ?_ ?_ ?_
  · intro s_1
    refine r_aload_n hC dX8_does_52 rfl ?_
    refine rM_V0 hC (hM.pM _ _) dX8_does_53 mi_X8_begins se_X8_begins ml_X8_148 (rm := rmX8_begins) rfl rfl rfl rfl ⟨le_b rfl, le_b rfl⟩ (k_begins hfC (hM.pM _ _) hf) ?_ rfl
    refine r_iret hC hR dX8_does_56 (le_b rfl) (le_b rfl) ?_
    unfold m_does m_doesC
    rw [if_pos s_1, if_pos s_1]
    exact ⟨rfl, by show _ = sA (pM (sA u (m + 7) B) m a N) (m + 1) _; rw [hB, sA_mI]⟩
  · intro s_1
    refine r_aload_n hC dX8_does_80 rfl ?_
    refine r_aload_n hC dX8_does_81 rfl ?_
    refine r_getR (j := 9) hC dX8_does_82 fl_X8_25 rfl rfl hM.o hM.p_numbers ?_
    refine r_iconst hC dX8_does_85 ?_
    refine rP_num hC hM hn1 dX8_does_86 ⟨by omega, by omega⟩ ?_
    refine rM_V0 hC (hM.pM _ _) dX8_does_87 mi_X8_commits se_X8_commits ml_X8_155 (rm := rmX8_commits) rfl rfl rfl rfl ⟨le_b rfl, le_b rfl⟩ (k_commits hfC (hM.pM _ _) hf hd.1 hd.2.1 (hn1 _) (hd.2.2.1 _)) ?_ rfl
    refine r_iret hC hR dX8_does_90 (le_b rfl) (le_b rfl) ?_
    unfold m_does m_doesC
    rw [if_neg (by omega), if_neg (by omega), if_pos s_1, if_neg (by omega), if_neg (by omega), if_pos s_1]
    exact ⟨rfl, by show _ = sA (pM (sA u (m + 7) B) m a N) (m + 1) _; rw [hB, sA_mI]⟩
  · intro s_1
    refine r_aload_n hC dX8_does_91 rfl ?_
    refine r_aload_n hC dX8_does_92 rfl ?_
    refine r_getR (j := 9) hC dX8_does_93 fl_X8_25 rfl rfl hM.o hM.p_numbers ?_
    refine r_iconst hC dX8_does_96 ?_
    refine rP_num hC hM hn1 dX8_does_97 ⟨by omega, by omega⟩ ?_
    refine rM_V0 hC (hM.pM _ _) dX8_does_98 mi_X8_drops se_X8_drops ml_X8_158 (rm := rmX8_drops) rfl rfl rfl rfl ⟨le_b rfl, le_b rfl⟩ (k_drops hfC (hM.pM _ _) hf (hn1 _)) ?_ rfl
    refine r_iret hC hR dX8_does_101 (le_b rfl) (le_b rfl) ?_
    unfold m_does m_doesC
    rw [if_neg (by omega), if_neg (by omega), if_neg (by omega), if_pos s_1, if_neg (by omega), if_neg (by omega), if_neg (by omega), if_pos s_1]
    exact ⟨rfl, by show _ = sA (pM (sA u (m + 7) B) m a N) (m + 1) _; rw [hB, sA_mI]⟩
  · intro s_1
    refine r_aload_n hC dX8_does_102 rfl ?_
    refine r_aload_n hC dX8_does_103 rfl ?_
    refine r_getR (j := 9) hC dX8_does_104 fl_X8_25 rfl rfl hM.o hM.p_numbers ?_
    refine r_iconst hC dX8_does_107 ?_
    refine rP_num hC hM hn1 dX8_does_108 ⟨by omega, by omega⟩ ?_
    obtain ⟨h1, h99, hps⟩ := hd.2.2.2 s_1
    obtain ⟨T, hT⟩ : ∃ T : Nat, N 0 = T := ⟨(N 0).toNat, by omega⟩
    rw [hT] at hps h99 ⊢
    rw [show ((T : Int)).toNat = T by omega] at hps
    refine vw_mem (u' := sA (sA (pM u m a N) (m + 7) B) (m + 1) f) (by rw [hB, ← pM_arr (u := u) (a := a) (N := N) (show m + 7 ≠ m by omega) (show m + 7 ≠ m + 6 by omega), sA_mI]) ?_
    refine rM_V0 hC ((hM.pM _ _).sA _ _) dX8_does_109 mi_X8_passes se_X8_passes ml_X8_161 (rm := rmX8_passes) rfl rfl rfl rfl ⟨le_b rfl, le_b rfl⟩ (k_passes hfC (hM.pM a N) hf rB (by omega) hps) ?_ rfl
    refine r_iret hC hR dX8_does_112 (le_b rfl) (le_b rfl) ?_
    unfold m_does m_doesC
    rw [if_neg (by omega), if_neg (by omega), if_neg (by omega), if_neg (by omega), if_pos s_1, if_neg (by omega), if_neg (by omega), if_neg (by omega), if_neg (by omega), if_pos s_1, hT, show ((T : Int)).toNat = T by omega]
    exact ⟨rfl, by rw [pM_comm]⟩
  · intro s_1
    refine r_aload_n hC dX8_does_57 rfl ?_
    refine r_aload_n hC dX8_does_58 rfl ?_
    refine r_getR (j := 9) hC dX8_does_59 fl_X8_25 rfl rfl hM.o hM.p_numbers ?_
    refine r_iconst hC dX8_does_62 ?_
    refine rP_num hC hM hn1 dX8_does_63 ⟨by omega, by omega⟩ ?_
    refine r_aload_n hC dX8_does_64 rfl ?_
    refine r_getR (j := 9) hC dX8_does_65 fl_X8_25 rfl rfl hM.o hM.p_numbers ?_
    refine r_iconst hC dX8_does_68 ?_
    refine rP_num hC hM hn1 dX8_does_69 ⟨by omega, by omega⟩ ?_
    refine r_aload_n hC dX8_does_70 rfl ?_
    refine r_getR (j := 9) hC dX8_does_71 fl_X8_25 rfl rfl hM.o hM.p_numbers ?_
    refine r_iconst hC dX8_does_74 ?_
    refine rP_num hC hM hn1 dX8_does_75 ⟨by omega, by omega⟩ ?_
    refine rM_V0 hC (hM.pM _ _) dX8_does_76 mi_X8_writes se_X8_writes ml_X8_151 (rm := rmX8_writes) rfl rfl rfl rfl ⟨le_b rfl, le_b rfl⟩ (k_writes hfC (hM.pM _ _) hf (hn1 _) (hn1 _) (hn1 _) (hd.2.2.1 _)) ?_ rfl
    refine r_iret hC hR dX8_does_79 (le_b rfl) (le_b rfl) ?_
    unfold m_does m_doesC
    rw [if_neg (by omega), if_pos s_1, if_neg (by omega), if_pos s_1]
    exact ⟨rfl, by show _ = sA (pM (sA u (m + 7) B) m a N) (m + 1) _; rw [hB, sA_mI]⟩
  · intro n0_1 n1_1 n2_1 n3_1 n4_1
    refine r_aload_n hC dX8_does_113 rfl ?_
    refine rM_V0 hC (hM.pM _ _) dX8_does_114 mi_X8_sweeps se_X8_sweeps ml_X8_167 (rm := rmX8_sweeps) rfl rfl rfl rfl ⟨le_b rfl, le_b rfl⟩ (k_sweeps hfC (hM.pM _ _) hf hd.1) ?_ rfl
    refine r_iret hC hR dX8_does_117 (le_b rfl) (le_b rfl) ?_
    unfold m_does m_doesC
    rw [if_neg (by omega), if_neg (by omega), if_neg (by omega), if_neg (by omega), if_neg (by omega), if_neg (by omega), if_neg (by omega), if_neg (by omega), if_neg (by omega), if_neg (by omega)]
    exact ⟨rfl, by show _ = sA (pM (sA u (m + 7) B) m a N) (m + 1) _; rw [hB, sA_mI]⟩

