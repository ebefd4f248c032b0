/-! ===== the relay's digest ===== -/
theorem good_D {f : RW} {T : Int} (h : Inv f T) : Dn (m_good f) := by
  have h4 := h.co.2.2.2.2.2.1
  have h5 := h.co.2.2.2.2.1
  have h9 := h.co.2.2.2.1
  have h4r := rf_at h.rf 4
  unfold m_good
  by_cases z : f 4 = 0
  · rw [if_pos z]; exact Or.inr ⟨1023, 0, one_d, ⟨by decide, by decide⟩, by decide⟩
  · rw [if_neg z]; exact good_sh ⟨by omega, by have := h4r.2; omega⟩ ⟨by omega, h4r.2⟩
theorem mean_F {f : RW} {T : Int} (h : Inv f T) : Fn32 (m_mean f) := by
  have h6 := h.co.2.2.2.2.2.2.1
  have h8 := h.co.2.2.2.2.2.2.2.1
  have h6r := rf_at h.rf 6
  have h8r := rf_at h.rf 8
  unfold m_mean
  by_cases z : f 6 = 0
  · rw [if_pos z]; exact Or.inl rfl
  · rw [if_neg z]; exact mean_sh ⟨by omega, h8r.2⟩ ⟨by omega, h6r.2⟩
theorem hx_0 (h : Int64) : hx h 0 = 31 * h + 0 := rfl
theorem hx_1 (h : Int64) : hx h 1 = 31 * h + 1 := by
  unfold hx
  rw [show i2j 1 = 1 from by decide]
abbrev rmX7_digest : Room := { frames := 7, cells := 292, slots := 4640, locals := 153 }
set_option maxRecDepth 100000 in
theorem k_Rl_digest {l : Launch} {D : DD} (hfl : l.stackTraces = false) {u : Mem} {x : Nat} {f : RW} {s : Int} {P : RW} {kp : Int} {K : RW} {T : Int} (hX0 : RX u x f s P kp K T) (hst : Sta D u x) (hT : T + 300 ≤ 2000000) {b : RW} {n : Nat} (htx : RXt u x b n) (hn : n ≤ 60) : CT l D yX7_digest cX7_digest 4 (some .long) rmX7_digest [xA x] u (fun o v => o = some (xJ (m_dig5 b n (m_dig4 f kp (gN (m_hMsg f) (f 9).toNat (m_dig2 f (m_dig1 f s)))))) ∧ RX v x f s P kp K T ∧ Kp u v x ∧ TxS u v x) := by
  refine CT.of hfl (by decide) (le_b rfl) ?_
  intro C hC hR hL hDD hN
  have hfC : (cxL C).stackTraces = false := by rw [hL]; exact hfl
  show VW C 0 [some (xA x), none, none, none] [] u 0 0
  obtain ⟨g1, hg1⟩ : ∃ g1, g1 = gN (fun w h => hx h (m_countV f s w)) 12 3623 := ⟨_, rfl⟩
  obtain ⟨g2, hg2⟩ : ∃ g2, g2 = gN (fun w h => hx h (f (10 + w))) 7 g1 := ⟨_, rfl⟩
  have hd1 : m_dig1 f s = g2 := by rw [hg2, hg1]; rfl
  have hGD := good_D hX0.2.2.1.2
  have hMF := mean_F hX0.2.2.1.2
  have k58 : ∀ i : Option SV, VW C 58 [some (xA x), some (xJ (g2)), none, i] [] u 0 0 := by
    intro i
    refine r_aload_n hC dX7_digest_58 rfl ?_
    refine r_lload_n hC dX7_digest_59 rfl ?_
    refine r_V0 hC dX7_digest_60 mi_X7_withRows se_X7_withRows ml_X7_272 (rm := rmX7_withRows) rfl hX0.1.1 rfl rfl rfl rfl ⟨le_b rfl, le_b rfl⟩ (k_Rl_rows hfC hX0) ?_ rfl
    refine r_lstore_n (lv' := [_, _, _, _]) hC dX7_digest_63 (lt_b rfl) rfl (lt_b rfl) rfl ?_
    refine r_aload_n hC dX7_digest_64 rfl ?_
    refine r_lload_n hC dX7_digest_65 rfl ?_
    refine r_V0 hC dX7_digest_66 mi_X7_withPlaces se_X7_withPlaces ml_X7_276 (rm := rmX7_withPlaces) rfl hX0.1.1 rfl rfl rfl rfl ⟨le_b rfl, le_b rfl⟩ (k_Rl_places hfC hX0) ?_ rfl
    obtain ⟨g3, hg3⟩ : ∃ g3, g3 = gN (m_hPlace f) 4 (gN (m_hRow f) (m_kept f).toNat g2) := ⟨_, rfl⟩
    rw [← hg3]
    refine r_lstore_n (lv' := [_, _, _, _]) hC dX7_digest_69 (lt_b rfl) rfl (lt_b rfl) rfl ?_
    refine r_aload_n hC dX7_digest_70 rfl ?_
    refine r_lload_n hC dX7_digest_71 rfl ?_
    refine r_callV (as := [xJ g3]) hC dX7_digest_72 mi_X7_withReceivers se_X7_withReceivers ml_X7_279 (rm := rmX7_withReceivers) ⟨le_b rfl, le_b rfl⟩ hX0.1.1 rfl rfl rfl (le_b rfl) (le_b rfl) (le_b rfl) (k_Rl_recs hfC hX0 (by rw [hDD]; exact hst) (by omega)) ?_ rfl
    rintro _ v1 ⟨rfl, hX1, hk1, ht1⟩
    obtain ⟨g4, hg4⟩ : ∃ g4, g4 = gN (m_hRec f) 3 g3 := ⟨_, rfl⟩
    rw [← hg4]
    have hd2 : m_dig2 f g2 = g4 := by rw [hg4, hg3]; rfl
    refine r_lstore_n (lv' := [_, _, _, _]) hC dX7_digest_75 (lt_b rfl) rfl (lt_b rfl) rfl ?_
    refine r_aload_n hC dX7_digest_76 rfl ?_
    refine r_lload_n hC dX7_digest_77 rfl ?_
    refine r_V0 hC dX7_digest_78 mi_X7_withMessages se_X7_withMessages ml_X7_282 (rm := rmX7_withMessages) rfl hX1.1.1 rfl rfl rfl rfl ⟨le_b rfl, le_b rfl⟩ (k_Rl_msgs hfC hX1) ?_ rfl
    obtain ⟨g5, hg5⟩ : ∃ g5, g5 = gN (m_hMsg f) (f 9).toNat g4 := ⟨_, rfl⟩
    rw [← hg5]
    refine r_lstore_n (lv' := [_, _, _, _]) hC dX7_digest_81 (lt_b rfl) rfl (lt_b rfl) rfl ?_
    refine r_lload_n hC dX7_digest_82 rfl ?_
    refine r_aload_n hC dX7_digest_83 rfl ?_
    refine r_callV (as := []) hC dX7_digest_84 mi_X7_drainIn se_X7_drainIn ml_X7_285 (rm := rmX7_drainIn) ⟨le_b rfl, le_b rfl⟩ hX1.1.1 rfl rfl rfl (le_b rfl) (le_b rfl) (le_b rfl) (k_Rl_drainIn hfC hX1 (by rw [hDD]; exact hst.kp hX0.2.1 hk1) (b := fun _ => 0) (fun _ => rg_0) hT) ?_ rfl
    rintro _ v2 ⟨rfl, hX2, hk2, ht2⟩
    have htx2 := (htx.tx ht1).tx ht2
    refine r_i2l hC dX7_digest_87 ?_
    refine r_S0 hC dX7_digest_88 mi_X7_mixed ss_X7_mixed ml_X7_268 (rm := rmX7_mixed) rfl rfl rfl ⟨le_b rfl, le_b rfl⟩ (k_mixed hfC) ?_ rfl
    refine r_lstore_n (lv' := [_, _, _, _]) hC dX7_digest_91 (lt_b rfl) rfl (lt_b rfl) rfl ?_
    refine r_lload_n hC dX7_digest_92 rfl ?_
    refine r_aload_n hC dX7_digest_93 rfl ?_
    refine r_V0 hC dX7_digest_94 mi_X7_slowest se_X7_slowest ml_X7_288 (rm := rmX7_slowest) rfl hX2.1.1 rfl rfl rfl rfl ⟨le_b rfl, le_b rfl⟩ (k_Rl_slowest hfC hX2) ?_ rfl
    refine r_i2l hC dX7_digest_97 ?_
    refine r_S0 hC dX7_digest_98 mi_X7_mixed ss_X7_mixed ml_X7_268 (rm := rmX7_mixed) rfl rfl rfl ⟨le_b rfl, le_b rfl⟩ (k_mixed hfC) ?_ rfl
    refine r_lstore_n (lv' := [_, _, _, _]) hC dX7_digest_101 (lt_b rfl) rfl (lt_b rfl) rfl ?_
    refine r_lload_n hC dX7_digest_102 rfl ?_
    refine r_aload_n hC dX7_digest_103 rfl ?_
    refine r_V0 hC dX7_digest_104 mi_X7_goodShare se_X7_goodShare ml_X7_291 (rm := rmX7_goodShare) rfl hX2.1.1 rfl rfl rfl rfl ⟨le_b rfl, le_b rfl⟩ (k_Rl_good hfC hX2) ?_ rfl
    refine r_sipush hC dX7_digest_107 (by rfl) ?_
    refine r_bipush hC dX7_digest_110 (by rfl) ?_
    refine r_S0 hC dX7_digest_112 mi_X7_bitsOf ss_X7_bitsOf ml_X7_295 (rm := rmX7_bitsOf) rfl rfl rfl ⟨le_b rfl, le_b rfl⟩ (k_bitsD hfC hGD) ?_ rfl
    refine r_S0 hC dX7_digest_115 mi_X7_mixed ss_X7_mixed ml_X7_268 (rm := rmX7_mixed) rfl rfl rfl ⟨le_b rfl, le_b rfl⟩ (k_mixed hfC) ?_ rfl
    refine r_lstore_n (lv' := [_, _, _, _]) hC dX7_digest_118 (lt_b rfl) rfl (lt_b rfl) rfl ?_
    refine r_lload_n hC dX7_digest_119 rfl ?_
    refine r_aload_n hC dX7_digest_120 rfl ?_
    refine r_V0 hC dX7_digest_121 mi_X7_meanBatch se_X7_meanBatch ml_X7_299 (rm := rmX7_meanBatch) rfl hX2.1.1 rfl rfl rfl rfl ⟨le_b rfl, le_b rfl⟩ (k_Rl_mean hfC hX2) ?_ rfl
    refine r_f2d hC dX7_digest_124 hMF.nn2 ?_
    refine r_bipush hC dX7_digest_125 (by rfl) ?_
    refine r_bipush hC dX7_digest_127 (by rfl) ?_
    refine r_S0 hC dX7_digest_129 mi_X7_bitsOf ss_X7_bitsOf ml_X7_295 (rm := rmX7_bitsOf) rfl rfl rfl ⟨le_b rfl, le_b rfl⟩ (k_bitsF hfC hMF) ?_ rfl
    refine r_S0 hC dX7_digest_132 mi_X7_mixed ss_X7_mixed ml_X7_268 (rm := rmX7_mixed) rfl rfl rfl ⟨le_b rfl, le_b rfl⟩ (k_mixed hfC) ?_ rfl
    refine r_lstore_n (lv' := [_, _, _, _]) hC dX7_digest_135 (lt_b rfl) rfl (lt_b rfl) rfl ?_
    obtain ⟨g6, hg6⟩ : ∃ g6, g6 = hx (31 * hx (hx g5 (m_drainV f (fun _ => 0))) (m_far f) + (m_good f).toInt64) ((m_mean f).toInt32.toInt) := ⟨_, rfl⟩
    have hd4 : m_dig4 f kp g5 = hx g6 (if kp = 0 then 0 else 1) := by rw [hg6]; rfl
    have k152 : VW C 152 [some (xA x), some (xJ (g6)), none, i] [xJ (hx g6 (if kp = 0 then 0 else 1))] v2 (0 + rmX7_withReceivers.cells + rmX7_drainIn.cells) (0 + rmX7_withReceivers.slots + rmX7_drainIn.slots) := by
      refine r_lstore_n (lv' := [_, _, _, _]) hC dX7_digest_152 (lt_b rfl) rfl (lt_b rfl) rfl ?_
      refine r_aload_n hC dX7_digest_153 rfl ?_
      refine r_lload_n hC dX7_digest_154 rfl ?_
      refine r_V0 hC dX7_digest_155 mi_X7_withText se_X7_withText ml_X7_303 (rm := rmX7_withText) rfl hX2.1.1 rfl rfl rfl rfl ⟨le_b rfl, le_b rfl⟩ (k_Rl_txt hfC hX2 htx2 hn) ?_ rfl
      refine r_lret hC hR dX7_digest_158 (le_b rfl) (le_b rfl) ?_
      refine ⟨?_, hX2, hk1.trans hk2, ht1.trans ht2⟩
      rw [hd1, hd2, ← hg5, hd4]
    refine vw_lv (lv' := [some (xA x), some (xJ (g6)), none, i]) (by rw [hg6]; rfl) ?_
    refine r_lload_n hC dX7_digest_136 rfl ?_
    refine r_aload_n hC dX7_digest_137 rfl ?_
    rcases hX2.2.2.2.2 with ⟨hk0, hq⟩ | ⟨hk0, a, hq, -⟩
    · refine r_getR (j := 4) hC dX7_digest_138 fl_X7_31 rfl rfl hX2.1.1 hq ?_
      refine r_ifnonnull (t := 148) hC dX7_digest_141 (by rfl) (fun a h4 => by cases h4) (fun h4 => ?_)
      refine r_lconst hC dX7_digest_144 rfl ?_
      refine r_goto (t := 149) hC dX7_digest_145 (by rfl) ?_
      refine r_S0 hC dX7_digest_149 mi_X7_mixed ss_X7_mixed ml_X7_268 (rm := rmX7_mixed) rfl rfl rfl ⟨le_b rfl, le_b rfl⟩ (k_mixed hfC) ?_ rfl
      rw [if_pos hk0, hx_0] at k152
      exact k152
    · refine r_getR (j := 4) hC dX7_digest_138 fl_X7_31 rfl rfl hX2.1.1 hq ?_
      refine r_ifnonnull (t := 148) hC dX7_digest_141 (by rfl) (fun a h4 => ?_) (fun h4 => by cases h4)
      refine r_lconst hC dX7_digest_148 rfl ?_
      refine r_S0 hC dX7_digest_149 mi_X7_mixed ss_X7_mixed ml_X7_268 (rm := rmX7_mixed) rfl rfl rfl ⟨le_b rfl, le_b rfl⟩ (k_mixed hfC) ?_ rfl
      rw [if_neg (by omega), hx_1] at k152
      exact k152
  have l2 : ∀ (d w : Nat), w + d = 7 → VW C 31 [some (xA x), some (xJ (gN (fun w h => hx h (f (10 + w))) w g1)), none, some (xI w)] [] u 0 0 := by
    intro d
    induction d with
    | zero =>
      intro w hd_w
      refine r_iload_n hC dX7_digest_31 rfl ?_
      refine r_bipush hC dX7_digest_32 (by rfl) ?_
      refine r_icmp_ge (t := 58) hC dX7_digest_34 (by rfl) (by first | exact rg_mI _ _ _ | exact ⟨by omega, by omega⟩ | assumption) (by first | exact rg_mI _ _ _ | exact ⟨by omega, by omega⟩ | assumption) (fun h_34 => ?_) (fun h_34 => ?_)
      · skip
        have hw3 : w = 7 := by omega
        subst hw3
        rw [← hg2]
        exact k58 _
      · skip
        exfalso; omega
    | succ d ih =>
      intro w hd_w
      have hset : mI u (x + 1 + 1) w = f (10 + (w : Int)) := hX0.2.2.1.1.set (by omega)
      refine r_iload_n hC dX7_digest_31 rfl ?_
      refine r_bipush hC dX7_digest_32 (by rfl) ?_
      refine r_icmp_ge (t := 58) hC dX7_digest_34 (by rfl) (by first | exact rg_mI _ _ _ | exact ⟨by omega, by omega⟩ | assumption) (by first | exact rg_mI _ _ _ | exact ⟨by omega, by omega⟩ | assumption) (fun h_34 => ?_) (fun h_34 => ?_)
      · skip
        exfalso; omega
      · skip
        refine r_lload_n hC dX7_digest_37 rfl ?_
        refine r_aload_n hC dX7_digest_38 rfl ?_
        refine r_getR (j := 0) hC dX7_digest_39 fl_X7_10 rfl rfl hX0.1.1 hX0.1.2.1 ?_
        refine r_getR (j := 0) hC dX7_digest_42 fl_X7_155 rfl rfl hX0.2.2.1.1.o.o hX0.2.2.1.1.o.p0 ?_
        refine r_iload_n hC dX7_digest_45 rfl ?_
        refine r_ialdv (v := f (10 + (w : Int))) hC dX7_digest_46 hX0.2.2.1.1.o.a0 ⟨by omega, by omega⟩ hset ?_
        refine r_i2l hC dX7_digest_47 ?_
        refine r_S0 hC dX7_digest_48 mi_X7_mixed ss_X7_mixed ml_X7_268 (rm := rmX7_mixed) rfl rfl rfl ⟨le_b rfl, le_b rfl⟩ (k_mixed hfC) ?_ rfl
        refine r_lstore_n (lv' := [_, _, _, _]) hC dX7_digest_51 (lt_b rfl) rfl (lt_b rfl) rfl ?_
        refine r_iinc (lv' := [_, _, _, _]) hC dX7_digest_52 rfl (lt_b rfl) rfl (lt_b rfl) rfl ?_
        refine r_goto (t := 31) hC dX7_digest_55 (by rfl) ?_
        exact ih (w + 1) (by omega)
  have l1 : ∀ (d w : Nat), w + d = 12 → VW C 6 [some (xA x), some (xJ (gN (fun w h => hx h (m_countV f s w)) w 3623)), none, some (xI w)] [] u 0 0 := by
    intro d
    induction d with
    | zero =>
      intro w hd_w
      refine r_iload_n hC dX7_digest_6 rfl ?_
      refine r_bipush hC dX7_digest_7 (by rfl) ?_
      refine r_icmp_ge (t := 29) hC dX7_digest_9 (by rfl) (by first | exact rg_mI _ _ _ | exact ⟨by omega, by omega⟩ | assumption) (by first | exact rg_mI _ _ _ | exact ⟨by omega, by omega⟩ | assumption) (fun h_9 => ?_) (fun h_9 => ?_)
      · skip
        have hw3 : w = 12 := by omega
        subst hw3
        rw [← hg1]
        refine r_iconst hC dX7_digest_29 ?_
        refine r_istore_n (lv' := [_, _, _, _]) hC dX7_digest_30 (lt_b rfl) rfl (lt_b rfl) rfl ?_
        exact l2 7 0 rfl
      · skip
        exfalso; omega
    | succ d ih =>
      intro w hd_w
      refine r_iload_n hC dX7_digest_6 rfl ?_
      refine r_bipush hC dX7_digest_7 (by rfl) ?_
      refine r_icmp_ge (t := 29) hC dX7_digest_9 (by rfl) (by first | exact rg_mI _ _ _ | exact ⟨by omega, by omega⟩ | assumption) (by first | exact rg_mI _ _ _ | exact ⟨by omega, by omega⟩ | assumption) (fun h_9 => ?_) (fun h_9 => ?_)
      · skip
        exfalso; omega
      · skip
        refine r_lload_n hC dX7_digest_12 rfl ?_
        refine r_aload_n hC dX7_digest_13 rfl ?_
        refine r_iload_n hC dX7_digest_14 rfl ?_
        refine r_V0 hC dX7_digest_15 mi_X7_count se_X7_count ml_X7_265 (rm := rmX7_countC) rfl hX0.1.1 rfl rfl rfl rfl ⟨le_b rfl, le_b rfl⟩ (k_Rl_countC hfC hX0 ⟨by omega, by omega⟩) ?_ rfl
        refine r_i2l hC dX7_digest_18 ?_
        refine r_S0 hC dX7_digest_19 mi_X7_mixed ss_X7_mixed ml_X7_268 (rm := rmX7_mixed) rfl rfl rfl ⟨le_b rfl, le_b rfl⟩ (k_mixed hfC) ?_ rfl
        refine r_lstore_n (lv' := [_, _, _, _]) hC dX7_digest_22 (lt_b rfl) rfl (lt_b rfl) rfl ?_
        refine r_iinc (lv' := [_, _, _, _]) hC dX7_digest_23 rfl (lt_b rfl) rfl (lt_b rfl) rfl ?_
        refine r_goto (t := 6) hC dX7_digest_26 (by rfl) ?_
        exact ih (w + 1) (by omega)
  refine r_ldc2 hC dX7_digest_0 kj_X7_263 ?_
  refine r_lstore_n (lv' := [_, _, _, _]) hC dX7_digest_3 (lt_b rfl) rfl (lt_b rfl) rfl ?_
  refine r_iconst hC dX7_digest_4 ?_
  refine r_istore_n (lv' := [_, _, _, _]) hC dX7_digest_5 (lt_b rfl) rfl (lt_b rfl) rfl ?_
  exact l1 12 0 rfl

