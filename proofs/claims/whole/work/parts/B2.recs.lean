abbrev rmX7_withReceivers : Room := { frames := 5, cells := 146, slots := 2320, locals := 125 }
set_option maxRecDepth 100000 in
theorem k_Rl_recs {l : Launch} {D : DD} (hfl : l.stackTraces = false) {u : Mem} {x : Nat} {f : RW} {s : Int} {P : RW} {kp : Int} {K : RW} {T : Int} (hX0 : RX u x f s P kp K T) (hst : Sta D u x) (hT : T + 10 ≤ 2000000) {h : Int64} : CT l D yX7_withReceivers cX7_withReceivers 9 (some .long) rmX7_withReceivers [xA x, xJ h] u (fun o v => o = some (xJ (gN (m_hRec f) 3 h)) ∧ RX v x f s P kp K T ∧ Kp u v x ∧ TxS u v x) := by
  refine CT.of hfl (by decide) (le_b rfl) ?_
  intro C hC hR hL hDD hN
  have hfC : (cxL C).stackTraces = false := by rw [hL]; exact hfl
  show VW C 0 [some (xA x), some (xJ h), none, none, none, none, none, none, none] [] u 0 0
  refine r_lload_n hC dX7_withReceivers_0 rfl ?_
  refine r_lstore_n (lv' := [_, _, _, _, _, _, _, _, _]) hC dX7_withReceivers_1 (lt_b rfl) rfl (lt_b rfl) rfl ?_
  refine r_aload_n hC dX7_withReceivers_2 rfl ?_
  refine r_callV (as := []) hC dX7_withReceivers_3 mi_X7_freshTrial se_X7_freshTrial ml_X7_230 (rm := rmX7_freshTrial) ⟨le_b rfl, le_b rfl⟩ hX0.1.1 rfl rfl rfl (le_b rfl) (le_b rfl) (le_b rfl) (k_Rl_trial hfC hX0 (by rw [hDD]; exact hst)) ?_ rfl
  rintro _ w1 ⟨a, rfl, hF⟩
  have hX1 := hX0.trial hF
  refine r_astore (lv' := [_, _, _, _, _, _, _, _, _]) hC dX7_withReceivers_6 (lt_b rfl) rfl (lt_b rfl) rfl ?_
  refine r_aload hC dX7_withReceivers_8 rfl ?_
  refine r_bipush hC dX7_withReceivers_10 (by rfl) ?_
  refine r_V0p (u := w1) hC dX7_withReceivers_12 mi_X5_passTicks se_X5_passTicks ml_X7_120 (rm := rmX5_passTicks) rfl hF.2.1.o.o rfl rfl rfl rfl ⟨le_b rfl, le_b rfl⟩ (k_St_passTicks hfC hF.2.1 hX0.2.2.1.2 (N := 10) (by decide) (by omega) (b := fun _ => 0) (fun _ => rg_0)) ?_ rfl
  rintro _ w2 ⟨rfl, hS2, hb2⟩
  obtain ⟨hX2, hk2, ht2, hq2⟩ := hX1.tb hF.1 hb2 hS2
  refine r_pop hC dX7_withReceivers_15 rfl ?_
  have lo : ∀ (d c : Nat) (l7 l8 : Option SV), c + d = 3 → VW C 19 [some (xA x), some (xJ h), none, some (xJ (gN (m_hRec f) c h)), none, some (xA a), some (xI c), l7, l8] [] w2 (0 + rmX7_freshTrial.cells) (0 + rmX7_freshTrial.slots) := by
    intro d
    induction d with
    | zero =>
      intro c l7 l8 hd_c
      refine r_iload hC dX7_withReceivers_19 rfl ?_
      refine r_iconst hC dX7_withReceivers_21 ?_
      refine r_icmp_ge (t := 145) hC dX7_withReceivers_22 (by rfl) (by first | exact rg_mI _ _ _ | exact ⟨by omega, by omega⟩ | assumption) (by first | exact rg_mI _ _ _ | exact ⟨by omega, by omega⟩ | assumption) (fun h_22 => ?_) (fun h_22 => ?_)
      · skip
        have hr8 : c = 3 := by omega
        subst hr8
        refine r_lload_n hC dX7_withReceivers_145 rfl ?_
        refine r_lret hC hR dX7_withReceivers_146 (le_b rfl) (le_b rfl) ?_
        exact ⟨rfl, hX2, (hF.kp hX0.2.1 (by decide)).trans hk2, (hF.tx hX0.2.1.1).trans ht2⟩
      · skip
        exfalso; omega
    | succ d ih =>
      intro c l7 l8 hd_c
      refine r_iload hC dX7_withReceivers_19 rfl ?_
      refine r_iconst hC dX7_withReceivers_21 ?_
      refine r_icmp_ge (t := 145) hC dX7_withReceivers_22 (by rfl) (by first | exact rg_mI _ _ _ | exact ⟨by omega, by omega⟩ | assumption) (by first | exact rg_mI _ _ _ | exact ⟨by omega, by omega⟩ | assumption) (fun h_22 => ?_) (fun h_22 => ?_)
      · skip
        exfalso; omega
      · skip
        have h20 := (hX2.2.2.1.2.b.re c (by omega)).2.2.1
        obtain ⟨g0, hg0⟩ : ∃ g0, g0 = gN (m_hRec f) c h := ⟨_, rfl⟩
        obtain ⟨g1, hg1⟩ : ∃ g1, g1 = gN (fun w h => hx h (m_recvV f c w)) 14 g0 := ⟨_, rfl⟩
        obtain ⟨g2, hg2⟩ : ∃ g2, g2 = gN (fun k h => hx h (m_of f c (13 + k))) (m_of f c 2).toNat g1 := ⟨_, rfl⟩
        obtain ⟨g3, hg3⟩ : ∃ g3, g3 = gN (fun w h => hx h (m_afterV f (fun _ => 0) 10 c w)) 4 g2 := ⟨_, rfl⟩
        have hg4 : gN (m_hRec f) (c + 1) h = g3 := by
          rw [gN_succ, hg3, hg2, hg1, hg0]
          unfold m_hRec
          rfl
        rw [← hg0]
        have kx3 : VW C 139 [some (xA x), some (xJ h), none, some (xJ (g3)), none, some (xA a), some (xI c), some (xA (x + 1 + 28 + 2 * c)), some (xI (4 : Nat))] [] w2 (0 + rmX7_freshTrial.cells) (0 + rmX7_freshTrial.slots) := by
          refine r_iinc (lv' := [_, _, _, _, _, _, _, _, _]) hC dX7_withReceivers_139 rfl (lt_b rfl) rfl (lt_b rfl) rfl ?_
          refine r_goto (t := 19) hC dX7_withReceivers_142 (by rfl) ?_
          have q9 := ih (c + 1) (some (xA (x + 1 + 28 + 2 * c))) (some (xI (4 : Nat))) (by omega)
          rw [hg4] at q9
          exact q9
        have l3 : ∀ (d w : Nat), w + d = 4 → VW C 106 [some (xA x), some (xJ h), none, some (xJ (gN (fun w h => hx h (m_afterV f (fun _ => 0) 10 c w)) w (g2))), none, some (xA a), some (xI c), some (xA (x + 1 + 28 + 2 * c)), some (xI w)] [] w2 (0 + rmX7_freshTrial.cells) (0 + rmX7_freshTrial.slots) := by
          intro d
          induction d with
          | zero =>
            intro w hd_w
            refine r_iload hC dX7_withReceivers_106 rfl ?_
            refine r_iconst hC dX7_withReceivers_108 ?_
            refine r_icmp_ge (t := 139) hC dX7_withReceivers_109 (by rfl) (by first | exact rg_mI _ _ _ | exact ⟨by omega, by omega⟩ | assumption) (by first | exact rg_mI _ _ _ | exact ⟨by omega, by omega⟩ | assumption) (fun h_109 => ?_) (fun h_109 => ?_)
            · skip
              have hw3 : w = 4 := by omega
              subst hw3
              rw [← hg3]
              exact kx3
            · skip
              exfalso; omega
          | succ d ih =>
            intro w hd_w
            refine r_iload hC dX7_withReceivers_106 rfl ?_
            refine r_iconst hC dX7_withReceivers_108 ?_
            refine r_icmp_ge (t := 139) hC dX7_withReceivers_109 (by rfl) (by first | exact rg_mI _ _ _ | exact ⟨by omega, by omega⟩ | assumption) (by first | exact rg_mI _ _ _ | exact ⟨by omega, by omega⟩ | assumption) (fun h_109 => ?_) (fun h_109 => ?_)
            · skip
              exfalso; omega
            · skip
              have hval := since_at (w := (w : Int)) (hS2.c (i := c) (by omega)) (hX2.2.2.1.1.c (i := c) (by omega)) ⟨by omega, by omega⟩
              refine r_lload_n hC dX7_withReceivers_112 rfl ?_
              refine r_aload hC dX7_withReceivers_113 rfl ?_
              refine r_getR (j := 3) hC dX7_withReceivers_115 fl_X7_107 rfl rfl hS2.o.o hS2.o.p3 ?_
              refine r_iload hC dX7_withReceivers_118 rfl ?_
              refine r_aald hC dX7_withReceivers_120 hS2.o.a3 (le_b rfl) (lt_b rfl) ⟨by omega, by omega⟩ (hS2.o.pc (i := c) (by omega)) ?_
              refine r_aload hC dX7_withReceivers_121 rfl ?_
              refine r_iload hC dX7_withReceivers_123 rfl ?_
              refine r_V0 hC dX7_withReceivers_125 mi_X3_sinceThen se_X3_sinceThen ml_X7_242 (rm := rmX3_sinceThen) rfl (hS2.o.c (i := c) (by omega)).o rfl rfl rfl rfl ⟨le_b rfl, le_b rfl⟩ (k_Re_since hfC (hS2.o.c (i := c) (by omega)) (hX2.2.2.1.1.o.c (i := c) (by omega)) ⟨by omega, by omega⟩) ?_ rfl
              rw [hval]
              refine r_i2l hC dX7_withReceivers_128 ?_
              refine r_S0 hC dX7_withReceivers_129 mi_X7_mixed ss_X7_mixed ml_X7_268 (rm := rmX7_mixed) rfl rfl rfl ⟨le_b rfl, le_b rfl⟩ (k_mixed hfC) ?_ rfl
              refine r_lstore_n (lv' := [_, _, _, _, _, _, _, _, _]) hC dX7_withReceivers_132 (lt_b rfl) rfl (lt_b rfl) rfl ?_
              refine r_iinc (lv' := [_, _, _, _, _, _, _, _, _]) hC dX7_withReceivers_133 rfl (lt_b rfl) rfl (lt_b rfl) rfl ?_
              refine r_goto (t := 106) hC dX7_withReceivers_136 (by rfl) ?_
              exact ih (w + 1) (by omega)
        have kx2 : VW C 103 [some (xA x), some (xJ h), none, some (xJ (g2)), none, some (xA a), some (xI c), some (xA (x + 1 + 28 + 2 * c)), some (xI (m_of f c 2).toNat)] [] w2 (0 + rmX7_freshTrial.cells) (0 + rmX7_freshTrial.slots) := by
          refine r_iconst hC dX7_withReceivers_103 ?_
          refine r_istore (lv' := [_, _, _, _, _, _, _, _, _]) hC dX7_withReceivers_104 (lt_b rfl) rfl (lt_b rfl) rfl ?_
          exact l3 4 0 rfl
        have l2 : ∀ (d w : Nat), w + d = (m_of f c 2).toNat → VW C 73 [some (xA x), some (xJ h), none, some (xJ (gN (fun k h => hx h (m_of f c (13 + k))) w (g1))), none, some (xA a), some (xI c), some (xA (x + 1 + 28 + 2 * c)), some (xI w)] [] w2 (0 + rmX7_freshTrial.cells) (0 + rmX7_freshTrial.slots) := by
          intro d
          induction d with
          | zero =>
            intro w hd_w
            refine r_iload hC dX7_withReceivers_73 rfl ?_
            refine r_aload hC dX7_withReceivers_75 rfl ?_
            refine r_getIv (j := 1) (v := m_of f c 2) hC dX7_withReceivers_77 fl_X7_306 rfl rfl (hX2.2.2.1.1.o.c (i := c) (by omega)).o (hX2.2.2.1.1.c (i := c) (by omega)).1 ?_
            refine r_icmp_ge (t := 103) hC dX7_withReceivers_80 (by rfl) ⟨by omega, by omega⟩ ⟨by omega, by omega⟩ (fun h_80 => ?_) (fun h_80 => ?_)
            · skip
              have hw3 : w = (m_of f c 2).toNat := by omega
              subst hw3
              rw [← hg2]
              exact kx2
            · skip
              exfalso; omega
          | succ d ih =>
            intro w hd_w
            have hmem := (hX2.2.2.1.1.c (i := c) (by omega)).2.2.2.2.2.2.2.2.2.2.2.2.2 w (by omega)
            refine r_iload hC dX7_withReceivers_73 rfl ?_
            refine r_aload hC dX7_withReceivers_75 rfl ?_
            refine r_getIv (j := 1) (v := m_of f c 2) hC dX7_withReceivers_77 fl_X7_306 rfl rfl (hX2.2.2.1.1.o.c (i := c) (by omega)).o (hX2.2.2.1.1.c (i := c) (by omega)).1 ?_
            refine r_icmp_ge (t := 103) hC dX7_withReceivers_80 (by rfl) ⟨by omega, by omega⟩ ⟨by omega, by omega⟩ (fun h_80 => ?_) (fun h_80 => ?_)
            · skip
              exfalso; omega
            · skip
              refine r_lload_n hC dX7_withReceivers_83 rfl ?_
              refine r_aload hC dX7_withReceivers_84 rfl ?_
              refine r_getR (j := 0) hC dX7_withReceivers_86 fl_X7_309 rfl rfl (hX2.2.2.1.1.o.c (i := c) (by omega)).o (hX2.2.2.1.1.o.c (i := c) (by omega)).p ?_
              refine r_iload hC dX7_withReceivers_89 rfl ?_
              refine r_ialdv (v := m_of f c (13 + (w : Int))) hC dX7_withReceivers_91 (hX2.2.2.1.1.o.c (i := c) (by omega)).a ⟨by omega, by omega⟩ hmem ?_
              refine r_i2l hC dX7_withReceivers_92 ?_
              refine r_S0 hC dX7_withReceivers_93 mi_X7_mixed ss_X7_mixed ml_X7_268 (rm := rmX7_mixed) rfl rfl rfl ⟨le_b rfl, le_b rfl⟩ (k_mixed hfC) ?_ rfl
              refine r_lstore_n (lv' := [_, _, _, _, _, _, _, _, _]) hC dX7_withReceivers_96 (lt_b rfl) rfl (lt_b rfl) rfl ?_
              refine r_iinc (lv' := [_, _, _, _, _, _, _, _, _]) hC dX7_withReceivers_97 rfl (lt_b rfl) rfl (lt_b rfl) rfl ?_
              refine r_goto (t := 73) hC dX7_withReceivers_100 (by rfl) ?_
              exact ih (w + 1) (by omega)
        have kx1 : VW C 70 [some (xA x), some (xJ h), none, some (xJ (g1)), none, some (xA a), some (xI c), some (xA (x + 1 + 28 + 2 * c)), some (xI (14 : Nat))] [] w2 (0 + rmX7_freshTrial.cells) (0 + rmX7_freshTrial.slots) := by
          refine r_iconst hC dX7_withReceivers_70 ?_
          refine r_istore (lv' := [_, _, _, _, _, _, _, _, _]) hC dX7_withReceivers_71 (lt_b rfl) rfl (lt_b rfl) rfl ?_
          exact l2 (m_of f c 2).toNat 0 (by omega)
        have l1 : ∀ (d w : Nat), w + d = 14 → VW C 40 [some (xA x), some (xJ h), none, some (xJ (gN (fun w h => hx h (m_recvV f c w)) w g0)), none, some (xA a), some (xI c), some (xA (x + 1 + 28 + 2 * c)), some (xI w)] [] w2 (0 + rmX7_freshTrial.cells) (0 + rmX7_freshTrial.slots) := by
          intro d
          induction d with
          | zero =>
            intro w hd_w
            refine r_iload hC dX7_withReceivers_40 rfl ?_
            refine r_bipush hC dX7_withReceivers_42 (by rfl) ?_
            refine r_icmp_ge (t := 70) hC dX7_withReceivers_44 (by rfl) (by first | exact rg_mI _ _ _ | exact ⟨by omega, by omega⟩ | assumption) (by first | exact rg_mI _ _ _ | exact ⟨by omega, by omega⟩ | assumption) (fun h_44 => ?_) (fun h_44 => ?_)
            · skip
              have hw3 : w = 14 := by omega
              subst hw3
              rw [← hg1]
              exact kx1
            · skip
              exfalso; omega
          | succ d ih =>
            intro w hd_w
            refine r_iload hC dX7_withReceivers_40 rfl ?_
            refine r_bipush hC dX7_withReceivers_42 (by rfl) ?_
            refine r_icmp_ge (t := 70) hC dX7_withReceivers_44 (by rfl) (by first | exact rg_mI _ _ _ | exact ⟨by omega, by omega⟩ | assumption) (by first | exact rg_mI _ _ _ | exact ⟨by omega, by omega⟩ | assumption) (fun h_44 => ?_) (fun h_44 => ?_)
            · skip
              exfalso; omega
            · skip
              refine r_lload_n hC dX7_withReceivers_47 rfl ?_
              refine r_aload_n hC dX7_withReceivers_48 rfl ?_
              refine r_getR (j := 0) hC dX7_withReceivers_49 fl_X7_10 rfl rfl hX2.1.1 hX2.1.2.1 ?_
              refine r_iload hC dX7_withReceivers_52 rfl ?_
              refine r_iload hC dX7_withReceivers_54 rfl ?_
              refine r_V0 hC dX7_withReceivers_56 mi_X5_receiverNumber se_X5_receiverNumber ml_X7_216 (rm := rmX5_receiverNumber) rfl hX2.2.2.1.1.o.o rfl rfl rfl rfl ⟨le_b rfl, le_b rfl⟩ (k_St_recv hfC hX2.2.2.1.1 hX2.2.2.1.2.b (c := c) (by omega) ⟨by omega, by omega⟩) ?_ rfl
              refine r_i2l hC dX7_withReceivers_59 ?_
              refine r_S0 hC dX7_withReceivers_60 mi_X7_mixed ss_X7_mixed ml_X7_268 (rm := rmX7_mixed) rfl rfl rfl ⟨le_b rfl, le_b rfl⟩ (k_mixed hfC) ?_ rfl
              refine r_lstore_n (lv' := [_, _, _, _, _, _, _, _, _]) hC dX7_withReceivers_63 (lt_b rfl) rfl (lt_b rfl) rfl ?_
              refine r_iinc (lv' := [_, _, _, _, _, _, _, _, _]) hC dX7_withReceivers_64 rfl (lt_b rfl) rfl (lt_b rfl) rfl ?_
              refine r_goto (t := 40) hC dX7_withReceivers_67 (by rfl) ?_
              exact ih (w + 1) (by omega)
        refine r_aload_n hC dX7_withReceivers_25 rfl ?_
        refine r_getR (j := 0) hC dX7_withReceivers_26 fl_X7_10 rfl rfl hX2.1.1 hX2.1.2.1 ?_
        refine r_getR (j := 3) hC dX7_withReceivers_29 fl_X7_107 rfl rfl hX2.2.2.1.1.o.o hX2.2.2.1.1.o.p3 ?_
        refine r_iload hC dX7_withReceivers_32 rfl ?_
        refine r_aald hC dX7_withReceivers_34 hX2.2.2.1.1.o.a3 (le_b rfl) (lt_b rfl) ⟨by omega, by omega⟩ (hX2.2.2.1.1.o.pc (i := c) (by omega)) ?_
        refine r_astore (lv' := [_, _, _, _, _, _, _, _, _]) hC dX7_withReceivers_35 (lt_b rfl) rfl (lt_b rfl) rfl ?_
        refine r_iconst hC dX7_withReceivers_37 ?_
        refine r_istore (lv' := [_, _, _, _, _, _, _, _, _]) hC dX7_withReceivers_38 (lt_b rfl) rfl (lt_b rfl) rfl ?_
        exact l1 14 0 rfl
  refine r_iconst hC dX7_withReceivers_16 ?_
  refine r_istore (lv' := [_, _, _, _, _, _, _, _, _]) hC dX7_withReceivers_17 (lt_b rfl) rfl (lt_b rfl) rfl ?_
  exact lo 3 0 _ _ rfl

