abbrev rmX7_ifPassed : Room := { frames := 6, cells := 147, slots := 2326, locals := 125 }
set_option maxRecDepth 100000 in
theorem k_Rl_ifPassed {l : Launch} {D : DD} (hfl : l.stackTraces = false) {u : Mem} {x : Nat} {f : RW} {s : Int} {P : RW} {kp : Int} {K : RW} {T : Int} (hX0 : RX u x f s P kp K T) (hst : Sta D u x) {b : RW} (hb : RF b) (hT : T + 99 ≤ 2000000) {n c w : Int} (hn : rg n) (hc : rg c) (hw : rg w) : CTX l D yX7_ifPassed cX7_ifPassed 5 (some .int) rmX7_ifPassed [xA x, xI n, xI c, xI w] u (xP (q_ifp n c w) (fun o v => o = some (xI (m_afterV f b n.toNat c w)) ∧ RX v x f s P kp K T ∧ Kp u v x ∧ TxS u v x)) (xQ u (q_ifp n c w) [xIO, xIA]) := by
  refine CTX.of hfl (by decide) (le_b rfl) ?_
  intro C hC hR hX hL hDD hN
  have hfC : (cxL C).stackTraces = false := by rw [hL]; exact hfl
  show VW C 0 [some (xA x), some (xI n), some (xI c), some (xI w), none] [] u 0 0
  refine r_iload_n hC dX7_ifPassed_0 rfl ?_
  refine r_iconst hC dX7_ifPassed_1 ?_
  refine r_S0 hC dX7_ifPassed_2 mi_X7_isBelow ss_X7_isBelow ml_X7_63 (rm := rmX7_isBelow) rfl rfl rfl ⟨le_b rfl, le_b rfl⟩ (k_isBelow hfC hc ⟨by decide, by decide⟩) ?_ rfl
  refine r_bne (t := 18) hC dX7_ifPassed_5 (by rfl) (fun h_5 => ?_) (fun h_5 => ?_)
  · skip
    refine r_iload_n hC dX7_ifPassed_18 rfl ?_
    refine r_S0 hC dX7_ifPassed_19 mi_X7_isTicks ss_X7_isTicks ml_X7_115 (rm := rmX7_isTicks) rfl rfl rfl ⟨le_b rfl, le_b rfl⟩ (k_isTicks hfC hn) ?_ rfl
    refine r_beq (t := 33) hC dX7_ifPassed_22 (by rfl) (fun h_22 => ?_) (fun h_22 => ?_)
    · skip
      refine r_throw hC hX 1 (lt_b rfl) tx_240 rfl dX7_ifPassed_33 dX7_ifPassed_36 dX7_ifPassed_37 dX7_ifPassed_39 dX7_ifPassed_42 ⟨le_b rfl, le_b rfl⟩ (le_b rfl) (le_b rfl) (fun n1 hn1 => ?_)
      have hc3 : 0 ≤ c ∧ c < 3 := h_5
      first
      | exact ⟨⟨1, by unfold q_ifp; rw [if_neg (fun h => h ⟨by omega, by omega⟩), if_pos (Or.inl h_22)]; rfl, rfl⟩, n1, hn1, rfl⟩
      | exact ⟨⟨1, by unfold q_ifp; rw [if_neg (fun h => h ⟨by omega, by omega⟩), if_pos (Or.inr (fun h => h_30 ⟨h.1, by omega⟩))]; rfl, rfl⟩, n1, hn1, rfl⟩
    · skip
      refine r_iload_n hC dX7_ifPassed_25 rfl ?_
      refine r_iconst hC dX7_ifPassed_26 ?_
      refine r_S0 hC dX7_ifPassed_27 mi_X7_isBelow ss_X7_isBelow ml_X7_63 (rm := rmX7_isBelow) rfl rfl rfl ⟨le_b rfl, le_b rfl⟩ (k_isBelow hfC hw ⟨by decide, by decide⟩) ?_ rfl
      refine r_bne (t := 43) hC dX7_ifPassed_30 (by rfl) (fun h_30 => ?_) (fun h_30 => ?_)
      · skip
        have hc3 : 0 ≤ c ∧ c < 3 := h_5
        have hn9 : 1 ≤ n ∧ n ≤ 99 := h_22
        have hw4 : 0 ≤ w ∧ w < 4 := h_30
        obtain ⟨k, rfl⟩ : ∃ k : Nat, c = k := ⟨c.toNat, by omega⟩
        obtain ⟨N, rfl⟩ : ∃ N : Nat, n = N := ⟨n.toNat, by omega⟩
        refine r_aload_n hC dX7_ifPassed_43 rfl ?_
        refine r_callV (as := []) hC dX7_ifPassed_44 mi_X7_freshTrial se_X7_freshTrial ml_X7_230 (rm := rmX7_freshTrial) ⟨le_b rfl, le_b rfl⟩ hX0.1.1 rfl rfl rfl (le_b rfl) (le_b rfl) (le_b rfl) (k_Rl_trial hfC hX0 (by rw [hDD]; exact hst)) ?_ rfl
        rintro _ w1 ⟨a, rfl, hF⟩
        have hX1 := hX0.trial hF
        refine r_astore (lv' := [_, _, _, _, _]) hC dX7_ifPassed_47 (lt_b rfl) rfl (lt_b rfl) rfl ?_
        refine r_aload hC dX7_ifPassed_49 rfl ?_
        refine r_iload_n hC dX7_ifPassed_51 rfl ?_
        refine r_V0p (u := w1) hC dX7_ifPassed_52 mi_X5_passTicks se_X5_passTicks ml_X7_120 (rm := rmX5_passTicks) rfl hF.2.1.o.o rfl rfl rfl rfl ⟨le_b rfl, le_b rfl⟩ (k_St_passTicks hfC hF.2.1 hX0.2.2.1.2 (N := N) (by omega) (by omega) hb) ?_ rfl
        rintro _ w2 ⟨rfl, hS2, hb2⟩
        obtain ⟨hX2, hk2, ht2, hq2⟩ := hX1.tb hF.1 hb2 hS2
        refine r_pop hC dX7_ifPassed_55 rfl ?_
        have hval := since_at (w := w) (hS2.c (i := k) (by omega)) (hX2.2.2.1.1.c (i := k) (by omega)) ⟨hw4.1, by omega⟩
        refine r_aload hC dX7_ifPassed_56 rfl ?_
        refine r_getR (j := 3) hC dX7_ifPassed_58 fl_X7_107 rfl rfl hS2.o.o hS2.o.p3 ?_
        refine r_iload_n hC dX7_ifPassed_61 rfl ?_
        refine r_aald hC dX7_ifPassed_62 hS2.o.a3 (le_b rfl) (lt_b rfl) ⟨by omega, by omega⟩ (hS2.o.pc (i := k) (by omega)) ?_
        refine r_aload_n hC dX7_ifPassed_63 rfl ?_
        refine r_getR (j := 0) hC dX7_ifPassed_64 fl_X7_10 rfl rfl hX2.1.1 hX2.1.2.1 ?_
        refine r_getR (j := 3) hC dX7_ifPassed_67 fl_X7_107 rfl rfl hX2.2.2.1.1.o.o hX2.2.2.1.1.o.p3 ?_
        refine r_iload_n hC dX7_ifPassed_70 rfl ?_
        refine r_aald hC dX7_ifPassed_71 hX2.2.2.1.1.o.a3 (le_b rfl) (lt_b rfl) ⟨by omega, by omega⟩ (hX2.2.2.1.1.o.pc (i := k) (by omega)) ?_
        refine r_iload_n hC dX7_ifPassed_72 rfl ?_
        refine r_V0 hC dX7_ifPassed_73 mi_X3_sinceThen se_X3_sinceThen ml_X7_242 (rm := rmX3_sinceThen) rfl (hS2.o.c (i := k) (by omega)).o rfl rfl rfl rfl ⟨le_b rfl, le_b rfl⟩ (k_Re_since hfC (hS2.o.c (i := k) (by omega)) (hX2.2.2.1.1.o.c (i := k) (by omega)) hw) ?_ rfl
        refine r_iret hC hR dX7_ifPassed_76 (le_b rfl) (le_b rfl) ?_
        exact ⟨by unfold q_ifp; rw [if_neg (fun h => h ⟨by omega, by omega⟩), if_neg (fun h => h.elim (fun h => h ⟨by omega, by omega⟩) (fun h => h ⟨by omega, by omega⟩))], by rw [hval, Int.toNat_natCast]; rfl, hX2, (hF.kp hX0.2.1 (by decide)).trans hk2, (hF.tx hX0.2.1.1).trans ht2⟩
      · skip
        refine r_throw hC hX 1 (lt_b rfl) tx_240 rfl dX7_ifPassed_33 dX7_ifPassed_36 dX7_ifPassed_37 dX7_ifPassed_39 dX7_ifPassed_42 ⟨le_b rfl, le_b rfl⟩ (le_b rfl) (le_b rfl) (fun n1 hn1 => ?_)
        have hc3 : 0 ≤ c ∧ c < 3 := h_5
        first
        | exact ⟨⟨1, by unfold q_ifp; rw [if_neg (fun h => h ⟨by omega, by omega⟩), if_pos (Or.inl h_22)]; rfl, rfl⟩, n1, hn1, rfl⟩
        | exact ⟨⟨1, by unfold q_ifp; rw [if_neg (fun h => h ⟨by omega, by omega⟩), if_pos (Or.inr (fun h => h_30 ⟨h.1, by omega⟩))]; rfl, rfl⟩, n1, hn1, rfl⟩
  · skip
    refine r_throw hC hX 2 (lt_b rfl) tx_103 rfl dX7_ifPassed_8 dX7_ifPassed_11 dX7_ifPassed_12 dX7_ifPassed_14 dX7_ifPassed_17 ⟨le_b rfl, le_b rfl⟩ (le_b rfl) (le_b rfl) (fun n1 hn1 => ?_)
    exact ⟨⟨0, by unfold q_ifp; rw [if_pos (fun h => h_5 ⟨h.1, by omega⟩)]; rfl, rfl⟩, n1, hn1, rfl⟩

