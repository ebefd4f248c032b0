abbrev rmX7_pass : Room := { frames := 6, cells := 146, slots := 2320, locals := 127 }
set_option maxRecDepth 100000 in
theorem k_Rl_pass {l : Launch} {D : DD} (hfl : l.stackTraces = false) {u : Mem} {x : Nat} {f : RW} {s : Int} {P : RW} {kp : Int} {K : RW} {T : Int} (hX0 : RX u x f s P kp K T) (rP : RF P) (hst : Sta D u x) {n : Int} (hn : rg n) {b : RW} (hb : RF b) (hT : T + 99 ≤ 2000000) : CTX l D yX7_pass cX7_pass 2 (some .int) rmX7_pass [xA x, xI n] u (xP (q_pass n) (MutP u x ((m_pass f b n.toNat).1) s P f kp K (T + 99) (m_eff (m_pass f b n.toNat).1 - m_eff f))) (xQ u (q_pass n) [xIA]) := by
  refine CTX.of hfl (by decide) (le_b rfl) ?_
  intro C hC hR hX hL hDD hN
  have hfC : (cxL C).stackTraces = false := by rw [hL]; exact hfl
  show VW C 0 [some (xA x), some (xI n)] [] u 0 0
  refine r_iload_n hC dX7_pass_0 rfl ?_
  refine r_S0 hC dX7_pass_1 mi_X7_isTicks ss_X7_isTicks ml_X7_115 (rm := rmX7_isTicks) rfl rfl rfl ⟨le_b rfl, le_b rfl⟩ (k_isTicks hfC hn) ?_ rfl
  refine r_bne (t := 17) hC dX7_pass_4 (by rfl) (fun h_4 => ?_) (fun h_4 => ?_)
  · skip
    refine r_aload_n hC dX7_pass_17 rfl ?_
    have hn9 : 1 ≤ n ∧ n ≤ 99 := h_4
    obtain ⟨N, hN0⟩ : ∃ N : Nat, n = N := ⟨n.toNat, by omega⟩
    refine r_callV (as := []) hC dX7_pass_18 mi_X7_save se_X7_save ml_X7_48 (rm := rmX7_save) ⟨le_b rfl, le_b rfl⟩ hX0.1.1 rfl rfl rfl (le_b rfl) (le_b rfl) (le_b rfl) (k_Rl_save hfC hX0 rP (by rw [hDD]; exact hst)) ?_ rfl
    rintro _ w ⟨rfl, hX1, hk1, ht1⟩
    refine r_aload_n hC dX7_pass_21 rfl ?_
    refine r_getR (j := 0) hC dX7_pass_22 fl_X7_10 rfl rfl hX1.1.1 hX1.1.2.1 ?_
    refine r_iload_n hC dX7_pass_25 rfl ?_
    rw [hN0]
    refine r_V0p (u := w) hC dX7_pass_26 mi_X5_passTicks se_X5_passTicks ml_X7_120 (rm := rmX5_passTicks) rfl hX1.2.2.1.1.o.o rfl rfl rfl rfl ⟨le_b rfl, le_b rfl⟩ (k_St_passTicks hfC hX1.2.2.1.1 hX1.2.2.1.2 (N := N) (by omega) (by omega) hb) ?_ rfl
    rintro _ w2 ⟨rfl, hS2, hb2⟩
    have hI2 := (pass_inv hX1.2.2.1.2 hb N (by omega)).1.more (T1 := T + 99) (by omega)
    obtain ⟨hX2, hk2, ht2⟩ := hX1.now hb2 hS2 hI2 (by omega)
    refine r_iret hC hR dX7_pass_29 (le_b rfl) (le_b rfl) ?_
    have hnn : n.toNat = N := by omega
    exact ⟨by unfold q_pass; rw [if_neg (fun h => h hn9)], by rw [hnn], by rw [hnn]; exact hX2, hk1.trans hk2, ht1.trans ht2⟩
  · skip
    refine r_throw hC hX 1 (lt_b rfl) tx_118 rfl dX7_pass_7 dX7_pass_10 dX7_pass_11 dX7_pass_13 dX7_pass_16 ⟨le_b rfl, le_b rfl⟩ (le_b rfl) (le_b rfl) (fun n1 hn1 => ?_)
    exact ⟨⟨0, by unfold q_pass; rw [if_pos h_4]; rfl, rfl⟩, n1, hn1, rfl⟩

abbrev rmX7_want : Room := { frames := 6, cells := 146, slots := 2320, locals := 127 }
set_option maxRecDepth 100000 in
theorem k_Rl_want {l : Launch} {D : DD} (hfl : l.stackTraces = false) {u : Mem} {x : Nat} {f : RW} {s : Int} {P : RW} {kp : Int} {K : RW} {T : Int} (hX0 : RX u x f s P kp K T) (rP : RF P) (hst : Sta D u x) {c t : Int} (hc : rg c) (ht : rg t) : CTX l D yX7_want cX7_want 5 (some .int) rmX7_want [xA x, xI c, xI t] u (xP (q_want c t) (MutP u x (up f (697 + 38 * c + 0) t) s P f kp K (T) (m_of f c 0))) (xQ u (q_want c t) [xIO, xIA]) := by
  refine CTX.of hfl (by decide) (le_b rfl) ?_
  intro C hC hR hX hL hDD hN
  have hfC : (cxL C).stackTraces = false := by rw [hL]; exact hfl
  show VW C 0 [some (xA x), some (xI c), some (xI t), none, none] [] u 0 0
  refine r_iload_n hC dX7_want_0 rfl ?_
  refine r_iconst hC dX7_want_1 ?_
  refine r_S0 hC dX7_want_2 mi_X7_isBelow ss_X7_isBelow ml_X7_63 (rm := rmX7_isBelow) rfl rfl rfl ⟨le_b rfl, le_b rfl⟩ (k_isBelow hfC hc ⟨by decide, by decide⟩) ?_ rfl
  refine r_bne (t := 18) hC dX7_want_5 (by rfl) (fun h_5 => ?_) (fun h_5 => ?_)
  · skip
    refine r_iload_n hC dX7_want_18 rfl ?_
    refine r_bipush hC dX7_want_19 (by rfl) ?_
    refine r_S0 hC dX7_want_21 mi_X7_isBelow ss_X7_isBelow ml_X7_63 (rm := rmX7_isBelow) rfl rfl rfl ⟨le_b rfl, le_b rfl⟩ (k_isBelow hfC ht ⟨by decide, by decide⟩) ?_ rfl
    refine r_bne (t := 37) hC dX7_want_24 (by rfl) (fun h_24 => ?_) (fun h_24 => ?_)
    · skip
      refine r_aload_n hC dX7_want_37 rfl ?_
      have hc3 : 0 ≤ c ∧ c < 3 := h_5
      have ht5 : 0 ≤ t ∧ t < 16 := h_24
      obtain ⟨k, hk0⟩ : ∃ k : Nat, c = k := ⟨c.toNat, by omega⟩
      refine r_callV (as := []) hC dX7_want_38 mi_X7_save se_X7_save ml_X7_48 (rm := rmX7_save) ⟨le_b rfl, le_b rfl⟩ hX0.1.1 rfl rfl rfl (le_b rfl) (le_b rfl) (le_b rfl) (k_Rl_save hfC hX0 rP (by rw [hDD]; exact hst)) ?_ rfl
      rintro _ w ⟨rfl, hX1, hk1, ht1⟩
      have hold : mI w (x + 1 + 28 + 2 * k) 2 = m_of f c 0 := by rw [hk0]; exact (hX1.2.2.1.1.c (i := k) (by omega)).2.1
      rw [hk0]
      refine r_aload_n hC dX7_want_41 rfl ?_
      refine r_getR (j := 0) hC dX7_want_42 fl_X7_10 rfl rfl hX1.1.1 hX1.1.2.1 ?_
      refine r_getR (j := 3) hC dX7_want_45 fl_X7_107 rfl rfl hX1.2.2.1.1.o.o hX1.2.2.1.1.o.p3 ?_
      refine r_iload_n hC dX7_want_48 rfl ?_
      refine r_aald hC dX7_want_49 hX1.2.2.1.1.o.a3 (le_b rfl) (lt_b rfl) ⟨by omega, by omega⟩ (hX1.2.2.1.1.o.pc (i := k) (by omega)) ?_
      refine r_astore_n (lv' := [_, _, _, _, _]) hC dX7_want_50 (lt_b rfl) rfl (lt_b rfl) rfl ?_
      refine r_aload_n hC dX7_want_51 rfl ?_
      refine r_getIv (j := 2) (v := m_of f c 0) hC dX7_want_52 fl_X7_111 rfl rfl (hX1.2.2.1.1.o.c (i := k) (by omega)).o hold ?_
      refine r_istore (lv' := [_, _, _, _, _]) hC dX7_want_55 (lt_b rfl) rfl (lt_b rfl) rfl ?_
      refine r_aload_n hC dX7_want_57 rfl ?_
      refine r_iload_n hC dX7_want_58 rfl ?_
      refine r_putI (j := 2) hC dX7_want_59 fl_X7_111 rfl (hX1.2.2.1.1.o.c (i := k) (by omega)).o (by rintro _ ⟨⟩; rfl) (Or.inl rfl) ?_
      refine r_iload hC dX7_want_62 rfl ?_
      refine r_iret hC hR dX7_want_64 (le_b rfl) (le_b rfl) ?_
      have hI2 := inv_want hX1.2.2.1.2 (c := k) (by omega) (t := t) ⟨ht5.1, by omega⟩
      have hS2 := rs_want hX1.2.2.1.1 hX1.2.2.1.2.b (c := k) (by omega) t
      have hb2 : Blk w (sI w (x + 1 + 28 + 2 * k) 2 t) (x + 1) := Fr.sI (Blk.refl w _) _ _ ⟨by omega, by omega⟩
      obtain ⟨hX2, hk2, ht2⟩ := hX1.now hb2 hS2 hI2 (Int.le_refl _)
      exact ⟨by unfold q_want; rw [if_neg (fun h => h ⟨by omega, by omega⟩), if_neg (fun h => h ⟨by omega, by omega⟩)], rfl, by first | (rw [hk0]; exact hX2) | exact hX2, hk1.trans hk2, ht1.trans ht2⟩
    · skip
      refine r_throw hC hX 1 (lt_b rfl) tx_105 rfl dX7_want_27 dX7_want_30 dX7_want_31 dX7_want_33 dX7_want_36 ⟨le_b rfl, le_b rfl⟩ (le_b rfl) (le_b rfl) (fun n1 hn1 => ?_)
      have hc3 : 0 ≤ c ∧ c < 3 := h_5
      exact ⟨⟨1, by unfold q_want; rw [if_neg (fun h => h ⟨by omega, by omega⟩), if_pos (fun h => h_24 ⟨h.1, by omega⟩)]; rfl, rfl⟩, n1, hn1, rfl⟩
  · skip
    refine r_throw hC hX 2 (lt_b rfl) tx_103 rfl dX7_want_8 dX7_want_11 dX7_want_12 dX7_want_14 dX7_want_17 ⟨le_b rfl, le_b rfl⟩ (le_b rfl) (le_b rfl) (fun n1 hn1 => ?_)
    exact ⟨⟨0, by unfold q_want; rw [if_pos (fun h => h_5 ⟨h.1, by omega⟩)]; rfl, rfl⟩, n1, hn1, rfl⟩

abbrev rmX7_lose : Room := { frames := 6, cells := 146, slots := 2320, locals := 127 }
set_option maxRecDepth 100000 in
theorem k_Rl_lose {l : Launch} {D : DD} (hfl : l.stackTraces = false) {u : Mem} {x : Nat} {f : RW} {s : Int} {P : RW} {kp : Int} {K : RW} {T : Int} (hX0 : RX u x f s P kp K T) (rP : RF P) (hst : Sta D u x) : CTX l D yX7_lose cX7_lose 1 (some .int) rmX7_lose [xA x] u (xP (q_lose f) (MutP u x (m_lose f) s P f kp K (T) ((m_lose f) 9))) (xQ u (q_lose f) [xIS]) := by
  refine CTX.of hfl (by decide) (le_b rfl) ?_
  intro C hC hR hX hL hDD hN
  have hfC : (cxL C).stackTraces = false := by rw [hL]; exact hfl
  show VW C 0 [some (xA x)] [] u 0 0
  refine r_aload_n hC dX7_lose_0 rfl ?_
  refine r_getR (j := 0) hC dX7_lose_1 fl_X7_10 rfl rfl hX0.1.1 hX0.1.2.1 ?_
  refine r_getR (j := 4) hC dX7_lose_4 fl_X7_123 rfl rfl hX0.2.2.1.1.o.o hX0.2.2.1.1.o.p4 ?_
  refine r_getIv (j := 1) (v := f 9) hC dX7_lose_7 fl_X7_127 rfl rfl hX0.2.2.1.1.o.l.o hX0.2.2.1.1.l.1 ?_
  refine r_if_ne (t := 23) hC dX7_lose_10 (by rfl) (rf_at hX0.2.2.1.2.rf 9) (fun h_10 => ?_) (fun h_10 => ?_)
  · skip
    refine r_aload_n hC dX7_lose_23 rfl ?_
    refine r_callV (as := []) hC dX7_lose_24 mi_X7_save se_X7_save ml_X7_48 (rm := rmX7_save) ⟨le_b rfl, le_b rfl⟩ hX0.1.1 rfl rfl rfl (le_b rfl) (le_b rfl) (le_b rfl) (k_Rl_save hfC hX0 rP (by rw [hDD]; exact hst)) ?_ rfl
    rintro _ w ⟨rfl, hX1, hk1, ht1⟩
    refine r_aload_n hC dX7_lose_27 rfl ?_
    refine r_getR (j := 0) hC dX7_lose_28 fl_X7_10 rfl rfl hX1.1.1 hX1.1.2.1 ?_
    refine r_getR (j := 4) hC dX7_lose_31 fl_X7_123 rfl rfl hX1.2.2.1.1.o.o hX1.2.2.1.1.o.p4 ?_
    obtain ⟨N, hN9⟩ : ∃ N : Nat, f 9 = N := ⟨(f 9).toNat, by have := hX1.2.2.1.2.co.2.2.2.1; omega⟩
    have hni := hX1.2.2.1.2.b.ni
    have hN0 : 0 < N := by omega
    have hmw : mI w (x + 1 + 34) 1 = f 9 := hX1.2.2.1.1.l.1
    obtain ⟨n, hm⟩ := lexmin_ex f N hN0
    obtain ⟨sg, hsg, -⟩ := hX1.2.2.1.1.l.2.2.2.2.2.2
    have hrk : m_ranked f 0 = n := ranked0 hN9 (by rw [hN9, Int.toNat_natCast] at hsg; exact hsg) hN0 hm
    have hMK : MK f := IMe.mk hX1.2.2.1.2.me
    refine r_V0p (u := w) hC dX7_lose_34 mi_X0_removeFirst se_X0_removeFirst ml_X7_134 (rm := rmX0_removeFirst) rfl hX1.2.2.1.1.o.l.o rfl rfl rfl rfl ⟨le_b rfl, le_b rfl⟩ (k_Ma_remove hfC hX1.2.2.1.1.o.l ⟨by omega, by omega⟩) ?_ rfl
    rintro _ w2 ⟨rfl, rfl⟩
    have hrm := rs_remove hX1.2.2.1.1 hX1.2.2.1.2.b hN9 hm (fun m hm => (hMK m (by omega)).2.2.1.2)
    rw [← hN9] at hrm
    rw [hmw]
    have hI2 := inv_lose hX1.2.2.1.2 hN9 hrk hm.1
    have hfr : Blk w (sQ (sI w (x + 1 + 34) 1 (f 9 - 1)) (x + 1 + 34 + 1) (rotQ (mP w (x + 1 + 34 + 1)) (f 9))) (x + 1) := by
      refine Fr.sQ (Fr.sI (Blk.refl w _) _ _ ?_) _ ?_ <;> omega
    obtain ⟨w2, hw2⟩ : ∃ v, v = sQ (sI w (x + 1 + 34) 1 (f 9 - 1)) (x + 1 + 34 + 1) (rotQ (mP w (x + 1 + 34 + 1)) (f 9)) := ⟨_, rfl⟩
    rw [← hw2] at hrm hfr ⊢
    replace hrm := hrm.1
    have hgb : IB (m_takeOff f n) := ib_takeOff hX1.2.2.1.2.b hN9 hm.1
    have ho2 : mSh w2 x = some (.inl 7) := by rw [hfr.1]; exact hX1.1.1
    have hp2 : mP w2 x 0 = some (x + 1) := by rw [hfr.mP (by omega)]; exact hX1.1.2.1
    have hlo : mI w2 (x + 1 + 34) 3 = (m_takeOff f n) 5 := hrm.l.2.2.1
    have hS2 := rs_lost hrm hgb ((m_takeOff f n) 5 + 1)
    have hml : m_lose f = up (m_takeOff f n) 5 ((m_takeOff f n) 5 + 1) := by unfold m_lose; rw [hrk]
    rw [← hml] at hS2
    refine r_aload_n hC dX7_lose_37 rfl ?_
    refine r_getR (j := 0) hC dX7_lose_38 fl_X7_10 rfl rfl ho2 hp2 ?_
    refine r_getR (j := 4) hC dX7_lose_41 fl_X7_123 rfl rfl hrm.o.o hrm.o.p4 ?_
    refine r_dup hC dX7_lose_44 rfl ?_
    refine r_getIv (j := 3) (v := (m_takeOff f n) 5) hC dX7_lose_45 fl_X7_137 rfl rfl hrm.o.l.o hlo ?_
    refine r_iconst hC dX7_lose_48 ?_
    refine r_iadd hC dX7_lose_49 ?_
    refine r_putI (j := 3) hC dX7_lose_50 fl_X7_137 rfl hrm.o.l.o (by rintro _ ⟨⟩; rfl) (Or.inl rfl) ?_
    refine r_aload_n hC dX7_lose_53 rfl ?_
    refine r_getR (j := 0) hC dX7_lose_54 fl_X7_10 rfl rfl ho2 hp2 ?_
    refine r_getR (j := 4) hC dX7_lose_57 fl_X7_123 rfl rfl hrm.o.o hrm.o.p4 ?_
    refine r_getIv (j := 1) (v := (m_lose f) 9) hC dX7_lose_60 fl_X7_127 rfl rfl hrm.o.l.o hS2.l.1 ?_
    refine r_iret hC hR dX7_lose_63 (le_b rfl) (le_b rfl) ?_
    have hfr3 : Blk w (sI w2 (x + 1 + 34) 3 ((m_takeOff f n) 5 + 1)) (x + 1) := Fr.sI hfr _ _ ⟨by omega, by omega⟩
    obtain ⟨hX2, hk2, ht2⟩ := hX1.now hfr3 hS2 hI2 (Int.le_refl _)
    exact ⟨by unfold q_lose; rw [if_neg (by omega)], rfl, hX2, hk1.trans hk2, ht1.trans ht2⟩
  · skip
    refine r_throw hC hX 0 (lt_b rfl) tx_132 rfl dX7_lose_13 dX7_lose_16 dX7_lose_17 dX7_lose_19 dX7_lose_22 ⟨le_b rfl, le_b rfl⟩ (le_b rfl) (le_b rfl) (fun n1 hn1 => ?_)
    exact ⟨⟨0, by unfold q_lose; rw [if_pos (by omega)]; rfl, rfl⟩, n1, hn1, rfl⟩
