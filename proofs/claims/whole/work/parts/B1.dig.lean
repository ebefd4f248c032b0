/-! ===== the parts of the digest ===== -/
abbrev rmX7_countC : Room := { frames := 2, cells := 0, slots := 0, locals := 43 }
set_option maxRecDepth 100000 in
theorem k_Rl_countC {l : Launch} {D : DD} (hfl : l.stackTraces = false) {u : Mem} {x : Nat} {f : RW} {s : Int} {P : RW} {kp : Int} {K : RW} {T : Int} (hX0 : RX u x f s P kp K T) {w : Int} (hw : 0 ≤ w ∧ w < 12) : CT l D yX7_count cX7_count 2 (some .int) rmX7_countC [xA x, xI w] u (RT (xI (m_countV f s w)) u) := by
  refine CT.of hfl (by decide) (le_b rfl) ?_
  intro C hC hR hL hDD hN
  have hfC : (cxL C).stackTraces = false := by rw [hL]; exact hfl
  show VW C 0 [some (xA x), some (xI w)] [] u 0 0
  refine r_iload_n hC dX7_count_0 rfl ?_
  refine r_bipush hC dX7_count_1 (by rfl) ?_
  refine r_S0 hC dX7_count_3 mi_X7_isBelow ss_X7_isBelow ml_X7_63 (rm := rmX7_isBelow) rfl rfl rfl ⟨le_b rfl, le_b rfl⟩ (k_isBelow hfC ⟨by omega, by omega⟩ ⟨by decide, by decide⟩) ?_ rfl
  refine r_bne (t := 19) hC dX7_count_6 (by rfl) (fun h_6 => ?_) (fun h_6 => ?_)
  · skip
    refine r_iload_n hC dX7_count_19 rfl ?_
    refine r_bipush hC dX7_count_20 (by rfl) ?_
    refine r_icmp_ne (t := 32) hC dX7_count_22 (by rfl) (by first | exact rg_mI _ _ _ | exact ⟨by omega, by omega⟩ | assumption) (by first | exact rg_mI _ _ _ | exact ⟨by omega, by omega⟩ | assumption) (fun h_22 => ?_) (fun h_22 => ?_)
    · skip
      refine r_aload_n hC dX7_count_32 rfl ?_
      refine r_getR (j := 0) hC dX7_count_33 fl_X7_10 rfl rfl hX0.1.1 hX0.1.2.1 ?_
      refine r_iload_n hC dX7_count_36 rfl ?_
      refine r_V0 hC dX7_count_37 mi_X5_counted se_X5_counted ml_X7_227 (rm := rmX5_counted) rfl hX0.2.2.1.1.o.o rfl rfl rfl rfl ⟨le_b rfl, le_b rfl⟩ (k_St_count (t := s) hfC hX0.2.2.1.1 hX0.2.2.1.2.b ⟨by omega, by omega⟩) ?_ rfl
      refine r_iret hC hR dX7_count_40 (le_b rfl) (le_b rfl) ?_
      exact ⟨by first | rfl | (unfold m_countV; rw [if_neg (by omega), if_neg (by omega), if_neg (by omega), if_neg (by omega), if_neg (by omega), if_neg (by omega), if_neg (by omega), if_neg (by omega), if_neg (by omega)]), rfl⟩
    · skip
      refine r_aload_n hC dX7_count_25 rfl ?_
      refine r_getIv (j := 3) (v := s) hC dX7_count_26 fl_X7_27 rfl rfl hX0.1.1 hX0.2.2.2.1.1 ?_
      refine r_goto (t := 40) hC dX7_count_29 (by rfl) ?_
      refine r_iret hC hR dX7_count_40 (le_b rfl) (le_b rfl) ?_
      exact ⟨by first | rfl | (unfold m_countV; rw [if_neg (by omega), if_neg (by omega), if_neg (by omega), if_neg (by omega), if_neg (by omega), if_neg (by omega), if_neg (by omega), if_neg (by omega), if_neg (by omega)]), rfl⟩
  · skip
    exact absurd hw h_6

abbrev rmX7_withRows : Room := { frames := 4, cells := 0, slots := 0, locals := 88 }
set_option maxRecDepth 100000 in
theorem k_Rl_rows {l : Launch} {D : DD} (hfl : l.stackTraces = false) {u : Mem} {x : Nat} {f : RW} {s : Int} {P : RW} {kp : Int} {K : RW} {T : Int} (hX0 : RX u x f s P kp K T) {h : Int64} : CT l D yX7_withRows cX7_withRows 7 (some .long) rmX7_withRows [xA x, xJ h] u (RT (xJ (gN (m_hRow f) (m_kept f).toNat h)) u) := by
  refine CT.of hfl (by decide) (le_b rfl) ?_
  intro C hC hR hL hDD hN
  have hfC : (cxL C).stackTraces = false := by rw [hL]; exact hfl
  show VW C 0 [some (xA x), some (xJ h), none, none, none, none, none] [] u 0 0
  have hk3 := hX0.2.2.1.2.co.2.2.1
  have hk0 : 0 ≤ m_kept f := by have := hX0.2.2.1.2.co.2.1; unfold m_kept; omega
  have lo : ∀ (d r : Nat) (l6 : Option SV), r + d = (m_kept f).toNat → VW C 5 [some (xA x), some (xJ h), none, some (xJ (gN (m_hRow f) r h)), none, some (xI r), l6] [] u 0 0 := by
    intro d
    induction d with
    | zero =>
      intro r l6 hd_r
      refine r_iload hC dX7_withRows_5 rfl ?_
      refine r_aload_n hC dX7_withRows_7 rfl ?_
      refine r_getR (j := 0) hC dX7_withRows_8 fl_X7_10 rfl rfl hX0.1.1 hX0.1.2.1 ?_
      refine r_getR (j := 2) hC dX7_withRows_11 fl_X7_90 rfl rfl hX0.2.2.1.1.o.o hX0.2.2.1.1.o.p2 ?_
      refine r_getIv (j := 8) (v := m_kept f) hC dX7_withRows_14 fl_X7_94 rfl rfl hX0.2.2.1.1.o.r.o hX0.2.2.1.1.r.2.1 ?_
      refine r_icmp_ge (t := 70) hC dX7_withRows_17 (by rfl) ⟨by omega, by omega⟩ ⟨by omega, by omega⟩ (fun h_17 => ?_) (fun h_17 => ?_)
      · skip
        have hr8 : r = (m_kept f).toNat := by omega
        subst hr8
        refine r_lload_n hC dX7_withRows_70 rfl ?_
        refine r_lret hC hR dX7_withRows_71 (le_b rfl) (le_b rfl) ?_
        exact ⟨rfl, rfl⟩
      · skip
        exfalso; omega
    | succ d ih =>
      intro r l6 hd_r
      refine r_iload hC dX7_withRows_5 rfl ?_
      refine r_aload_n hC dX7_withRows_7 rfl ?_
      refine r_getR (j := 0) hC dX7_withRows_8 fl_X7_10 rfl rfl hX0.1.1 hX0.1.2.1 ?_
      refine r_getR (j := 2) hC dX7_withRows_11 fl_X7_90 rfl rfl hX0.2.2.1.1.o.o hX0.2.2.1.1.o.p2 ?_
      refine r_getIv (j := 8) (v := m_kept f) hC dX7_withRows_14 fl_X7_94 rfl rfl hX0.2.2.1.1.o.r.o hX0.2.2.1.1.r.2.1 ?_
      refine r_icmp_ge (t := 70) hC dX7_withRows_17 (by rfl) ⟨by omega, by omega⟩ ⟨by omega, by omega⟩ (fun h_17 => ?_) (fun h_17 => ?_)
      · skip
        exfalso; omega
      · skip
        obtain ⟨j, j1, j2, j3⟩ := rank_at hX0.2.2.1.1 hX0.2.2.1.2.b (by omega : (r : Int) < m_kept f)
        have kx : VW C 64 [some (xA x), some (xJ h), none, some (xJ (gN (fun w h => hx h (m_rowV f (m_keptAt f r) w)) 8 (gN (m_hRow f) r h))), none, some (xI r), some (xI (8 : Nat))] [] u 0 0 := by
          refine r_iinc (lv' := [_, _, _, _, _, _, _]) hC dX7_withRows_64 rfl (lt_b rfl) rfl (lt_b rfl) rfl ?_
          refine r_goto (t := 5) hC dX7_withRows_67 (by rfl) ?_
          exact ih (r + 1) _ (by omega)
        have li : ∀ (d w : Nat), w + d = 8 → VW C 23 [some (xA x), some (xJ h), none, some (xJ (gN (fun w h => hx h (m_rowV f (m_keptAt f r) w)) w (gN (m_hRow f) r h))), none, some (xI r), some (xI w)] [] u 0 0 := by
          intro d
          induction d with
          | zero =>
            intro w hd_w
            refine r_iload hC dX7_withRows_23 rfl ?_
            refine r_bipush hC dX7_withRows_25 (by rfl) ?_
            refine r_icmp_ge (t := 64) hC dX7_withRows_27 (by rfl) (by first | exact rg_mI _ _ _ | exact ⟨by omega, by omega⟩ | assumption) (by first | exact rg_mI _ _ _ | exact ⟨by omega, by omega⟩ | assumption) (fun h_27 => ?_) (fun h_27 => ?_)
            · skip
              have hw8 : w = 8 := by omega
              subst hw8
              exact kx
            · skip
              exfalso; omega
          | succ d ih =>
            intro w hd_w
            refine r_iload hC dX7_withRows_23 rfl ?_
            refine r_bipush hC dX7_withRows_25 (by rfl) ?_
            refine r_icmp_ge (t := 64) hC dX7_withRows_27 (by rfl) (by first | exact rg_mI _ _ _ | exact ⟨by omega, by omega⟩ | assumption) (by first | exact rg_mI _ _ _ | exact ⟨by omega, by omega⟩ | assumption) (fun h_27 => ?_) (fun h_27 => ?_)
            · skip
              exfalso; omega
            · skip
              refine r_lload_n hC dX7_withRows_30 rfl ?_
              refine r_aload_n hC dX7_withRows_31 rfl ?_
              refine r_getR (j := 0) hC dX7_withRows_32 fl_X7_10 rfl rfl hX0.1.1 hX0.1.2.1 ?_
              refine r_aload_n hC dX7_withRows_35 rfl ?_
              refine r_getR (j := 0) hC dX7_withRows_36 fl_X7_10 rfl rfl hX0.1.1 hX0.1.2.1 ?_
              refine r_getR (j := 2) hC dX7_withRows_39 fl_X7_90 rfl rfl hX0.2.2.1.1.o.o hX0.2.2.1.1.o.p2 ?_
              refine r_getR (j := 6) hC dX7_withRows_42 fl_X7_198 rfl rfl hX0.2.2.1.1.o.r.o hX0.2.2.1.1.o.r.p6 ?_
              refine r_iload hC dX7_withRows_45 rfl ?_
              refine r_ialdv (v := (j : Int)) hC dX7_withRows_47 hX0.2.2.1.1.o.r.a6 ⟨by omega, by omega⟩ j1 ?_
              refine r_iload hC dX7_withRows_48 rfl ?_
              refine r_V0 hC dX7_withRows_50 mi_X5_rowNumber se_X5_rowNumber ml_X7_201 (rm := rmX5_rowNumber) rfl hX0.2.2.1.1.o.o rfl rfl rfl rfl ⟨le_b rfl, le_b rfl⟩ (k_St_rowNum hfC hX0.2.2.1.1 hX0.2.2.1.2.b (k := j) j2 ⟨by omega, by omega⟩) ?_ rfl
              rw [← j3]
              refine r_i2l hC dX7_withRows_53 ?_
              refine r_S0 hC dX7_withRows_54 mi_X7_mixed ss_X7_mixed ml_X7_268 (rm := rmX7_mixed) rfl rfl rfl ⟨le_b rfl, le_b rfl⟩ (k_mixed hfC) ?_ rfl
              refine r_lstore_n (lv' := [_, _, _, _, _, _, _]) hC dX7_withRows_57 (lt_b rfl) rfl (lt_b rfl) rfl ?_
              refine r_iinc (lv' := [_, _, _, _, _, _, _]) hC dX7_withRows_58 rfl (lt_b rfl) rfl (lt_b rfl) rfl ?_
              refine r_goto (t := 23) hC dX7_withRows_61 (by rfl) ?_
              exact ih (w + 1) (by omega)
        refine r_iconst hC dX7_withRows_20 ?_
        refine r_istore (lv' := [_, _, _, _, _, _, _]) hC dX7_withRows_21 (lt_b rfl) rfl (lt_b rfl) rfl ?_
        exact li 8 0 rfl
  refine r_lload_n hC dX7_withRows_0 rfl ?_
  refine r_lstore_n (lv' := [_, _, _, _, _, _, _]) hC dX7_withRows_1 (lt_b rfl) rfl (lt_b rfl) rfl ?_
  refine r_iconst hC dX7_withRows_2 ?_
  refine r_istore (lv' := [_, _, _, _, _, _, _]) hC dX7_withRows_3 (lt_b rfl) rfl (lt_b rfl) rfl ?_
  exact lo (m_kept f).toNat 0 _ (by omega)

abbrev rmX7_withPlaces : Room := { frames := 3, cells := 0, slots := 0, locals := 70 }
set_option maxRecDepth 100000 in
theorem k_Rl_places {l : Launch} {D : DD} (hfl : l.stackTraces = false) {u : Mem} {x : Nat} {f : RW} {s : Int} {P : RW} {kp : Int} {K : RW} {T : Int} (hX0 : RX u x f s P kp K T) {h : Int64} : CT l D yX7_withPlaces cX7_withPlaces 7 (some .long) rmX7_withPlaces [xA x, xJ h] u (RT (xJ (gN (m_hPlace f) 4 h)) u) := by
  refine CT.of hfl (by decide) (le_b rfl) ?_
  intro C hC hR hL hDD hN
  have hfC : (cxL C).stackTraces = false := by rw [hL]; exact hfl
  show VW C 0 [some (xA x), some (xJ h), none, none, none, none, none] [] u 0 0
  have lo : ∀ (d p : Nat) (l6 : Option SV), p + d = 4 → VW C 5 [some (xA x), some (xJ h), none, some (xJ (gN (m_hPlace f) p h)), none, some (xI p), l6] [] u 0 0 := by
    intro d
    induction d with
    | zero =>
      intro p l6 hd_p
      refine r_iload hC dX7_withPlaces_5 rfl ?_
      refine r_iconst hC dX7_withPlaces_7 ?_
      refine r_icmp_ge (t := 85) hC dX7_withPlaces_8 (by rfl) (by first | exact rg_mI _ _ _ | exact ⟨by omega, by omega⟩ | assumption) (by first | exact rg_mI _ _ _ | exact ⟨by omega, by omega⟩ | assumption) (fun h_8 => ?_) (fun h_8 => ?_)
      · skip
        have hr8 : p = 4 := by omega
        subst hr8
        refine r_lload_n hC dX7_withPlaces_85 rfl ?_
        refine r_lret hC hR dX7_withPlaces_86 (le_b rfl) (le_b rfl) ?_
        exact ⟨rfl, rfl⟩
      · skip
        exfalso; omega
    | succ d ih =>
      intro p l6 hd_p
      refine r_iload hC dX7_withPlaces_5 rfl ?_
      refine r_iconst hC dX7_withPlaces_7 ?_
      refine r_icmp_ge (t := 85) hC dX7_withPlaces_8 (by rfl) (by first | exact rg_mI _ _ _ | exact ⟨by omega, by omega⟩ | assumption) (by first | exact rg_mI _ _ _ | exact ⟨by omega, by omega⟩ | assumption) (fun h_8 => ?_) (fun h_8 => ?_)
      · skip
        exfalso; omega
      · skip
        have kx2 : VW C 79 [some (xA x), some (xJ h), none, some (xJ (gN (fun r h => hx h (m_skip f p r)) 3 (gN (fun w h => hx h (m_transV f p w)) 3 (gN (m_hPlace f) p h)))), none, some (xI p), some (xI (3 : Nat))] [] u 0 0 := by
          refine r_iinc (lv' := [_, _, _, _, _, _, _]) hC dX7_withPlaces_79 rfl (lt_b rfl) rfl (lt_b rfl) rfl ?_
          refine r_goto (t := 5) hC dX7_withPlaces_82 (by rfl) ?_
          exact ih (p + 1) _ (by omega)
        have l2 : ∀ (d w : Nat), w + d = 3 → VW C 50 [some (xA x), some (xJ h), none, some (xJ (gN (fun r h => hx h (m_skip f p r)) w (gN (fun w h => hx h (m_transV f p w)) 3 (gN (m_hPlace f) p h)))), none, some (xI p), some (xI w)] [] u 0 0 := by
          intro d
          induction d with
          | zero =>
            intro w hd_w
            refine r_iload hC dX7_withPlaces_50 rfl ?_
            refine r_iconst hC dX7_withPlaces_52 ?_
            refine r_icmp_ge (t := 79) hC dX7_withPlaces_53 (by rfl) (by first | exact rg_mI _ _ _ | exact ⟨by omega, by omega⟩ | assumption) (by first | exact rg_mI _ _ _ | exact ⟨by omega, by omega⟩ | assumption) (fun h_53 => ?_) (fun h_53 => ?_)
            · skip
              have hw3 : w = 3 := by omega
              subst hw3
              exact kx2
            · skip
              exfalso; omega
          | succ d ih =>
            intro w hd_w
            refine r_iload hC dX7_withPlaces_50 rfl ?_
            refine r_iconst hC dX7_withPlaces_52 ?_
            refine r_icmp_ge (t := 79) hC dX7_withPlaces_53 (by rfl) (by first | exact rg_mI _ _ _ | exact ⟨by omega, by omega⟩ | assumption) (by first | exact rg_mI _ _ _ | exact ⟨by omega, by omega⟩ | assumption) (fun h_53 => ?_) (fun h_53 => ?_)
            · skip
              exfalso; omega
            · skip
              refine r_lload_n hC dX7_withPlaces_56 rfl ?_
              refine r_aload_n hC dX7_withPlaces_57 rfl ?_
              refine r_getR (j := 0) hC dX7_withPlaces_58 fl_X7_10 rfl rfl hX0.1.1 hX0.1.2.1 ?_
              refine r_iload hC dX7_withPlaces_61 rfl ?_
              refine r_iload hC dX7_withPlaces_63 rfl ?_
              refine r_V0 hC dX7_withPlaces_65 mi_X5_skipped se_X5_skipped ml_X7_248 (rm := rmX5_skipped) rfl hX0.2.2.1.1.o.o rfl rfl rfl rfl ⟨le_b rfl, le_b rfl⟩ (k_St_skip hfC hX0.2.2.1.1 hX0.2.2.1.2.b (c := w) ⟨by omega, by omega⟩ (by omega)) ?_ rfl
              refine r_i2l hC dX7_withPlaces_68 ?_
              refine r_S0 hC dX7_withPlaces_69 mi_X7_mixed ss_X7_mixed ml_X7_268 (rm := rmX7_mixed) rfl rfl rfl ⟨le_b rfl, le_b rfl⟩ (k_mixed hfC) ?_ rfl
              refine r_lstore_n (lv' := [_, _, _, _, _, _, _]) hC dX7_withPlaces_72 (lt_b rfl) rfl (lt_b rfl) rfl ?_
              refine r_iinc (lv' := [_, _, _, _, _, _, _]) hC dX7_withPlaces_73 rfl (lt_b rfl) rfl (lt_b rfl) rfl ?_
              refine r_goto (t := 50) hC dX7_withPlaces_76 (by rfl) ?_
              exact ih (w + 1) (by omega)
        have kx1 : VW C 47 [some (xA x), some (xJ h), none, some (xJ (gN (fun w h => hx h (m_transV f p w)) 3 (gN (m_hPlace f) p h))), none, some (xI p), some (xI (3 : Nat))] [] u 0 0 := by
          refine r_iconst hC dX7_withPlaces_47 ?_
          refine r_istore (lv' := [_, _, _, _, _, _, _]) hC dX7_withPlaces_48 (lt_b rfl) rfl (lt_b rfl) rfl ?_
          exact l2 3 0 rfl
        have l1 : ∀ (d w : Nat), w + d = 3 → VW C 14 [some (xA x), some (xJ h), none, some (xJ (gN (fun w h => hx h (m_transV f p w)) w (gN (m_hPlace f) p h))), none, some (xI p), some (xI w)] [] u 0 0 := by
          intro d
          induction d with
          | zero =>
            intro w hd_w
            refine r_iload hC dX7_withPlaces_14 rfl ?_
            refine r_iconst hC dX7_withPlaces_16 ?_
            refine r_icmp_ge (t := 47) hC dX7_withPlaces_17 (by rfl) (by first | exact rg_mI _ _ _ | exact ⟨by omega, by omega⟩ | assumption) (by first | exact rg_mI _ _ _ | exact ⟨by omega, by omega⟩ | assumption) (fun h_17 => ?_) (fun h_17 => ?_)
            · skip
              have hw3 : w = 3 := by omega
              subst hw3
              exact kx1
            · skip
              exfalso; omega
          | succ d ih =>
            intro w hd_w
            refine r_iload hC dX7_withPlaces_14 rfl ?_
            refine r_iconst hC dX7_withPlaces_16 ?_
            refine r_icmp_ge (t := 47) hC dX7_withPlaces_17 (by rfl) (by first | exact rg_mI _ _ _ | exact ⟨by omega, by omega⟩ | assumption) (by first | exact rg_mI _ _ _ | exact ⟨by omega, by omega⟩ | assumption) (fun h_17 => ?_) (fun h_17 => ?_)
            · skip
              exfalso; omega
            · skip
              have hval := tell_tr hX0.2.2.1.1 hX0.2.2.1.2.b (p := p) (by omega) (w := (w : Int)) ⟨by omega, by omega⟩
              refine r_lload_n hC dX7_withPlaces_20 rfl ?_
              refine r_aload_n hC dX7_withPlaces_21 rfl ?_
              refine r_getR (j := 0) hC dX7_withPlaces_22 fl_X7_10 rfl rfl hX0.1.1 hX0.1.2.1 ?_
              refine r_getR (j := 1) hC dX7_withPlaces_25 fl_X7_207 rfl rfl hX0.2.2.1.1.o.o hX0.2.2.1.1.o.p1 ?_
              refine r_iload hC dX7_withPlaces_28 rfl ?_
              refine r_aald hC dX7_withPlaces_30 hX0.2.2.1.1.o.a1 (le_b rfl) (lt_b rfl) ⟨by omega, by omega⟩ (hX0.2.2.1.1.o.pt (p := p) (by omega)) ?_
              refine r_iload hC dX7_withPlaces_31 rfl ?_
              refine r_V0 hC dX7_withPlaces_33 mi_X6_tell se_X6_tell ml_X7_211 (rm := rmX6_tell) rfl (hX0.2.2.1.1.o.t (p := p) (by omega)).o rfl rfl rfl rfl ⟨le_b rfl, le_b rfl⟩ (k_Tr_tell hfC (hX0.2.2.1.1.o.t (p := p) (by omega)) ⟨by omega, by omega⟩ (by rw [(hX0.2.2.1.1.t (p := p) (by omega)).2.1]; exact (hX0.2.2.1.2.b.pl p (by omega)).2.1)) ?_ rfl
              rw [hval]
              refine r_i2l hC dX7_withPlaces_36 ?_
              refine r_S0 hC dX7_withPlaces_37 mi_X7_mixed ss_X7_mixed ml_X7_268 (rm := rmX7_mixed) rfl rfl rfl ⟨le_b rfl, le_b rfl⟩ (k_mixed hfC) ?_ rfl
              refine r_lstore_n (lv' := [_, _, _, _, _, _, _]) hC dX7_withPlaces_40 (lt_b rfl) rfl (lt_b rfl) rfl ?_
              refine r_iinc (lv' := [_, _, _, _, _, _, _]) hC dX7_withPlaces_41 rfl (lt_b rfl) rfl (lt_b rfl) rfl ?_
              refine r_goto (t := 14) hC dX7_withPlaces_44 (by rfl) ?_
              exact ih (w + 1) (by omega)
        refine r_iconst hC dX7_withPlaces_11 ?_
        refine r_istore (lv' := [_, _, _, _, _, _, _]) hC dX7_withPlaces_12 (lt_b rfl) rfl (lt_b rfl) rfl ?_
        exact l1 3 0 rfl
  refine r_lload_n hC dX7_withPlaces_0 rfl ?_
  refine r_lstore_n (lv' := [_, _, _, _, _, _, _]) hC dX7_withPlaces_1 (lt_b rfl) rfl (lt_b rfl) rfl ?_
  refine r_iconst hC dX7_withPlaces_2 ?_
  refine r_istore (lv' := [_, _, _, _, _, _, _]) hC dX7_withPlaces_3 (lt_b rfl) rfl (lt_b rfl) rfl ?_
  exact lo 4 0 _ (by omega)

abbrev rmX7_withMessages : Room := { frames := 1, cells := 0, slots := 0, locals := 23 }
set_option maxRecDepth 100000 in
theorem k_Rl_msgs {l : Launch} {D : DD} (hfl : l.stackTraces = false) {u : Mem} {x : Nat} {f : RW} {s : Int} {P : RW} {kp : Int} {K : RW} {T : Int} (hX0 : RX u x f s P kp K T) {h : Int64} : CT l D yX7_withMessages cX7_withMessages 7 (some .long) rmX7_withMessages [xA x, xJ h] u (RT (xJ (gN (m_hMsg f) (f 9).toNat h)) u) := by
  refine CT.of hfl (by decide) (le_b rfl) ?_
  intro C hC hR hL hDD hN
  have hfC : (cxL C).stackTraces = false := by rw [hL]; exact hfl
  show VW C 0 [some (xA x), some (xJ h), none, none, none, none, none] [] u 0 0
  have hni := hX0.2.2.1.2.b.ni
  have h90 := hX0.2.2.1.2.co.2.2.2.1
  have hMK : MK f := IMe.mk hX0.2.2.1.2.me
  have lo : ∀ (d r : Nat) (l6 : Option SV), r + d = (f 9).toNat → VW C 5 [some (xA x), some (xJ h), none, some (xJ (gN (m_hMsg f) r h)), none, some (xI r), l6] [] u 0 0 := by
    intro d
    induction d with
    | zero =>
      intro r l6 hd_r
      refine r_iload hC dX7_withMessages_5 rfl ?_
      refine r_aload_n hC dX7_withMessages_7 rfl ?_
      refine r_getR (j := 0) hC dX7_withMessages_8 fl_X7_10 rfl rfl hX0.1.1 hX0.1.2.1 ?_
      refine r_getR (j := 4) hC dX7_withMessages_11 fl_X7_123 rfl rfl hX0.2.2.1.1.o.o hX0.2.2.1.1.o.p4 ?_
      refine r_getIv (j := 1) (v := f 9) hC dX7_withMessages_14 fl_X7_127 rfl rfl hX0.2.2.1.1.o.l.o hX0.2.2.1.1.l.1 ?_
      refine r_icmp_ge (t := 72) hC dX7_withMessages_17 (by rfl) ⟨by omega, by omega⟩ ⟨by omega, by omega⟩ (fun h_17 => ?_) (fun h_17 => ?_)
      · skip
        have hr8 : r = (f 9).toNat := by omega
        subst hr8
        refine r_lload_n hC dX7_withMessages_72 rfl ?_
        refine r_lret hC hR dX7_withMessages_73 (le_b rfl) (le_b rfl) ?_
        exact ⟨rfl, rfl⟩
      · skip
        exfalso; omega
    | succ d ih =>
      intro r l6 hd_r
      refine r_iload hC dX7_withMessages_5 rfl ?_
      refine r_aload_n hC dX7_withMessages_7 rfl ?_
      refine r_getR (j := 0) hC dX7_withMessages_8 fl_X7_10 rfl rfl hX0.1.1 hX0.1.2.1 ?_
      refine r_getR (j := 4) hC dX7_withMessages_11 fl_X7_123 rfl rfl hX0.2.2.1.1.o.o hX0.2.2.1.1.o.p4 ?_
      refine r_getIv (j := 1) (v := f 9) hC dX7_withMessages_14 fl_X7_127 rfl rfl hX0.2.2.1.1.o.l.o hX0.2.2.1.1.l.1 ?_
      refine r_icmp_ge (t := 72) hC dX7_withMessages_17 (by rfl) ⟨by omega, by omega⟩ ⟨by omega, by omega⟩ (fun h_17 => ?_) (fun h_17 => ?_)
      · skip
        exfalso; omega
      · skip
        obtain ⟨hq1, hq2, hq3⟩ := mrank_at hX0.2.2.1.1 hX0.2.2.1.2.b (by omega : (r : Int) < f 9)
        have hz0 : m_way f (m_ranked f r) 0 = 0 ∨ m_way f (m_ranked f r) 0 = 1 := by
          obtain ⟨sg, hsg, -⟩ := hX0.2.2.1.1.l.2.2.2.2.2.2
          have h1 := hsg.1 r (by omega)
          rw [ranked_at rfl hsg r (by omega)]
          exact (hMK (sg r) (by omega)).1
        have kx : VW C 66 [some (xA x), some (xJ h), none, some (xJ (gN (fun w h => hx h (m_msgV f (m_ranked f r) w)) 5 (gN (m_hMsg f) r h))), none, some (xI r), some (xI (5 : Nat))] [] u 0 0 := by
          refine r_iinc (lv' := [_, _, _, _, _, _, _]) hC dX7_withMessages_66 rfl (lt_b rfl) rfl (lt_b rfl) rfl ?_
          refine r_goto (t := 5) hC dX7_withMessages_69 (by rfl) ?_
          exact ih (r + 1) _ (by omega)
        have li : ∀ (d w : Nat), w + d = 5 → VW C 23 [some (xA x), some (xJ h), none, some (xJ (gN (fun w h => hx h (m_msgV f (m_ranked f r) w)) w (gN (m_hMsg f) r h))), none, some (xI r), some (xI w)] [] u 0 0 := by
          intro d
          induction d with
          | zero =>
            intro w hd_w
            refine r_iload hC dX7_withMessages_23 rfl ?_
            refine r_iconst hC dX7_withMessages_25 ?_
            refine r_icmp_ge (t := 66) hC dX7_withMessages_26 (by rfl) (by first | exact rg_mI _ _ _ | exact ⟨by omega, by omega⟩ | assumption) (by first | exact rg_mI _ _ _ | exact ⟨by omega, by omega⟩ | assumption) (fun h_26 => ?_) (fun h_26 => ?_)
            · skip
              have hw3 : w = 5 := by omega
              subst hw3
              exact kx
            · skip
              exfalso; omega
          | succ d ih =>
            intro w hd_w
            refine r_iload hC dX7_withMessages_23 rfl ?_
            refine r_iconst hC dX7_withMessages_25 ?_
            refine r_icmp_ge (t := 66) hC dX7_withMessages_26 (by rfl) (by first | exact rg_mI _ _ _ | exact ⟨by omega, by omega⟩ | assumption) (by first | exact rg_mI _ _ _ | exact ⟨by omega, by omega⟩ | assumption) (fun h_26 => ?_) (fun h_26 => ?_)
            · skip
              exfalso; omega
            · skip
              have hval := tell_ms (w := (w : Int)) hq3
              refine r_lload_n hC dX7_withMessages_29 rfl ?_
              refine r_aload_n hC dX7_withMessages_30 rfl ?_
              refine r_getR (j := 0) hC dX7_withMessages_31 fl_X7_10 rfl rfl hX0.1.1 hX0.1.2.1 ?_
              refine r_getR (j := 4) hC dX7_withMessages_34 fl_X7_123 rfl rfl hX0.2.2.1.1.o.o hX0.2.2.1.1.o.p4 ?_
              refine r_getR (j := 0) hC dX7_withMessages_37 fl_X7_219 rfl rfl hX0.2.2.1.1.o.l.o hX0.2.2.1.1.o.l.p ?_
              refine r_iload hC dX7_withMessages_40 rfl ?_
              refine r_aald hC dX7_withMessages_42 hX0.2.2.1.1.o.l.a (le_b rfl) (lt_b rfl) ⟨by omega, by omega⟩ hq1 ?_
              refine r_iload hC dX7_withMessages_43 rfl ?_
              refine r_aload_n hC dX7_withMessages_45 rfl ?_
              refine r_getR (j := 0) hC dX7_withMessages_46 fl_X7_10 rfl rfl hX0.1.1 hX0.1.2.1 ?_
              refine r_getIv (j := 5) (v := f 0) hC dX7_withMessages_49 fl_X7_188 rfl rfl hX0.2.2.1.1.o.o hX0.2.2.1.1.tick ?_
              refine r_V0 hC dX7_withMessages_52 mi_X1_tell se_X1_tell ml_X7_223 (rm := rmX1_tell) rfl hq2.o rfl rfl rfl rfl ⟨le_b rfl, le_b rfl⟩ (k_Ms_tell hfC hq2 ⟨by omega, by omega⟩ (by rw [hq3.1]; exact hz0)) ?_ rfl
              rw [hval]
              refine r_i2l hC dX7_withMessages_55 ?_
              refine r_S0 hC dX7_withMessages_56 mi_X7_mixed ss_X7_mixed ml_X7_268 (rm := rmX7_mixed) rfl rfl rfl ⟨le_b rfl, le_b rfl⟩ (k_mixed hfC) ?_ rfl
              refine r_lstore_n (lv' := [_, _, _, _, _, _, _]) hC dX7_withMessages_59 (lt_b rfl) rfl (lt_b rfl) rfl ?_
              refine r_iinc (lv' := [_, _, _, _, _, _, _]) hC dX7_withMessages_60 rfl (lt_b rfl) rfl (lt_b rfl) rfl ?_
              refine r_goto (t := 23) hC dX7_withMessages_63 (by rfl) ?_
              exact ih (w + 1) (by omega)
        refine r_iconst hC dX7_withMessages_20 ?_
        refine r_istore (lv' := [_, _, _, _, _, _, _]) hC dX7_withMessages_21 (lt_b rfl) rfl (lt_b rfl) rfl ?_
        exact li 5 0 rfl
  refine r_lload_n hC dX7_withMessages_0 rfl ?_
  refine r_lstore_n (lv' := [_, _, _, _, _, _, _]) hC dX7_withMessages_1 (lt_b rfl) rfl (lt_b rfl) rfl ?_
  refine r_iconst hC dX7_withMessages_2 ?_
  refine r_istore (lv' := [_, _, _, _, _, _, _]) hC dX7_withMessages_3 (lt_b rfl) rfl (lt_b rfl) rfl ?_
  exact lo (f 9).toNat 0 _ (by omega)

abbrev rmX7_withText : Room := { frames := 1, cells := 0, slots := 0, locals := 23 }
set_option maxRecDepth 100000 in
theorem k_Rl_txt {l : Launch} {D : DD} (hfl : l.stackTraces = false) {u : Mem} {x : Nat} {f : RW} {s : Int} {P : RW} {kp : Int} {K : RW} {T : Int} (hX0 : RX u x f s P kp K T) {b : RW} {n : Nat} (htx : RXt u x b n) (hn : n ≤ 60) {h : Int64} : CT l D yX7_withText cX7_withText 6 (some .long) rmX7_withText [xA x, xJ h] u (RT (xJ (m_dig5 b n h)) u) := by
  refine CT.of hfl (by decide) (le_b rfl) ?_
  intro C hC hR hL hDD hN
  have hfC : (cxL C).stackTraces = false := by rw [hL]; exact hfl
  show VW C 0 [some (xA x), some (xJ h), none, none, none, none] [] u 0 0
  have li : ∀ (d k : Nat), k + d = n → VW C 16 [some (xA x), some (xJ h), none, some (xJ (gN (fun k h => hx h (b k)) k (hx h n))), none, some (xI k)] [] u 0 0 := by
    intro d
    induction d with
    | zero =>
      intro k hd_k
      refine r_iload hC dX7_withText_16 rfl ?_
      refine r_aload_n hC dX7_withText_18 rfl ?_
      refine r_getR (j := 2) hC dX7_withText_19 fl_X7_23 rfl rfl hX0.1.1 hX0.1.2.2.2.1 ?_
      refine r_getIv (j := 1) (v := (n : Int)) hC dX7_withText_22 fl_X7_161 rfl rfl hX0.1.2.2.2.2.1 htx.1 ?_
      refine r_icmp_ge (t := 50) hC dX7_withText_25 (by rfl) ⟨by omega, by omega⟩ ⟨by omega, by omega⟩ (fun h_25 => ?_) (fun h_25 => ?_)
      · skip
        have hw3 : k = n := by omega
        subst hw3
        refine r_lload_n hC dX7_withText_50 rfl ?_
        refine r_lret hC hR dX7_withText_51 (le_b rfl) (le_b rfl) ?_
        exact ⟨by unfold m_dig5; rw [Int.toNat_natCast], rfl⟩
      · skip
        exfalso; omega
    | succ d ih =>
      intro k hd_k
      have hkk := htx.2.2 k (by omega)
      refine r_iload hC dX7_withText_16 rfl ?_
      refine r_aload_n hC dX7_withText_18 rfl ?_
      refine r_getR (j := 2) hC dX7_withText_19 fl_X7_23 rfl rfl hX0.1.1 hX0.1.2.2.2.1 ?_
      refine r_getIv (j := 1) (v := (n : Int)) hC dX7_withText_22 fl_X7_161 rfl rfl hX0.1.2.2.2.2.1 htx.1 ?_
      refine r_icmp_ge (t := 50) hC dX7_withText_25 (by rfl) ⟨by omega, by omega⟩ ⟨by omega, by omega⟩ (fun h_25 => ?_) (fun h_25 => ?_)
      · skip
        exfalso; omega
      · skip
        refine r_lload_n hC dX7_withText_28 rfl ?_
        refine r_aload_n hC dX7_withText_29 rfl ?_
        refine r_getR (j := 2) hC dX7_withText_30 fl_X7_23 rfl rfl hX0.1.1 hX0.1.2.2.2.1 ?_
        refine r_getR (j := 0) hC dX7_withText_33 fl_X7_166 rfl rfl hX0.1.2.2.2.2.1 hX0.1.2.2.2.2.2.1 ?_
        refine r_iload hC dX7_withText_36 rfl ?_
        refine r_ialdv (v := b k) hC dX7_withText_38 hX0.1.2.2.2.2.2.2 ⟨by omega, by omega⟩ hkk ?_
        refine r_i2l hC dX7_withText_39 ?_
        refine r_S0 hC dX7_withText_40 mi_X7_mixed ss_X7_mixed ml_X7_268 (rm := rmX7_mixed) rfl rfl rfl ⟨le_b rfl, le_b rfl⟩ (k_mixed hfC) ?_ rfl
        refine r_lstore_n (lv' := [_, _, _, _, _, _]) hC dX7_withText_43 (lt_b rfl) rfl (lt_b rfl) rfl ?_
        refine r_iinc (lv' := [_, _, _, _, _, _]) hC dX7_withText_44 rfl (lt_b rfl) rfl (lt_b rfl) rfl ?_
        refine r_goto (t := 16) hC dX7_withText_47 (by rfl) ?_
        exact ih (k + 1) (by omega)
  refine r_lload_n hC dX7_withText_0 rfl ?_
  refine r_aload_n hC dX7_withText_1 rfl ?_
  refine r_getR (j := 2) hC dX7_withText_2 fl_X7_23 rfl rfl hX0.1.1 hX0.1.2.2.2.1 ?_
  refine r_getIv (j := 1) (v := (n : Int)) hC dX7_withText_5 fl_X7_161 rfl rfl hX0.1.2.2.2.2.1 htx.1 ?_
  refine r_i2l hC dX7_withText_8 ?_
  refine r_S0 hC dX7_withText_9 mi_X7_mixed ss_X7_mixed ml_X7_268 (rm := rmX7_mixed) rfl rfl rfl ⟨le_b rfl, le_b rfl⟩ (k_mixed hfC) ?_ rfl
  refine r_lstore_n (lv' := [_, _, _, _, _, _]) hC dX7_withText_12 (lt_b rfl) rfl (lt_b rfl) rfl ?_
  refine r_iconst hC dX7_withText_13 ?_
  refine r_istore (lv' := [_, _, _, _, _, _]) hC dX7_withText_14 (lt_b rfl) rfl (lt_b rfl) rfl ?_
  exact li n 0 (by omega)

