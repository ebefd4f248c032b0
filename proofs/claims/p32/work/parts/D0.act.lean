/-! ===== an act ===== -/
theorem tr_no {f : RW} {p : Int} (h : m_open f p = false) (w : Int) : m_transV f p w = -1 := if_pos h
theorem tr_0 {f : RW} {p : Int} (h : m_open f p = true) : m_transV f p 0 = m_its f p 1 := by
  unfold m_transV; rw [if_neg (by rw [h]; decide), if_pos rfl]
theorem tr_1 {f : RW} {p : Int} (h : m_open f p = true) (h1 : m_its f p 1 = 0) : m_transV f p 1 = -1 := by
  unfold m_transV; rw [if_neg (by rw [h]; decide), if_neg (by decide), if_neg (by decide), if_pos h1]
theorem tr_2 {f : RW} {p : Int} (h : m_open f p = true) : m_transV f p 2 = m_vals f p := by
  unfold m_transV; rw [if_neg (by rw [h]; decide), if_neg (by decide), if_pos rfl]
abbrev rmL_act : Room := { frames := 8, cells := 1300, slots := 8300, locals := 220 }
set_option maxRecDepth 100000 in
theorem l_act {l : Launch} {D : DD} (hfl : l.stackTraces = false) {u : Mem} {x : Nat} {f : RW} {s : Int} {P : RW} {kp : Int} {K : RW} {T B ga ha : Int} (hX0 : RX u x f s P kp K T) (rP : RF P) (hst : Sta D u x) (hsm : StaM D u x) (hE : Ew f B) (hT : T + 99 ≤ 100000) (hB9 : 0 ≤ B ∧ B ≤ 900000) : CT l D yL_act cL_act 10 (some .boolean) rmL_act [xA x, xI ga, xI ha] u (AP u x kp K (T + 99) (B + 460)) := by
  refine CT.of hfl (by decide) (le_b rfl) ?_
  intro C hC hR hL hDD hN
  have hfC : (cxL C).stackTraces = false := by rw [hL]; exact hfl
  have hRc : 1300 ≤ rmL_act.cells := le_b rfl
  have hRz : 8300 ≤ rmL_act.slots := le_b rfl
  have hR7 : 7 ≤ rmL_act.frames ∧ 120 ≤ rmL_act.locals := ⟨le_b rfl, le_b rfl⟩
  show VW C 0 [some (xA x), some (xI ga), some (xI ha), none, none, none, none, none, none, none] [] u 0 0
  have hstC : Sta (cxD C) u x := by rw [hDD]; exact hst
  have hsmC : StaM (cxD C) u x := by rw [hDD]; exact hsm
  have hI := hX0.2.2.1.2
  have h54 := hI.nine
  obtain ⟨⟨i0, i1⟩, ⟨i2, i3⟩, i4, i5, i6⟩ := hI.ti
  obtain ⟨c1, c2, c3, c4, c5, c6, c7, c8, c9⟩ := hI.co
  have hkp0 : 0 ≤ m_kept f := by unfold m_kept; omega
  have hfin0 : AP u x kp K (T + 99) (B + 460) (some (xI 1)) u := ⟨rfl, f, s, P, hX0.more (by omega), rP, hE.more (by omega), Kp.refl u x⟩
  have hfin : ∀ (w : Mem) (g : RW) (T1 : Int), RX w x g (m_savedN s) (m_saved P f s) kp K T1 → T1 ≤ T + 99 → Ew g B → Kp u w x → AP u x kp K (T + 99) (B + 460) (some (xI 1)) w := fun w g T1 h1 h2 h3 h4 => ⟨rfl, g, m_savedN s, m_saved P f s, h1.more h2, rf_saved rP hI.rf s, h3.more (by omega), h4⟩
  have p0 := (hI.pl 0 (by decide)).1
  have p1 := (hI.pl 1 (by decide)).1
  have p2 := (hI.pl 2 (by decide)).1
  have p3 := (hI.pl 3 (by decide)).1
  rw [show ((0 : Nat) : Int) = 0 from rfl] at p0
  rw [show ((1 : Nat) : Int) = 1 from rfl] at p1
  rw [show ((2 : Nat) : Int) = 2 from rfl] at p2
  rw [show ((3 : Nat) : Int) = 3 from rfl] at p3
  have hoo : 0 ≤ m_openOnes f ∧ m_openOnes f ≤ 4 := by unfold m_openOnes; omega
  have hw18 := low_rg ga (n := 18) (by decide)
  have hw4 := low_rg (b_shr ga 5) (n := 4) (by decide)
  obtain ⟨p, hp4, hpe⟩ : ∃ p : Nat, p < 4 ∧ m_low (b_shr ga 5) 4 = p := ⟨(m_low (b_shr ga 5) 4).toNat, by omega, by omega⟩
  have hpl := (hI.pl p hp4).2.1
  have hvr := vals_rg hI hp4
  obtain ⟨ro, hro⟩ : ∃ v, v = m_transV f p 0 := ⟨_, rfl⟩
  have hrr : (m_open f p = false ∧ ro = -1) ∨ (m_open f p = true ∧ ro = m_its f p 1) := by
    cases z : m_open f p
    · left; rw [hro]; exact ⟨rfl, tr_no z 0⟩
    · right; rw [hro]; exact ⟨rfl, tr_0 z⟩
  refine r_iload_n hC dL_act_0 rfl ?_
  refine r_bipush hC dL_act_1 (by rfl) ?_
  refine r_S0 hC dL_act_3 mi_L_low ss_L_low ml_L_47 (rm := rmL_low) rfl rfl rfl ⟨by omega, by omega⟩ (l_low hfC ⟨by decide, by decide⟩) ?_ rfl
  refine r_istore_n (lv' := [_, _, _, _, _, _, _, _, _, _]) hC dL_act_6 (lt_b rfl) rfl (lt_b rfl) rfl ?_
  refine r_iload_n hC dL_act_7 rfl ?_
  refine r_iconst hC dL_act_8 ?_
  refine r_ishr hC dL_act_9 ?_
  refine r_iconst hC dL_act_10 ?_
  refine r_S0 hC dL_act_11 mi_L_low ss_L_low ml_L_47 (rm := rmL_low) rfl rfl rfl ⟨by omega, by omega⟩ (l_low hfC ⟨by decide, by decide⟩) ?_ rfl
  rw [hpe]
  refine r_istore (lv' := [_, _, _, _, _, _, _, _, _, _]) hC dL_act_14 (lt_b rfl) rfl (lt_b rfl) rfl ?_
  refine r_aload_n hC dL_act_16 rfl ?_
  refine r_iload hC dL_act_17 rfl ?_
  refine r_iconst hC dL_act_19 ?_
  refine r_ltran hC hfC dL_act_20 ml_L_50 hR7 hX0 ⟨by omega, by omega⟩ ⟨by omega, by omega⟩ hro.symm (le_b rfl) (by omega) (by omega) ?_
  refine r_istore (lv' := [_, _, _, _, _, _, _, _, _, _]) hC dL_act_23 (lt_b rfl) rfl (lt_b rfl) rfl ?_
  refine r_iload_n hC dL_act_25 rfl ?_
  refine r_iconst hC dL_act_26 ?_
  refine r_icmp_ge (t := 111) hC dL_act_27 (by rfl) (by first | exact hI.rf _ | exact hI3.rf _ | exact rg_of hI3.rf _ _ | exact rg_mI _ _ _ | exact rg_way hI.rf _ _ | exact rg_of hI.rf _ _ | exact ⟨by omega, by omega⟩ | assumption) (by first | exact hI.rf _ | exact hI3.rf _ | exact rg_of hI3.rf _ _ | exact rg_mI _ _ _ | exact rg_way hI.rf _ _ | exact rg_of hI.rf _ _ | exact ⟨by omega, by omega⟩ | assumption) (fun h_27 => ?_) (fun h_27 => ?_)
  · skip
    refine r_iload_n hC dL_act_111 rfl ?_
    refine r_bipush hC dL_act_112 (by rfl) ?_
    refine r_icmp_ge (t := 257) hC dL_act_114 (by rfl) (by first | exact hI.rf _ | exact hI3.rf _ | exact rg_of hI3.rf _ _ | exact rg_mI _ _ _ | exact rg_way hI.rf _ _ | exact rg_of hI.rf _ _ | exact ⟨by omega, by omega⟩ | assumption) (by first | exact hI.rf _ | exact hI3.rf _ | exact rg_of hI3.rf _ _ | exact rg_mI _ _ _ | exact rg_way hI.rf _ _ | exact rg_of hI.rf _ _ | exact ⟨by omega, by omega⟩ | assumption) (fun h_114 => ?_) (fun h_114 => ?_)
    · skip
      refine r_iload_n hC dL_act_257 rfl ?_
      refine r_bipush hC dL_act_258 (by rfl) ?_
      refine r_icmp_ge (t := 355) hC dL_act_260 (by rfl) (by first | exact hI.rf _ | exact hI3.rf _ | exact rg_of hI3.rf _ _ | exact rg_mI _ _ _ | exact rg_way hI.rf _ _ | exact rg_of hI.rf _ _ | exact ⟨by omega, by omega⟩ | assumption) (by first | exact hI.rf _ | exact hI3.rf _ | exact rg_of hI3.rf _ _ | exact rg_mI _ _ _ | exact rg_way hI.rf _ _ | exact rg_of hI.rf _ _ | exact ⟨by omega, by omega⟩ | assumption) (fun h_260 => ?_) (fun h_260 => ?_)
      · skip
        refine r_iload_n hC dL_act_355 rfl ?_
        refine r_bipush hC dL_act_356 (by rfl) ?_
        refine r_icmp_ne (t := 411) hC dL_act_358 (by rfl) (by first | exact hI.rf _ | exact hI3.rf _ | exact rg_of hI3.rf _ _ | exact rg_mI _ _ _ | exact rg_way hI.rf _ _ | exact rg_of hI.rf _ _ | exact ⟨by omega, by omega⟩ | assumption) (by first | exact hI.rf _ | exact hI3.rf _ | exact rg_of hI3.rf _ _ | exact rg_mI _ _ _ | exact rg_way hI.rf _ _ | exact rg_of hI.rf _ _ | exact ⟨by omega, by omega⟩ | assumption) (fun h_358 => ?_) (fun h_358 => ?_)
        · skip
          refine r_iload_n hC dL_act_411 rfl ?_
          refine r_bipush hC dL_act_412 (by rfl) ?_
          refine r_icmp_ne (t := 476) hC dL_act_414 (by rfl) (by first | exact hI.rf _ | exact hI3.rf _ | exact rg_of hI3.rf _ _ | exact rg_mI _ _ _ | exact rg_way hI.rf _ _ | exact rg_of hI.rf _ _ | exact ⟨by omega, by omega⟩ | assumption) (by first | exact hI.rf _ | exact hI3.rf _ | exact rg_of hI3.rf _ _ | exact rg_mI _ _ _ | exact rg_way hI.rf _ _ | exact rg_of hI.rf _ _ | exact ⟨by omega, by omega⟩ | assumption) (fun h_414 => ?_) (fun h_414 => ?_)
          · skip
            refine r_iload_n hC dL_act_476 rfl ?_
            refine r_bipush hC dL_act_477 (by rfl) ?_
            refine r_icmp_ne (t := 533) hC dL_act_479 (by rfl) (by first | exact hI.rf _ | exact hI3.rf _ | exact rg_of hI3.rf _ _ | exact rg_mI _ _ _ | exact rg_way hI.rf _ _ | exact rg_of hI.rf _ _ | exact ⟨by omega, by omega⟩ | assumption) (by first | exact hI.rf _ | exact hI3.rf _ | exact rg_of hI3.rf _ _ | exact rg_mI _ _ _ | exact rg_way hI.rf _ _ | exact rg_of hI.rf _ _ | exact ⟨by omega, by omega⟩ | assumption) (fun h_479 => ?_) (fun h_479 => ?_)
            · skip
              refine r_iload_n hC dL_act_533 rfl ?_
              refine r_bipush hC dL_act_534 (by rfl) ?_
              refine r_icmp_ne (t := 544) hC dL_act_536 (by rfl) (by first | exact hI.rf _ | exact hI3.rf _ | exact rg_of hI3.rf _ _ | exact rg_mI _ _ _ | exact rg_way hI.rf _ _ | exact rg_of hI.rf _ _ | exact ⟨by omega, by omega⟩ | assumption) (by first | exact hI.rf _ | exact hI3.rf _ | exact rg_of hI3.rf _ _ | exact rg_mI _ _ _ | exact rg_way hI.rf _ _ | exact rg_of hI.rf _ _ | exact ⟨by omega, by omega⟩ | assumption) (fun h_536 => ?_) (fun h_536 => ?_)
              · skip
                refine r_iload_n hC dL_act_544 rfl ?_
                refine r_bipush hC dL_act_545 (by rfl) ?_
                refine r_icmp_ne (t := 709) hC dL_act_547 (by rfl) (by first | exact hI.rf _ | exact hI3.rf _ | exact rg_of hI3.rf _ _ | exact rg_mI _ _ _ | exact rg_way hI.rf _ _ | exact rg_of hI.rf _ _ | exact ⟨by omega, by omega⟩ | assumption) (by first | exact hI.rf _ | exact hI3.rf _ | exact rg_of hI3.rf _ _ | exact rg_mI _ _ _ | exact rg_way hI.rf _ _ | exact rg_of hI.rf _ _ | exact ⟨by omega, by omega⟩ | assumption) (fun h_547 => ?_) (fun h_547 => ?_)
                · skip
                  refine r_aload_n hC dL_act_709 rfl ?_
                  refine r_callS (as := [xA x]) hC dL_act_710 mi_L_ticks ss_L_ticks ml_L_82 (rm := rmL_ticks) ⟨le_b rfl, le_b rfl⟩ rfl (le_b rfl) (by show _ + 800 ≤ _; omega) (by show _ + 7000 ≤ _; omega) (l_ticks hfC hX0 rP (by rw [hDD]; exact hst) hE hT hB9) ?_ rfl
                  rintro _ w3 ⟨rfl, hA⟩
                  refine vw_widen (c' := 1300) (z' := 8300) (by show _ + 800 ≤ _; omega) (by show _ + 7000 ≤ _; omega) ?_
                  have hA3 : AP u x kp K (T + 99) (B + 460) (some (xI 1)) w3 := AP.more ⟨rfl, hA⟩ (by omega) (by omega)
                  show VW C _ _ [xI 1] w3 1300 8300
                  refine r_zret hC hR dL_act_713 (Or.inr rfl) (by omega) (by omega) ?_
                  exact hA3
                · skip
                  have hwh := low_rg ha (n := 6) (by decide)
                  obtain ⟨wh, hwe⟩ : ∃ v, v = 1 + m_low ha 6 := ⟨_, rfl⟩
                  obtain ⟨hv, hve⟩ : ∃ v, v = b_shr ha 3 := ⟨_, rfl⟩
                  have v2 := low_rg hv (n := 2) (by decide)
                  have v8 := low_rg hv (n := 8) (by decide)
                  have v9 := low_rg hv (n := 9) (by decide)
                  have v20 := low_rg hv (n := 20) (by decide)
                  have K669 : ∀ (val v8 : Int), (s_least wh ≤ val ∧ val ≤ s_most wh) → ¬ (wh = 4 ∧ val = 1) → VW C 669 [some (xA x), some (xI ga), some (xI ha), some (xI (m_low ga 18)), some (xI (p : Int)), some (xI ro), some (xI wh), some (xI hv), some (xI v8), none] [xI val] u 20 200 := by
                    intro val v8 hval h41
                    have hl := s_least_rg wh
                    have hm := s_most_rg wh
                    have hq : q_set f wh val = 0 := by
                      unfold q_set
                      rw [if_neg (fun z => z (by omega)), if_neg (fun z => z.elim (fun y => y hval) h41), if_neg (fun z => by omega)]
                    have hg : up f (10 + wh) val (10 + wh) = val := (up_s _ _ _).trans (wr_id ⟨by omega, by omega⟩)
                    refine r_istore (lv' := [_, _, _, _, _, _, _, _, _, _]) hC dL_act_669 (lt_b rfl) rfl (lt_b rfl) rfl ?_
                    refine r_aload_n hC dL_act_671 rfl ?_
                    refine r_iload hC dL_act_672 rfl ?_
                    refine r_lset hC hfC dL_act_674 ml_L_22 hR7 hX0 ⟨by omega, by omega⟩ rfl (le_b rfl) (by omega) (by omega) ?_
                    refine r_istore (lv' := [_, _, _, _, _, _, _, _, _, _]) hC dL_act_677 (lt_b rfl) rfl (lt_b rfl) rfl ?_
                    refine r_aload_n hC dL_act_679 rfl ?_
                    refine r_iload hC dL_act_680 rfl ?_
                    refine r_iload hC dL_act_682 rfl ?_
                    refine r_mut hC (as := [xI wh, xI val]) dL_act_684 mi_X7_set se_X7_set ml_L_79 (rm := rmX7_set) ⟨le_b rfl, le_b rfl⟩ hX0.1.1 rfl rfl (le_b rfl) (by show _ + 146 ≤ _; omega) (by show _ + 2320 ≤ _; omega) (k_Rl_set hfC hX0 rP hstC ⟨by omega, by omega⟩ ⟨by omega, by omega⟩ hsmC) hq (fun w3 hX3 hk3 => ?_) rfl
                    refine vw_widen (c' := 400) (z' := 3000) (by show _ + 146 ≤ _; omega) (by show _ + 2320 ≤ _; omega) ?_
                    refine r_iload hC dL_act_687 rfl ?_
                    refine r_icmp_ne (t := 707) hC dL_act_689 (by rfl) (hI.rf _) (hI.rf _) (fun h_689 => absurd rfl h_689) (fun h_689 => ?_)
                    refine r_aload_n hC dL_act_692 rfl ?_
                    refine r_iload hC dL_act_693 rfl ?_
                    refine r_lset hC hfC dL_act_695 ml_L_22 hR7 hX3 ⟨by omega, by omega⟩ hg (le_b rfl) (by omega) (by omega) ?_
                    refine r_iload hC dL_act_698 rfl ?_
                    refine r_icmp_ne (t := 707) hC dL_act_700 (by rfl) (by first | exact hI.rf _ | exact hI3.rf _ | exact rg_of hI3.rf _ _ | exact rg_mI _ _ _ | exact rg_way hI.rf _ _ | exact rg_of hI.rf _ _ | exact ⟨by omega, by omega⟩ | assumption) (by first | exact hI.rf _ | exact hI3.rf _ | exact rg_of hI3.rf _ _ | exact rg_mI _ _ _ | exact rg_way hI.rf _ _ | exact rg_of hI.rf _ _ | exact ⟨by omega, by omega⟩ | assumption) (fun h_700 => absurd rfl h_700) (fun h_700 => ?_)
                    refine r_iconst hC dL_act_703 ?_
                    refine r_goto (t := 708) hC dL_act_704 (by rfl) ?_
                    refine r_zret hC hR dL_act_708 (Or.inr rfl) (by omega) (by omega) ?_
                    exact hfin _ _ _ hX3 (by omega) (set_l hI hE ⟨by omega, by omega⟩) hk3
                  refine r_iconst hC dL_act_550 ?_
                  refine r_iload_n hC dL_act_551 rfl ?_
                  refine r_bipush hC dL_act_552 (by rfl) ?_
                  refine r_S0 hC dL_act_554 mi_L_low ss_L_low ml_L_47 (rm := rmL_low) rfl rfl rfl ⟨by omega, by omega⟩ (l_low hfC ⟨by decide, by decide⟩) ?_ rfl
                  refine r_iadd hC dL_act_557 ?_
                  rw [← hwe]
                  refine r_istore (lv' := [_, _, _, _, _, _, _, _, _, _]) hC dL_act_558 (lt_b rfl) rfl (lt_b rfl) rfl ?_
                  refine r_iload_n hC dL_act_560 rfl ?_
                  refine r_iconst hC dL_act_561 ?_
                  refine r_ishr hC dL_act_562 ?_
                  rw [← hve]
                  refine r_istore (lv' := [_, _, _, _, _, _, _, _, _, _]) hC dL_act_563 (lt_b rfl) rfl (lt_b rfl) rfl ?_
                  refine r_iload hC dL_act_565 rfl ?_
                  refine r_iconst hC dL_act_567 ?_
                  refine r_icmp_ne (t := 583) hC dL_act_568 (by rfl) (by first | exact hI.rf _ | exact hI3.rf _ | exact rg_of hI3.rf _ _ | exact rg_mI _ _ _ | exact rg_way hI.rf _ _ | exact rg_of hI.rf _ _ | exact ⟨by omega, by omega⟩ | assumption) (by first | exact hI.rf _ | exact hI3.rf _ | exact rg_of hI3.rf _ _ | exact rg_mI _ _ _ | exact rg_way hI.rf _ _ | exact rg_of hI.rf _ _ | exact ⟨by omega, by omega⟩ | assumption) (fun h_568 => ?_) (fun h_568 => ?_)
                  · skip
                    refine r_iload hC dL_act_583 rfl ?_
                    refine r_iconst hC dL_act_585 ?_
                    refine r_icmp_eq (t := 596) hC dL_act_586 (by rfl) (by first | exact hI.rf _ | exact hI3.rf _ | exact rg_of hI3.rf _ _ | exact rg_mI _ _ _ | exact rg_way hI.rf _ _ | exact rg_of hI.rf _ _ | exact ⟨by omega, by omega⟩ | assumption) (by first | exact hI.rf _ | exact hI3.rf _ | exact rg_of hI3.rf _ _ | exact rg_mI _ _ _ | exact rg_way hI.rf _ _ | exact rg_of hI.rf _ _ | exact ⟨by omega, by omega⟩ | assumption) (fun h_586 => ?_) (fun h_586 => ?_)
                    · skip
                      refine r_iconst hC dL_act_596 ?_
                      refine r_iload hC dL_act_597 rfl ?_
                      refine r_bipush hC dL_act_599 (by rfl) ?_
                      refine r_S0 hC dL_act_601 mi_L_low ss_L_low ml_L_47 (rm := rmL_low) rfl rfl rfl ⟨by omega, by omega⟩ (l_low hfC ⟨by decide, by decide⟩) ?_ rfl
                      refine r_iadd hC dL_act_604 ?_
                      refine r_goto (t := 648) hC dL_act_605 (by rfl) ?_
                      refine r_istore (lv' := [_, _, _, _, _, _, _, _, _, _]) hC dL_act_648 (lt_b rfl) rfl (lt_b rfl) rfl ?_
                      refine r_iload hC dL_act_650 rfl ?_
                      refine r_iconst hC dL_act_652 ?_
                      refine r_icmp_ne (t := 667) hC dL_act_653 (by rfl) (by first | exact hI.rf _ | exact hI3.rf _ | exact rg_of hI3.rf _ _ | exact rg_mI _ _ _ | exact rg_way hI.rf _ _ | exact rg_of hI.rf _ _ | exact ⟨by omega, by omega⟩ | assumption) (by first | exact hI.rf _ | exact hI3.rf _ | exact rg_of hI3.rf _ _ | exact rg_mI _ _ _ | exact rg_way hI.rf _ _ | exact rg_of hI.rf _ _ | exact ⟨by omega, by omega⟩ | assumption) (fun h_653 => ?_) (fun h_653 => (by omega))
                      refine r_iload hC dL_act_667 rfl ?_
                      refine vw_widen (by omega) (by omega) (K669 _ _ ?_ (by omega))
                      unfold s_least s_most; rw [if_neg (by omega)]; rw [if_neg (by omega), if_neg (by omega), if_pos (by omega)]; omega
                    · skip
                      refine r_iload hC dL_act_589 rfl ?_
                      refine r_bipush hC dL_act_591 (by rfl) ?_
                      refine r_icmp_ne (t := 608) hC dL_act_593 (by rfl) (by first | exact hI.rf _ | exact hI3.rf _ | exact rg_of hI3.rf _ _ | exact rg_mI _ _ _ | exact rg_way hI.rf _ _ | exact rg_of hI.rf _ _ | exact ⟨by omega, by omega⟩ | assumption) (by first | exact hI.rf _ | exact hI3.rf _ | exact rg_of hI3.rf _ _ | exact rg_mI _ _ _ | exact rg_way hI.rf _ _ | exact rg_of hI.rf _ _ | exact ⟨by omega, by omega⟩ | assumption) (fun h_593 => ?_) (fun h_593 => ?_)
                      · skip
                        refine r_iload hC dL_act_608 rfl ?_
                        refine r_iconst hC dL_act_610 ?_
                        refine r_icmp_ne (t := 624) hC dL_act_611 (by rfl) (by first | exact hI.rf _ | exact hI3.rf _ | exact rg_of hI3.rf _ _ | exact rg_mI _ _ _ | exact rg_way hI.rf _ _ | exact rg_of hI.rf _ _ | exact ⟨by omega, by omega⟩ | assumption) (by first | exact hI.rf _ | exact hI3.rf _ | exact rg_of hI3.rf _ _ | exact rg_mI _ _ _ | exact rg_way hI.rf _ _ | exact rg_of hI.rf _ _ | exact ⟨by omega, by omega⟩ | assumption) (fun h_611 => ?_) (fun h_611 => ?_)
                        · skip
                          refine r_iload hC dL_act_624 rfl ?_
                          refine r_iconst hC dL_act_626 ?_
                          refine r_icmp_ne (t := 639) hC dL_act_627 (by rfl) (by first | exact hI.rf _ | exact hI3.rf _ | exact rg_of hI3.rf _ _ | exact rg_mI _ _ _ | exact rg_way hI.rf _ _ | exact rg_of hI.rf _ _ | exact ⟨by omega, by omega⟩ | assumption) (by first | exact hI.rf _ | exact hI3.rf _ | exact rg_of hI3.rf _ _ | exact rg_mI _ _ _ | exact rg_way hI.rf _ _ | exact rg_of hI.rf _ _ | exact ⟨by omega, by omega⟩ | assumption) (fun h_627 => ?_) (fun h_627 => ?_)
                          · skip
                            refine r_iconst hC dL_act_639 ?_
                            refine r_iload hC dL_act_640 rfl ?_
                            refine r_bipush hC dL_act_642 (by rfl) ?_
                            refine r_S0 hC dL_act_644 mi_L_low ss_L_low ml_L_47 (rm := rmL_low) rfl rfl rfl ⟨by omega, by omega⟩ (l_low hfC ⟨by decide, by decide⟩) ?_ rfl
                            refine r_iadd hC dL_act_647 ?_
                            refine r_istore (lv' := [_, _, _, _, _, _, _, _, _, _]) hC dL_act_648 (lt_b rfl) rfl (lt_b rfl) rfl ?_
                            refine r_iload hC dL_act_650 rfl ?_
                            refine r_iconst hC dL_act_652 ?_
                            refine r_icmp_ne (t := 667) hC dL_act_653 (by rfl) (by first | exact hI.rf _ | exact hI3.rf _ | exact rg_of hI3.rf _ _ | exact rg_mI _ _ _ | exact rg_way hI.rf _ _ | exact rg_of hI.rf _ _ | exact ⟨by omega, by omega⟩ | assumption) (by first | exact hI.rf _ | exact hI3.rf _ | exact rg_of hI3.rf _ _ | exact rg_mI _ _ _ | exact rg_way hI.rf _ _ | exact rg_of hI.rf _ _ | exact ⟨by omega, by omega⟩ | assumption) (fun h_653 => ?_) (fun h_653 => (by omega))
                            refine r_iload hC dL_act_667 rfl ?_
                            refine vw_widen (by omega) (by omega) (K669 _ _ ?_ (by omega))
                            unfold s_least s_most; rw [if_neg (by omega)]; rw [if_neg (by omega), if_neg (by omega), if_neg (by omega)]; omega
                          · skip
                            refine r_iload hC dL_act_630 rfl ?_
                            refine r_iconst hC dL_act_632 ?_
                            refine r_S0 hC dL_act_633 mi_L_low ss_L_low ml_L_47 (rm := rmL_low) rfl rfl rfl ⟨by omega, by omega⟩ (l_low hfC ⟨by decide, by decide⟩) ?_ rfl
                            refine r_goto (t := 648) hC dL_act_636 (by rfl) ?_
                            refine r_istore (lv' := [_, _, _, _, _, _, _, _, _, _]) hC dL_act_648 (lt_b rfl) rfl (lt_b rfl) rfl ?_
                            refine r_iload hC dL_act_650 rfl ?_
                            refine r_iconst hC dL_act_652 ?_
                            refine r_icmp_ne (t := 667) hC dL_act_653 (by rfl) (by first | exact hI.rf _ | exact hI3.rf _ | exact rg_of hI3.rf _ _ | exact rg_mI _ _ _ | exact rg_way hI.rf _ _ | exact rg_of hI.rf _ _ | exact ⟨by omega, by omega⟩ | assumption) (by first | exact hI.rf _ | exact hI3.rf _ | exact rg_of hI3.rf _ _ | exact rg_mI _ _ _ | exact rg_way hI.rf _ _ | exact rg_of hI.rf _ _ | exact ⟨by omega, by omega⟩ | assumption) (fun h_653 => ?_) (fun h_653 => (by omega))
                            refine r_iload hC dL_act_667 rfl ?_
                            refine vw_widen (by omega) (by omega) (K669 _ _ ?_ (by omega))
                            unfold s_least s_most; rw [if_pos (by omega)]; rw [if_pos (by omega)]; omega
                        · skip
                          refine r_iload hC dL_act_614 rfl ?_
                          refine r_bipush hC dL_act_616 (by rfl) ?_
                          refine r_S0 hC dL_act_618 mi_L_low ss_L_low ml_L_47 (rm := rmL_low) rfl rfl rfl ⟨by omega, by omega⟩ (l_low hfC ⟨by decide, by decide⟩) ?_ rfl
                          refine r_goto (t := 648) hC dL_act_621 (by rfl) ?_
                          refine r_istore (lv' := [_, _, _, _, _, _, _, _, _, _]) hC dL_act_648 (lt_b rfl) rfl (lt_b rfl) rfl ?_
                          refine r_iload hC dL_act_650 rfl ?_
                          refine r_iconst hC dL_act_652 ?_
                          refine r_icmp_ne (t := 667) hC dL_act_653 (by rfl) (by first | exact hI.rf _ | exact hI3.rf _ | exact rg_of hI3.rf _ _ | exact rg_mI _ _ _ | exact rg_way hI.rf _ _ | exact rg_of hI.rf _ _ | exact ⟨by omega, by omega⟩ | assumption) (by first | exact hI.rf _ | exact hI3.rf _ | exact rg_of hI3.rf _ _ | exact rg_mI _ _ _ | exact rg_way hI.rf _ _ | exact rg_of hI.rf _ _ | exact ⟨by omega, by omega⟩ | assumption) (fun h_653 => (by omega)) (fun h_653 => ?_)
                          refine r_iload hC dL_act_656 rfl ?_
                          refine r_iconst hC dL_act_658 ?_
                          refine r_icmp_ne (t := 667) hC dL_act_659 (by rfl) (by first | exact hI.rf _ | exact hI3.rf _ | exact rg_of hI3.rf _ _ | exact rg_mI _ _ _ | exact rg_way hI.rf _ _ | exact rg_of hI.rf _ _ | exact ⟨by omega, by omega⟩ | assumption) (by first | exact hI.rf _ | exact hI3.rf _ | exact rg_of hI3.rf _ _ | exact rg_mI _ _ _ | exact rg_way hI.rf _ _ | exact rg_of hI.rf _ _ | exact ⟨by omega, by omega⟩ | assumption) (fun h_659 => ?_) (fun h_659 => ?_)
                          · skip
                            refine r_iload hC dL_act_667 rfl ?_
                            refine vw_widen (by omega) (by omega) (K669 _ _ ?_ (by omega))
                            unfold s_least s_most; rw [if_pos (by omega), if_neg (by omega), if_neg (by omega), if_neg (by omega)]; omega
                          · skip
                            refine r_bipush hC dL_act_662 (by rfl) ?_
                            refine r_goto (t := 669) hC dL_act_664 (by rfl) ?_
                            refine vw_widen (by omega) (by omega) (K669 _ _ ?_ (by omega))
                            unfold s_least s_most; rw [if_pos (by omega), if_neg (by omega), if_neg (by omega), if_neg (by omega)]; omega
                      · skip
                        refine r_iconst hC dL_act_596 ?_
                        refine r_iload hC dL_act_597 rfl ?_
                        refine r_bipush hC dL_act_599 (by rfl) ?_
                        refine r_S0 hC dL_act_601 mi_L_low ss_L_low ml_L_47 (rm := rmL_low) rfl rfl rfl ⟨by omega, by omega⟩ (l_low hfC ⟨by decide, by decide⟩) ?_ rfl
                        refine r_iadd hC dL_act_604 ?_
                        refine r_goto (t := 648) hC dL_act_605 (by rfl) ?_
                        refine r_istore (lv' := [_, _, _, _, _, _, _, _, _, _]) hC dL_act_648 (lt_b rfl) rfl (lt_b rfl) rfl ?_
                        refine r_iload hC dL_act_650 rfl ?_
                        refine r_iconst hC dL_act_652 ?_
                        refine r_icmp_ne (t := 667) hC dL_act_653 (by rfl) (by first | exact hI.rf _ | exact hI3.rf _ | exact rg_of hI3.rf _ _ | exact rg_mI _ _ _ | exact rg_way hI.rf _ _ | exact rg_of hI.rf _ _ | exact ⟨by omega, by omega⟩ | assumption) (by first | exact hI.rf _ | exact hI3.rf _ | exact rg_of hI3.rf _ _ | exact rg_mI _ _ _ | exact rg_way hI.rf _ _ | exact rg_of hI.rf _ _ | exact ⟨by omega, by omega⟩ | assumption) (fun h_653 => ?_) (fun h_653 => (by omega))
                        refine r_iload hC dL_act_667 rfl ?_
                        refine vw_widen (by omega) (by omega) (K669 _ _ ?_ (by omega))
                        unfold s_least s_most; rw [if_neg (by omega)]; rw [if_neg (by omega), if_neg (by omega), if_pos (by omega)]; omega
                  · skip
                    refine r_iconst hC dL_act_571 ?_
                    refine r_iload hC dL_act_572 rfl ?_
                    refine r_bipush hC dL_act_574 (by rfl) ?_
                    refine r_S0 hC dL_act_576 mi_L_low ss_L_low ml_L_47 (rm := rmL_low) rfl rfl rfl ⟨by omega, by omega⟩ (l_low hfC ⟨by decide, by decide⟩) ?_ rfl
                    refine r_iadd hC dL_act_579 ?_
                    refine r_goto (t := 648) hC dL_act_580 (by rfl) ?_
                    refine r_istore (lv' := [_, _, _, _, _, _, _, _, _, _]) hC dL_act_648 (lt_b rfl) rfl (lt_b rfl) rfl ?_
                    refine r_iload hC dL_act_650 rfl ?_
                    refine r_iconst hC dL_act_652 ?_
                    refine r_icmp_ne (t := 667) hC dL_act_653 (by rfl) (by first | exact hI.rf _ | exact hI3.rf _ | exact rg_of hI3.rf _ _ | exact rg_mI _ _ _ | exact rg_way hI.rf _ _ | exact rg_of hI.rf _ _ | exact ⟨by omega, by omega⟩ | assumption) (by first | exact hI.rf _ | exact hI3.rf _ | exact rg_of hI3.rf _ _ | exact rg_mI _ _ _ | exact rg_way hI.rf _ _ | exact rg_of hI.rf _ _ | exact ⟨by omega, by omega⟩ | assumption) (fun h_653 => ?_) (fun h_653 => (by omega))
                    refine r_iload hC dL_act_667 rfl ?_
                    refine vw_widen (by omega) (by omega) (K669 _ _ ?_ (by omega))
                    unfold s_least s_most; rw [if_neg (by omega)]; rw [if_neg (by omega), if_pos (by omega)]; omega
              · skip
                refine r_aload_n hC dL_act_539 rfl ?_
                refine r_callS (as := [xA x]) hC dL_act_540 mi_L_sweeps ss_L_sweeps ml_L_75 (rm := rmL_sweeps) ⟨le_b rfl, le_b rfl⟩ rfl (le_b rfl) (by show _ + 1200 ≤ _; omega) (by show _ + 8000 ≤ _; omega) (l_sweeps hfC hX0 rP (by rw [hDD]; exact hst) hE (by omega)) ?_ rfl
                rintro _ w3 ⟨rfl, hA⟩
                refine vw_widen (c' := 1300) (z' := 8300) (by show _ + 1200 ≤ _; omega) (by show _ + 8000 ≤ _; omega) ?_
                have hA3 : AP u x kp K (T + 99) (B + 460) (some (xI 1)) w3 := AP.more ⟨rfl, hA⟩ (by omega) (by omega)
                show VW C _ _ [xI 1] w3 1300 8300
                refine r_zret hC hR dL_act_543 (Or.inr rfl) (by omega) (by omega) ?_
                exact hA3
            · skip
              obtain ⟨N, hN⟩ : ∃ N : Nat, f 9 = N := ⟨(f 9).toNat, by omega⟩
              obtain ⟨-, -, -, -, -, -, sg, hsg, -⟩ := hX0.2.2.1.1.l
              have hn9 : (f 9).toNat = N := by omega
              rw [hn9] at hsg
              refine r_aload_n hC dL_act_482 rfl ?_
              refine r_bipush hC dL_act_483 (by rfl) ?_
              refine r_lcnt hC hfC dL_act_485 ml_L_9 hR7 hX0 ⟨by omega, by omega⟩ (show m_countV f s 7 = (N : Int) from hN) (le_b rfl) (by omega) (by omega) ?_
              refine r_istore (lv' := [_, _, _, _, _, _, _, _, _, _]) hC dL_act_488 (lt_b rfl) rfl (lt_b rfl) rfl ?_
              refine r_aload_n hC dL_act_490 rfl ?_
              refine r_bipush hC dL_act_491 (by rfl) ?_
              refine r_lcnt hC hfC dL_act_493 ml_L_9 hR7 hX0 ⟨by omega, by omega⟩ (show m_countV f s 6 = f 5 from rfl) (le_b rfl) (by omega) (by omega) ?_
              refine r_istore (lv' := [_, _, _, _, _, _, _, _, _, _]) hC dL_act_496 (lt_b rfl) rfl (lt_b rfl) rfl ?_
              refine r_iload hC dL_act_498 rfl ?_
              refine r_if_eq (t := 527) hC dL_act_500 (by rfl) (by first | exact hI.rf _ | exact hI3.rf _ | exact rg_of hI3.rf _ _ | exact rg_mI _ _ _ | exact rg_way hI.rf _ _ | exact rg_of hI.rf _ _ | exact ⟨by omega, by omega⟩ | assumption) (fun h_500 => ?_) (fun h_500 => ?_)
              · skip
                refine r_iconst hC dL_act_527 ?_
                refine r_goto (t := 532) hC dL_act_528 (by rfl) ?_
                refine r_zret hC hR dL_act_532 (Or.inr rfl) (by omega) (by omega) ?_
                exact hfin0
              · skip
                obtain ⟨a1, a2, a3⟩ := lose_l hI hE hN hsg (by omega)
                refine r_aload_n hC dL_act_503 rfl ?_
                refine r_mut hC (as := []) dL_act_504 mi_X7_lose se_X7_lose ml_L_72 (rm := rmX7_lose) ⟨le_b rfl, le_b rfl⟩ hX0.1.1 rfl rfl (le_b rfl) (by show _ + 146 ≤ _; omega) (by show _ + 2320 ≤ _; omega) (k_Rl_lose hfC hX0 rP hstC) (by unfold q_lose; rw [if_neg (by omega)]) (fun w3 hX3 hk3 => ?_) rfl
                refine vw_widen (c' := 400) (z' := 3000) (by show _ + 146 ≤ _; omega) (by show _ + 2320 ≤ _; omega) ?_
                rw [a2]
                refine r_iload hC dL_act_507 rfl ?_
                refine r_iconst hC dL_act_509 ?_
                refine r_isub hC dL_act_510 ?_
                refine r_icmp_ne (t := 531) hC dL_act_511 (by rfl) (by first | exact hI.rf _ | exact hI3.rf _ | exact rg_of hI3.rf _ _ | exact rg_mI _ _ _ | exact rg_way hI.rf _ _ | exact rg_of hI.rf _ _ | exact ⟨by omega, by omega⟩ | assumption) (by first | exact hI.rf _ | exact hI3.rf _ | exact rg_of hI3.rf _ _ | exact rg_mI _ _ _ | exact rg_way hI.rf _ _ | exact rg_of hI.rf _ _ | exact ⟨by omega, by omega⟩ | assumption) (fun h_511 => (by omega)) (fun h_511 => ?_)
                refine r_aload_n hC dL_act_514 rfl ?_
                refine r_bipush hC dL_act_515 (by rfl) ?_
                refine r_lcnt hC hfC dL_act_517 ml_L_9 hR7 hX3 ⟨by omega, by omega⟩ (show m_countV (m_lose f) (m_savedN s) 6 = f 5 + 1 from a3) (le_b rfl) (by omega) (by omega) ?_
                refine r_iload hC dL_act_520 rfl ?_
                refine r_iconst hC dL_act_522 ?_
                refine r_iadd hC dL_act_523 ?_
                refine r_icmp_ne (t := 531) hC dL_act_524 (by rfl) (by first | exact hI.rf _ | exact hI3.rf _ | exact rg_of hI3.rf _ _ | exact rg_mI _ _ _ | exact rg_way hI.rf _ _ | exact rg_of hI.rf _ _ | exact ⟨by omega, by omega⟩ | assumption) (by first | exact hI.rf _ | exact hI3.rf _ | exact rg_of hI3.rf _ _ | exact rg_mI _ _ _ | exact rg_way hI.rf _ _ | exact rg_of hI.rf _ _ | exact ⟨by omega, by omega⟩ | assumption) (fun h_524 => absurd rfl h_524) (fun h_524 => ?_)
                refine r_iconst hC dL_act_527 ?_
                refine r_goto (t := 532) hC dL_act_528 (by rfl) ?_
                refine r_zret hC hR dL_act_532 (Or.inr rfl) (by omega) (by omega) ?_
                exact hfin _ _ _ hX3 (by omega) a1 hk3
          · skip
            have hc3 := low_rg ha (n := 3) (by decide)
            have ht := low_rg (b_shr ha 2) (n := 16) (by decide)
            obtain ⟨r, hr3, hre⟩ : ∃ r : Nat, r < 3 ∧ m_low ha 3 = r := ⟨(m_low ha 3).toNat, by omega, by omega⟩
            obtain ⟨a1, a2⟩ := want_l hI hE hr3 (t := m_low (b_shr ha 2) 16) ⟨by omega, by omega⟩
            refine r_iload_n hC dL_act_417 rfl ?_
            refine r_iconst hC dL_act_418 ?_
            refine r_S0 hC dL_act_419 mi_L_low ss_L_low ml_L_47 (rm := rmL_low) rfl rfl rfl ⟨by omega, by omega⟩ (l_low hfC ⟨by decide, by decide⟩) ?_ rfl
            rw [hre]
            refine r_istore (lv' := [_, _, _, _, _, _, _, _, _, _]) hC dL_act_422 (lt_b rfl) rfl (lt_b rfl) rfl ?_
            refine r_aload_n hC dL_act_424 rfl ?_
            refine r_iload hC dL_act_425 rfl ?_
            refine r_iconst hC dL_act_427 ?_
            refine r_lrecv hC hfC dL_act_428 ml_L_19 hR7 hX0 ⟨by omega, by omega⟩ ⟨by omega, by omega⟩ (rcv_le f r (w := 0) (by decide)) (le_b rfl) (by omega) (by omega) ?_
            refine r_istore (lv' := [_, _, _, _, _, _, _, _, _, _]) hC dL_act_431 (lt_b rfl) rfl (lt_b rfl) rfl ?_
            refine r_aload_n hC dL_act_433 rfl ?_
            refine r_iload hC dL_act_434 rfl ?_
            refine r_iload_n hC dL_act_436 rfl ?_
            refine r_iconst hC dL_act_437 ?_
            refine r_ishr hC dL_act_438 ?_
            refine r_bipush hC dL_act_439 (by rfl) ?_
            refine r_S0 hC dL_act_441 mi_L_low ss_L_low ml_L_47 (rm := rmL_low) rfl rfl rfl ⟨by omega, by omega⟩ (l_low hfC ⟨by decide, by decide⟩) ?_ rfl
            refine r_mut hC (as := [xI (r : Int), xI (m_low (b_shr ha 2) 16)]) dL_act_444 mi_X7_want se_X7_want ml_L_69 (rm := rmX7_want) ⟨le_b rfl, le_b rfl⟩ hX0.1.1 rfl rfl (le_b rfl) (by show _ + 146 ≤ _; omega) (by show _ + 2320 ≤ _; omega) (k_Rl_want hfC hX0 rP hstC ⟨by omega, by omega⟩ ⟨by omega, by omega⟩) (by unfold q_want; rw [if_neg (fun z => z (by omega)), if_neg (fun z => z (by omega))]) (fun w3 hX3 hk3 => ?_) rfl
            refine vw_widen (c' := 400) (z' := 3000) (by show _ + 146 ≤ _; omega) (by show _ + 2320 ≤ _; omega) ?_
            refine r_iload hC dL_act_447 rfl ?_
            refine r_icmp_ne (t := 474) hC dL_act_449 (by rfl) (by first | exact hI.rf _ | exact hI3.rf _ | exact rg_of hI3.rf _ _ | exact rg_mI _ _ _ | exact rg_way hI.rf _ _ | exact rg_of hI.rf _ _ | exact ⟨by omega, by omega⟩ | assumption) (by first | exact hI.rf _ | exact hI3.rf _ | exact rg_of hI3.rf _ _ | exact rg_mI _ _ _ | exact rg_way hI.rf _ _ | exact rg_of hI.rf _ _ | exact ⟨by omega, by omega⟩ | assumption) (fun h_449 => absurd rfl h_449) (fun h_449 => ?_)
            refine r_aload_n hC dL_act_452 rfl ?_
            refine r_iload hC dL_act_453 rfl ?_
            refine r_iconst hC dL_act_455 ?_
            refine r_lrecv hC hfC dL_act_456 ml_L_19 hR7 hX3 ⟨by omega, by omega⟩ ⟨by omega, by omega⟩ ((rcv_le _ r (w := 0) (by decide)).trans a2) (le_b rfl) (by omega) (by omega) ?_
            refine r_iload_n hC dL_act_459 rfl ?_
            refine r_iconst hC dL_act_460 ?_
            refine r_ishr hC dL_act_461 ?_
            refine r_bipush hC dL_act_462 (by rfl) ?_
            refine r_S0 hC dL_act_464 mi_L_low ss_L_low ml_L_47 (rm := rmL_low) rfl rfl rfl ⟨by omega, by omega⟩ (l_low hfC ⟨by decide, by decide⟩) ?_ rfl
            refine r_icmp_ne (t := 474) hC dL_act_467 (by rfl) (by first | exact hI.rf _ | exact hI3.rf _ | exact rg_of hI3.rf _ _ | exact rg_mI _ _ _ | exact rg_way hI.rf _ _ | exact rg_of hI.rf _ _ | exact ⟨by omega, by omega⟩ | assumption) (by first | exact hI.rf _ | exact hI3.rf _ | exact rg_of hI3.rf _ _ | exact rg_mI _ _ _ | exact rg_way hI.rf _ _ | exact rg_of hI.rf _ _ | exact ⟨by omega, by omega⟩ | assumption) (fun h_467 => absurd rfl h_467) (fun h_467 => ?_)
            refine r_iconst hC dL_act_470 ?_
            refine r_goto (t := 475) hC dL_act_471 (by rfl) ?_
            refine r_zret hC hR dL_act_475 (Or.inr rfl) (by omega) (by omega) ?_
            exact hfin _ _ _ hX3 (by omega) a1 hk3
        · skip
          refine r_aload_n hC dL_act_361 rfl ?_
          refine r_iconst hC dL_act_362 ?_
          refine r_lcnt hC hfC dL_act_363 ml_L_9 hR7 hX0 ⟨by omega, by omega⟩ (show m_countV f s 3 = m_kept f from rfl) (le_b rfl) (by omega) (by omega) ?_
          refine r_istore (lv' := [_, _, _, _, _, _, _, _, _, _]) hC dL_act_366 (lt_b rfl) rfl (lt_b rfl) rfl ?_
          rcases hrr with ⟨ho, hr1⟩ | ⟨ho, hr1⟩
          · skip
            refine r_iload hC dL_act_368 rfl ?_
            refine r_if_lt (t := 405) hC dL_act_370 (by rfl) (by first | exact hI.rf _ | exact hI3.rf _ | exact rg_of hI3.rf _ _ | exact rg_mI _ _ _ | exact rg_way hI.rf _ _ | exact rg_of hI.rf _ _ | exact ⟨by omega, by omega⟩ | assumption) (fun h_370 => ?_) (fun h_370 => (by omega))
            refine r_iconst hC dL_act_405 ?_
            refine r_goto (t := 410) hC dL_act_406 (by rfl) ?_
            refine r_zret hC hR dL_act_410 (Or.inr rfl) (by omega) (by omega) ?_
            exact hfin0
          · obtain ⟨a1, a2, a3, a4⟩ := drops_l hI hE hp4 ho
            refine r_iload hC dL_act_368 rfl ?_
            refine r_if_lt (t := 405) hC dL_act_370 (by rfl) (by first | exact hI.rf _ | exact hI3.rf _ | exact rg_of hI3.rf _ _ | exact rg_mI _ _ _ | exact rg_way hI.rf _ _ | exact rg_of hI.rf _ _ | exact ⟨by omega, by omega⟩ | assumption) (fun h_370 => (by omega)) (fun h_370 => ?_)
            refine r_aload_n hC dL_act_373 rfl ?_
            refine r_iload hC dL_act_374 rfl ?_
            refine r_mut hC (as := [xI (p : Int)]) dL_act_376 mi_X7_drop se_X7_drop ml_L_66 (rm := rmX7_drop) ⟨le_b rfl, le_b rfl⟩ hX0.1.1 rfl rfl (le_b rfl) (by show _ + 146 ≤ _; omega) (by show _ + 2320 ≤ _; omega) (k_Rl_drop hfC hX0 rP hstC ⟨by omega, by omega⟩) (by unfold q_drop; rw [if_neg (by rw [ho]; decide)]) (fun w3 hX3 hk3 => ?_) rfl
            refine vw_widen (c' := 400) (z' := 3000) (by show _ + 146 ≤ _; omega) (by show _ + 2320 ≤ _; omega) ?_
            rw [a1]
            refine r_iload hC dL_act_379 rfl ?_
            refine r_icmp_ne (t := 409) hC dL_act_381 (by rfl) (by first | exact hI.rf _ | exact hI3.rf _ | exact rg_of hI3.rf _ _ | exact rg_mI _ _ _ | exact rg_way hI.rf _ _ | exact rg_of hI.rf _ _ | exact ⟨by omega, by omega⟩ | assumption) (by first | exact hI.rf _ | exact hI3.rf _ | exact rg_of hI3.rf _ _ | exact rg_mI _ _ _ | exact rg_way hI.rf _ _ | exact rg_of hI.rf _ _ | exact ⟨by omega, by omega⟩ | assumption) (fun h_381 => (by omega)) (fun h_381 => ?_)
            refine r_aload_n hC dL_act_384 rfl ?_
            refine r_iconst hC dL_act_385 ?_
            refine r_lcnt hC hfC dL_act_386 ml_L_9 hR7 hX3 ⟨by omega, by omega⟩ (show m_countV (m_drops f p) (m_savedN s) 3 = m_kept f from a4) (le_b rfl) (by omega) (by omega) ?_
            refine r_iload hC dL_act_389 rfl ?_
            refine r_icmp_ne (t := 409) hC dL_act_391 (by rfl) (by first | exact hI.rf _ | exact hI3.rf _ | exact rg_of hI3.rf _ _ | exact rg_mI _ _ _ | exact rg_way hI.rf _ _ | exact rg_of hI.rf _ _ | exact ⟨by omega, by omega⟩ | assumption) (by first | exact hI.rf _ | exact hI3.rf _ | exact rg_of hI3.rf _ _ | exact rg_mI _ _ _ | exact rg_way hI.rf _ _ | exact rg_of hI.rf _ _ | exact ⟨by omega, by omega⟩ | assumption) (fun h_391 => absurd rfl h_391) (fun h_391 => ?_)
            refine r_aload_n hC dL_act_394 rfl ?_
            refine r_iload hC dL_act_395 rfl ?_
            refine r_iconst hC dL_act_397 ?_
            refine r_ltran hC hfC dL_act_398 ml_L_50 hR7 hX3 ⟨by omega, by omega⟩ ⟨by omega, by omega⟩ (tr_no a3 1) (le_b rfl) (by omega) (by omega) ?_
            refine r_iconst hC dL_act_401 ?_
            refine r_icmp_ne (t := 409) hC dL_act_402 (by rfl) (by first | exact hI.rf _ | exact hI3.rf _ | exact rg_of hI3.rf _ _ | exact rg_mI _ _ _ | exact rg_way hI.rf _ _ | exact rg_of hI.rf _ _ | exact ⟨by omega, by omega⟩ | assumption) (by first | exact hI.rf _ | exact hI3.rf _ | exact rg_of hI3.rf _ _ | exact rg_mI _ _ _ | exact rg_way hI.rf _ _ | exact rg_of hI.rf _ _ | exact ⟨by omega, by omega⟩ | assumption) (fun h_402 => absurd rfl h_402) (fun h_402 => ?_)
            refine r_iconst hC dL_act_405 ?_
            refine r_goto (t := 410) hC dL_act_406 (by rfl) ?_
            refine r_zret hC hR dL_act_410 (Or.inr rfl) (by omega) (by omega) ?_
            exact hfin _ _ _ hX3 (by omega) a2 hk3
      · skip
        rcases hrr with ⟨ho, hr1⟩ | ⟨ho, hr1⟩
        · skip
          refine r_iload hC dL_act_263 rfl ?_
          refine r_if_lt (t := 295) hC dL_act_265 (by rfl) (by first | exact hI.rf _ | exact hI3.rf _ | exact rg_of hI3.rf _ _ | exact rg_mI _ _ _ | exact rg_way hI.rf _ _ | exact rg_of hI.rf _ _ | exact ⟨by omega, by omega⟩ | assumption) (fun h_265 => ?_) (fun h_265 => (by omega))
          refine r_iconst hC dL_act_295 ?_
          refine r_zret hC hR dL_act_296 (Or.inr rfl) (by omega) (by omega) ?_
          exact hfin0
        · skip
          refine r_iload hC dL_act_263 rfl ?_
          refine r_if_lt (t := 295) hC dL_act_265 (by rfl) (by first | exact hI.rf _ | exact hI3.rf _ | exact rg_of hI3.rf _ _ | exact rg_mI _ _ _ | exact rg_way hI.rf _ _ | exact rg_of hI.rf _ _ | exact ⟨by omega, by omega⟩ | assumption) (fun h_265 => (by omega)) (fun h_265 => ?_)
          refine r_aload_n hC dL_act_268 rfl ?_
          refine r_iconst hC dL_act_269 ?_
          refine r_lcnt hC hfC dL_act_270 ml_L_9 hR7 hX0 ⟨by omega, by omega⟩ (show m_countV f s 3 = m_kept f from rfl) (le_b rfl) (by omega) (by omega) ?_
          refine r_iload hC dL_act_273 rfl ?_
          refine r_iadd hC dL_act_275 ?_
          refine r_bipush hC dL_act_276 (by rfl) ?_
          refine r_icmp_gt (t := 295) hC dL_act_278 (by rfl) (by first | exact hI.rf _ | exact hI3.rf _ | exact rg_of hI3.rf _ _ | exact rg_mI _ _ _ | exact rg_way hI.rf _ _ | exact rg_of hI.rf _ _ | exact ⟨by omega, by omega⟩ | assumption) (by first | exact hI.rf _ | exact hI3.rf _ | exact rg_of hI3.rf _ _ | exact rg_mI _ _ _ | exact rg_way hI.rf _ _ | exact rg_of hI.rf _ _ | exact ⟨by omega, by omega⟩ | assumption) (fun h_278 => ?_) (fun h_278 => ?_)
          · skip
            refine r_iconst hC dL_act_295 ?_
            refine r_zret hC hR dL_act_296 (Or.inr rfl) (by omega) (by omega) ?_
            exact hfin0
          · skip
            refine r_aload_n hC dL_act_281 rfl ?_
            refine r_iconst hC dL_act_282 ?_
            refine r_lcnt hC hfC dL_act_283 ml_L_9 hR7 hX0 ⟨by omega, by omega⟩ (show m_countV f s 2 = f 2 from rfl) (le_b rfl) (by omega) (by omega) ?_
            refine r_iload hC dL_act_286 rfl ?_
            refine r_iadd hC dL_act_288 ?_
            refine r_sipush hC dL_act_289 (by rfl) ?_
            refine r_icmp_le (t := 297) hC dL_act_292 (by rfl) (by first | exact hI.rf _ | exact hI3.rf _ | exact rg_of hI3.rf _ _ | exact rg_mI _ _ _ | exact rg_way hI.rf _ _ | exact rg_of hI.rf _ _ | exact ⟨by omega, by omega⟩ | assumption) (by first | exact hI.rf _ | exact hI3.rf _ | exact rg_of hI3.rf _ _ | exact rg_mI _ _ _ | exact rg_way hI.rf _ _ | exact rg_of hI.rf _ _ | exact ⟨by omega, by omega⟩ | assumption) (fun h_292 => ?_) (fun h_292 => ?_)
            · skip
              obtain ⟨a1, a2, a3, a4, a5⟩ := commits_l hI hE hp4 ho (by omega) (by omega)
              refine r_aload_n hC dL_act_297 rfl ?_
              refine r_iconst hC dL_act_298 ?_
              refine r_lcnt hC hfC dL_act_299 ml_L_9 hR7 hX0 ⟨by omega, by omega⟩ (show m_countV f s 3 = m_kept f from rfl) (le_b rfl) (by omega) (by omega) ?_
              refine r_istore (lv' := [_, _, _, _, _, _, _, _, _, _]) hC dL_act_302 (lt_b rfl) rfl (lt_b rfl) rfl ?_
              refine r_aload_n hC dL_act_304 rfl ?_
              refine r_iconst hC dL_act_305 ?_
              refine r_lcnt hC hfC dL_act_306 ml_L_9 hR7 hX0 ⟨by omega, by omega⟩ (show m_countV f s 2 = f 2 from rfl) (le_b rfl) (by omega) (by omega) ?_
              refine r_istore (lv' := [_, _, _, _, _, _, _, _, _, _]) hC dL_act_309 (lt_b rfl) rfl (lt_b rfl) rfl ?_
              refine r_aload_n hC dL_act_311 rfl ?_
              refine r_iload hC dL_act_312 rfl ?_
              refine r_mut hC (as := [xI (p : Int)]) dL_act_314 mi_X7_commit se_X7_commit ml_L_63 (rm := rmX7_commit) ⟨le_b rfl, le_b rfl⟩ hX0.1.1 rfl rfl (le_b rfl) (by show _ + 146 ≤ _; omega) (by show _ + 2320 ≤ _; omega) (k_Rl_commit hfC hX0 rP hstC ⟨by omega, by omega⟩) a1 (fun w3 hX3 hk3 => ?_) rfl
              refine vw_widen (c' := 400) (z' := 3000) (by show _ + 146 ≤ _; omega) (by show _ + 2320 ≤ _; omega) ?_
              rw [a2]
              refine r_iload hC dL_act_317 rfl ?_
              refine r_iload hC dL_act_319 rfl ?_
              refine r_iadd hC dL_act_321 ?_
              refine r_icmp_ne (t := 353) hC dL_act_322 (by rfl) (by first | exact hI.rf _ | exact hI3.rf _ | exact rg_of hI3.rf _ _ | exact rg_mI _ _ _ | exact rg_way hI.rf _ _ | exact rg_of hI.rf _ _ | exact ⟨by omega, by omega⟩ | assumption) (by first | exact hI.rf _ | exact hI3.rf _ | exact rg_of hI3.rf _ _ | exact rg_mI _ _ _ | exact rg_way hI.rf _ _ | exact rg_of hI.rf _ _ | exact ⟨by omega, by omega⟩ | assumption) (fun h_322 => (by omega)) (fun h_322 => ?_)
              refine r_aload_n hC dL_act_325 rfl ?_
              refine r_iconst hC dL_act_326 ?_
              refine r_lcnt hC hfC dL_act_327 ml_L_9 hR7 hX3 ⟨by omega, by omega⟩ (show m_countV (m_commits f p) (m_savedN s) 2 = f 2 + m_its f p 1 from a4) (le_b rfl) (by omega) (by omega) ?_
              refine r_iload hC dL_act_330 rfl ?_
              refine r_iload hC dL_act_332 rfl ?_
              refine r_iadd hC dL_act_334 ?_
              refine r_icmp_ne (t := 353) hC dL_act_335 (by rfl) (by first | exact hI.rf _ | exact hI3.rf _ | exact rg_of hI3.rf _ _ | exact rg_mI _ _ _ | exact rg_way hI.rf _ _ | exact rg_of hI.rf _ _ | exact ⟨by omega, by omega⟩ | assumption) (by first | exact hI.rf _ | exact hI3.rf _ | exact rg_of hI3.rf _ _ | exact rg_mI _ _ _ | exact rg_way hI.rf _ _ | exact rg_of hI.rf _ _ | exact ⟨by omega, by omega⟩ | assumption) (fun h_335 => (by omega)) (fun h_335 => ?_)
              refine r_aload_n hC dL_act_338 rfl ?_
              refine r_iload hC dL_act_339 rfl ?_
              refine r_iconst hC dL_act_341 ?_
              refine r_ltran hC hfC dL_act_342 ml_L_50 hR7 hX3 ⟨by omega, by omega⟩ ⟨by omega, by omega⟩ (tr_no a5 0) (le_b rfl) (by omega) (by omega) ?_
              refine r_iconst hC dL_act_345 ?_
              refine r_icmp_ne (t := 353) hC dL_act_346 (by rfl) (by first | exact hI.rf _ | exact hI3.rf _ | exact rg_of hI3.rf _ _ | exact rg_mI _ _ _ | exact rg_way hI.rf _ _ | exact rg_of hI.rf _ _ | exact ⟨by omega, by omega⟩ | assumption) (by first | exact hI.rf _ | exact hI3.rf _ | exact rg_of hI3.rf _ _ | exact rg_mI _ _ _ | exact rg_way hI.rf _ _ | exact rg_of hI.rf _ _ | exact ⟨by omega, by omega⟩ | assumption) (fun h_346 => absurd rfl h_346) (fun h_346 => ?_)
              refine r_iconst hC dL_act_349 ?_
              refine r_goto (t := 354) hC dL_act_350 (by rfl) ?_
              refine r_zret hC hR dL_act_354 (Or.inr rfl) (by omega) (by omega) ?_
              exact hfin _ _ _ hX3 (by omega) a3 hk3
            · skip
              refine r_iconst hC dL_act_295 ?_
              refine r_zret hC hR dL_act_296 (Or.inr rfl) (by omega) (by omega) ?_
              exact hfin0
    · skip
      rcases hrr with ⟨ho, hr1⟩ | ⟨ho, hr1⟩
      · have hsk : m_skip f p 0 = -1 := if_pos ho
        refine r_iload hC dL_act_117 rfl ?_
        refine r_if_lt (t := 129) hC dL_act_119 (by rfl) (by first | exact hI.rf _ | exact hI3.rf _ | exact rg_of hI3.rf _ _ | exact rg_mI _ _ _ | exact rg_way hI.rf _ _ | exact rg_of hI.rf _ _ | exact ⟨by omega, by omega⟩ | assumption) (fun h_119 => ?_) (fun h_119 => (by omega))
        refine r_iload hC dL_act_129 rfl ?_
        refine r_bipush hC dL_act_131 (by rfl) ?_
        refine r_icmp_eq (t := 158) hC dL_act_133 (by rfl) (by first | exact hI.rf _ | exact hI3.rf _ | exact rg_of hI3.rf _ _ | exact rg_mI _ _ _ | exact rg_way hI.rf _ _ | exact rg_of hI.rf _ _ | exact ⟨by omega, by omega⟩ | assumption) (by first | exact hI.rf _ | exact hI3.rf _ | exact rg_of hI3.rf _ _ | exact rg_mI _ _ _ | exact rg_way hI.rf _ _ | exact rg_of hI.rf _ _ | exact ⟨by omega, by omega⟩ | assumption) (fun h_133 => (by omega)) (fun h_133 => ?_)
        refine r_aload_n hC dL_act_136 rfl ?_
        refine r_iload hC dL_act_137 rfl ?_
        refine r_iconst hC dL_act_139 ?_
        refine r_ltran hC hfC dL_act_140 ml_L_50 hR7 hX0 ⟨by omega, by omega⟩ ⟨by omega, by omega⟩ (tr_no ho 2) (le_b rfl) (by omega) (by omega) ?_
        refine r_iconst hC dL_act_143 ?_
        refine r_icmp_ne (t := 162) hC dL_act_144 (by rfl) (by first | exact hI.rf _ | exact hI3.rf _ | exact rg_of hI3.rf _ _ | exact rg_mI _ _ _ | exact rg_way hI.rf _ _ | exact rg_of hI.rf _ _ | exact ⟨by omega, by omega⟩ | assumption) (by first | exact hI.rf _ | exact hI3.rf _ | exact rg_of hI3.rf _ _ | exact rg_mI _ _ _ | exact rg_way hI.rf _ _ | exact rg_of hI.rf _ _ | exact ⟨by omega, by omega⟩ | assumption) (fun h_144 => absurd rfl h_144) (fun h_144 => ?_)
        refine r_aload_n hC dL_act_147 rfl ?_
        refine r_iload hC dL_act_148 rfl ?_
        refine r_iconst hC dL_act_150 ?_
        refine r_lskip hC hfC dL_act_151 ml_L_56 hR7 hX0 ⟨by omega, by omega⟩ ⟨by omega, by omega⟩ hsk (le_b rfl) (by omega) (by omega) ?_
        refine r_iconst hC dL_act_154 ?_
        refine r_icmp_ne (t := 162) hC dL_act_155 (by rfl) (by first | exact hI.rf _ | exact hI3.rf _ | exact rg_of hI3.rf _ _ | exact rg_mI _ _ _ | exact rg_way hI.rf _ _ | exact rg_of hI.rf _ _ | exact ⟨by omega, by omega⟩ | assumption) (by first | exact hI.rf _ | exact hI3.rf _ | exact rg_of hI3.rf _ _ | exact rg_mI _ _ _ | exact rg_way hI.rf _ _ | exact rg_of hI.rf _ _ | exact ⟨by omega, by omega⟩ | assumption) (fun h_155 => absurd rfl h_155) (fun h_155 => ?_)
        refine r_iconst hC dL_act_158 ?_
        refine r_goto (t := 163) hC dL_act_159 (by rfl) ?_
        refine r_zret hC hR dL_act_163 (Or.inr rfl) (by omega) (by omega) ?_
        exact hfin0
      · by_cases h6 : ro = 6
        · skip
          refine r_iload hC dL_act_117 rfl ?_
          refine r_if_lt (t := 129) hC dL_act_119 (by rfl) (by first | exact hI.rf _ | exact hI3.rf _ | exact rg_of hI3.rf _ _ | exact rg_mI _ _ _ | exact rg_way hI.rf _ _ | exact rg_of hI.rf _ _ | exact ⟨by omega, by omega⟩ | assumption) (fun h_119 => (by omega)) (fun h_119 => ?_)
          refine r_iload hC dL_act_122 rfl ?_
          refine r_bipush hC dL_act_124 (by rfl) ?_
          refine r_icmp_ne (t := 164) hC dL_act_126 (by rfl) (by first | exact hI.rf _ | exact hI3.rf _ | exact rg_of hI3.rf _ _ | exact rg_mI _ _ _ | exact rg_way hI.rf _ _ | exact rg_of hI.rf _ _ | exact ⟨by omega, by omega⟩ | assumption) (by first | exact hI.rf _ | exact hI3.rf _ | exact rg_of hI3.rf _ _ | exact rg_mI _ _ _ | exact rg_way hI.rf _ _ | exact rg_of hI.rf _ _ | exact ⟨by omega, by omega⟩ | assumption) (fun h_126 => (by omega)) (fun h_126 => ?_)
          refine r_iload hC dL_act_129 rfl ?_
          refine r_bipush hC dL_act_131 (by rfl) ?_
          refine r_icmp_eq (t := 158) hC dL_act_133 (by rfl) (by first | exact hI.rf _ | exact hI3.rf _ | exact rg_of hI3.rf _ _ | exact rg_mI _ _ _ | exact rg_way hI.rf _ _ | exact rg_of hI.rf _ _ | exact ⟨by omega, by omega⟩ | assumption) (by first | exact hI.rf _ | exact hI3.rf _ | exact rg_of hI3.rf _ _ | exact rg_mI _ _ _ | exact rg_way hI.rf _ _ | exact rg_of hI.rf _ _ | exact ⟨by omega, by omega⟩ | assumption) (fun h_133 => ?_) (fun h_133 => (by omega))
          refine r_iconst hC dL_act_158 ?_
          refine r_goto (t := 163) hC dL_act_159 (by rfl) ?_
          refine r_zret hC hR dL_act_163 (Or.inr rfl) (by omega) (by omega) ?_
          exact hfin0
        · skip
          have ht := low_rg ha (n := 4) (by decide)
          have hv := low_rg (b_shr ha 2) (n := 100) (by decide)
          obtain ⟨a1, a2, a3, a4, a5, a6, a7⟩ := writes_l hI hE (by omega) hp4 ho (by omega) (t := m_low ha 4) (v := m_low (b_shr ha 2) 100) ⟨by omega, by omega⟩ ⟨by omega, by omega⟩
          refine r_iload hC dL_act_117 rfl ?_
          refine r_if_lt (t := 129) hC dL_act_119 (by rfl) (by first | exact hI.rf _ | exact hI3.rf _ | exact rg_of hI3.rf _ _ | exact rg_mI _ _ _ | exact rg_way hI.rf _ _ | exact rg_of hI.rf _ _ | exact ⟨by omega, by omega⟩ | assumption) (fun h_119 => (by omega)) (fun h_119 => ?_)
          refine r_iload hC dL_act_122 rfl ?_
          refine r_bipush hC dL_act_124 (by rfl) ?_
          refine r_icmp_ne (t := 164) hC dL_act_126 (by rfl) (by first | exact hI.rf _ | exact hI3.rf _ | exact rg_of hI3.rf _ _ | exact rg_mI _ _ _ | exact rg_way hI.rf _ _ | exact rg_of hI.rf _ _ | exact ⟨by omega, by omega⟩ | assumption) (by first | exact hI.rf _ | exact hI3.rf _ | exact rg_of hI3.rf _ _ | exact rg_mI _ _ _ | exact rg_way hI.rf _ _ | exact rg_of hI.rf _ _ | exact ⟨by omega, by omega⟩ | assumption) (fun h_126 => ?_) (fun h_126 => (by omega))
          refine r_aload_n hC dL_act_164 rfl ?_
          refine r_iload hC dL_act_165 rfl ?_
          refine r_iconst hC dL_act_167 ?_
          refine r_ltran hC hfC dL_act_168 ml_L_50 hR7 hX0 ⟨by omega, by omega⟩ ⟨by omega, by omega⟩ (tr_2 ho) (le_b rfl) (by omega) (by omega) ?_
          refine r_istore (lv' := [_, _, _, _, _, _, _, _, _, _]) hC dL_act_171 (lt_b rfl) rfl (lt_b rfl) rfl ?_
          refine r_aload_n hC dL_act_173 rfl ?_
          refine r_iconst hC dL_act_174 ?_
          refine r_lcnt hC hfC dL_act_175 ml_L_9 hR7 hX0 ⟨by omega, by omega⟩ (show m_countV f s 1 = f 1 from rfl) (le_b rfl) (by omega) (by omega) ?_
          refine r_istore (lv' := [_, _, _, _, _, _, _, _, _, _]) hC dL_act_178 (lt_b rfl) rfl (lt_b rfl) rfl ?_
          refine r_aload_n hC dL_act_180 rfl ?_
          refine r_iload hC dL_act_181 rfl ?_
          refine r_iload_n hC dL_act_183 rfl ?_
          refine r_iconst hC dL_act_184 ?_
          refine r_S0 hC dL_act_185 mi_L_low ss_L_low ml_L_47 (rm := rmL_low) rfl rfl rfl ⟨by omega, by omega⟩ (l_low hfC ⟨by decide, by decide⟩) ?_ rfl
          refine r_iload_n hC dL_act_188 rfl ?_
          refine r_iconst hC dL_act_189 ?_
          refine r_ishr hC dL_act_190 ?_
          refine r_bipush hC dL_act_191 (by rfl) ?_
          refine r_S0 hC dL_act_193 mi_L_low ss_L_low ml_L_47 (rm := rmL_low) rfl rfl rfl ⟨by omega, by omega⟩ (l_low hfC ⟨by decide, by decide⟩) ?_ rfl
          refine r_mut hC (as := [xI (p : Int), xI (m_low ha 4), xI (m_low (b_shr ha 2) 100)]) dL_act_196 mi_X7_write se_X7_write ml_L_59 (rm := rmX7_write) ⟨le_b rfl, le_b rfl⟩ hX0.1.1 rfl rfl (le_b rfl) (by show _ + 146 ≤ _; omega) (by show _ + 2320 ≤ _; omega) (k_Rl_write hfC hX0 rP hstC ⟨by omega, by omega⟩ ⟨by omega, by omega⟩ ⟨by omega, by omega⟩ (by omega)) a1 (fun w3 hX3 hk3 => ?_) rfl
          refine vw_widen (c' := 400) (z' := 3000) (by show _ + 146 ≤ _; omega) (by show _ + 2320 ≤ _; omega) ?_
          rw [a2]
          refine r_iload hC dL_act_199 rfl ?_
          refine r_icmp_ne (t := 255) hC dL_act_201 (by rfl) (by first | exact hI.rf _ | exact hI3.rf _ | exact rg_of hI3.rf _ _ | exact rg_mI _ _ _ | exact rg_way hI.rf _ _ | exact rg_of hI.rf _ _ | exact ⟨by omega, by omega⟩ | assumption) (by first | exact hI.rf _ | exact hI3.rf _ | exact rg_of hI3.rf _ _ | exact rg_mI _ _ _ | exact rg_way hI.rf _ _ | exact rg_of hI.rf _ _ | exact ⟨by omega, by omega⟩ | assumption) (fun h_201 => absurd rfl h_201) (fun h_201 => ?_)
          refine r_aload_n hC dL_act_204 rfl ?_
          refine r_iload hC dL_act_205 rfl ?_
          refine r_iconst hC dL_act_207 ?_
          refine r_ltran hC hfC dL_act_208 ml_L_50 hR7 hX3 ⟨by omega, by omega⟩ ⟨by omega, by omega⟩ ((tr_0 a4).trans a5) (le_b rfl) (by omega) (by omega) ?_
          refine r_iload hC dL_act_211 rfl ?_
          refine r_iconst hC dL_act_213 ?_
          refine r_iadd hC dL_act_214 ?_
          refine r_icmp_ne (t := 255) hC dL_act_215 (by rfl) (by first | exact hI.rf _ | exact hI3.rf _ | exact rg_of hI3.rf _ _ | exact rg_mI _ _ _ | exact rg_way hI.rf _ _ | exact rg_of hI.rf _ _ | exact ⟨by omega, by omega⟩ | assumption) (by first | exact hI.rf _ | exact hI3.rf _ | exact rg_of hI3.rf _ _ | exact rg_mI _ _ _ | exact rg_way hI.rf _ _ | exact rg_of hI.rf _ _ | exact ⟨by omega, by omega⟩ | assumption) (fun h_215 => (by omega)) (fun h_215 => ?_)
          refine r_aload_n hC dL_act_218 rfl ?_
          refine r_iload hC dL_act_219 rfl ?_
          refine r_iconst hC dL_act_221 ?_
          refine r_ltran hC hfC dL_act_222 ml_L_50 hR7 hX3 ⟨by omega, by omega⟩ ⟨by omega, by omega⟩ ((tr_2 a4).trans a6) (le_b rfl) (by omega) (by omega) ?_
          refine r_iload hC dL_act_225 rfl ?_
          refine r_iload_n hC dL_act_227 rfl ?_
          refine r_iconst hC dL_act_228 ?_
          refine r_ishr hC dL_act_229 ?_
          refine r_bipush hC dL_act_230 (by rfl) ?_
          refine r_S0 hC dL_act_232 mi_L_low ss_L_low ml_L_47 (rm := rmL_low) rfl rfl rfl ⟨by omega, by omega⟩ (l_low hfC ⟨by decide, by decide⟩) ?_ rfl
          refine r_iadd hC dL_act_235 ?_
          refine r_icmp_ne (t := 255) hC dL_act_236 (by rfl) (by first | exact hI.rf _ | exact hI3.rf _ | exact rg_of hI3.rf _ _ | exact rg_mI _ _ _ | exact rg_way hI.rf _ _ | exact rg_of hI.rf _ _ | exact ⟨by omega, by omega⟩ | assumption) (by first | exact hI.rf _ | exact hI3.rf _ | exact rg_of hI3.rf _ _ | exact rg_mI _ _ _ | exact rg_way hI.rf _ _ | exact rg_of hI.rf _ _ | exact ⟨by omega, by omega⟩ | assumption) (fun h_236 => absurd rfl h_236) (fun h_236 => ?_)
          refine r_aload_n hC dL_act_239 rfl ?_
          refine r_iconst hC dL_act_240 ?_
          refine r_lcnt hC hfC dL_act_241 ml_L_9 hR7 hX3 ⟨by omega, by omega⟩ (show m_countV (m_writes f p (m_low ha 4) (m_low (b_shr ha 2) 100)) (m_savedN s) 1 = f 1 + 1 from a7) (le_b rfl) (by omega) (by omega) ?_
          refine r_iload hC dL_act_244 rfl ?_
          refine r_iconst hC dL_act_246 ?_
          refine r_iadd hC dL_act_247 ?_
          refine r_icmp_ne (t := 255) hC dL_act_248 (by rfl) (by first | exact hI.rf _ | exact hI3.rf _ | exact rg_of hI3.rf _ _ | exact rg_mI _ _ _ | exact rg_way hI.rf _ _ | exact rg_of hI.rf _ _ | exact ⟨by omega, by omega⟩ | assumption) (by first | exact hI.rf _ | exact hI3.rf _ | exact rg_of hI3.rf _ _ | exact rg_mI _ _ _ | exact rg_way hI.rf _ _ | exact rg_of hI.rf _ _ | exact ⟨by omega, by omega⟩ | assumption) (fun h_248 => absurd rfl h_248) (fun h_248 => ?_)
          refine r_iconst hC dL_act_251 ?_
          refine r_goto (t := 256) hC dL_act_252 (by rfl) ?_
          refine r_zret hC hR dL_act_256 (Or.inr rfl) (by omega) (by omega) ?_
          exact hfin _ _ _ hX3 (by omega) a3 hk3
  · skip
    refine r_aload_n hC dL_act_30 rfl ?_
    refine r_bipush hC dL_act_31 (by rfl) ?_
    refine r_lcnt hC hfC dL_act_33 ml_L_9 hR7 hX0 ⟨by omega, by omega⟩ (show m_countV f s 10 = m_openOnes f from rfl) (le_b rfl) (by omega) (by omega) ?_
    refine r_iconst hC dL_act_36 ?_
    refine r_icmp_ne (t := 42) hC dL_act_37 (by rfl) (by first | exact hI.rf _ | exact hI3.rf _ | exact rg_of hI3.rf _ _ | exact rg_mI _ _ _ | exact rg_way hI.rf _ _ | exact rg_of hI.rf _ _ | exact ⟨by omega, by omega⟩ | assumption) (by first | exact hI.rf _ | exact hI3.rf _ | exact rg_of hI3.rf _ _ | exact rg_mI _ _ _ | exact rg_way hI.rf _ _ | exact rg_of hI.rf _ _ | exact ⟨by omega, by omega⟩ | assumption) (fun h_37 => ?_) (fun h_37 => ?_)
    · skip
      refine r_aload_n hC dL_act_42 rfl ?_
      refine r_bipush hC dL_act_43 (by rfl) ?_
      refine r_lcnt hC hfC dL_act_45 ml_L_9 hR7 hX0 ⟨by omega, by omega⟩ (show m_countV f s 10 = m_openOnes f from rfl) (le_b rfl) (by omega) (by omega) ?_
      refine r_istore (lv' := [_, _, _, _, _, _, _, _, _, _]) hC dL_act_48 (lt_b rfl) rfl (lt_b rfl) rfl ?_
      refine r_aload_n hC dL_act_50 rfl ?_
      obtain ⟨q, hq, hf, b1, b2, b3⟩ := begins_l hI h_37
      refine r_mut hC (as := []) dL_act_51 mi_X7_begin se_X7_begin ml_L_53 (rm := rmX7_begin) ⟨le_b rfl, le_b rfl⟩ hX0.1.1 rfl rfl (le_b rfl) (by show _ + 146 ≤ _; omega) (by show _ + 2320 ≤ _; omega) (k_Rl_begin hfC hX0 rP hstC) (by unfold q_begin; rw [if_neg (by omega)]) (fun w3 hX3 hk3 => ?_) rfl
      refine vw_widen (c' := 400) (z' := 3000) (by show _ + 146 ≤ _; omega) (by show _ + 2320 ≤ _; omega) ?_
      rw [hf]
      have hv0 : m_vals (m_begins f) q = 0 := by unfold m_vals; rw [b2]; rfl
      refine r_istore (lv' := [_, _, _, _, _, _, _, _, _, _]) hC dL_act_54 (lt_b rfl) rfl (lt_b rfl) rfl ?_
      refine r_iload hC dL_act_56 rfl ?_
      refine r_if_lt (t := 109) hC dL_act_58 (by rfl) (by first | exact hI.rf _ | exact hI3.rf _ | exact rg_of hI3.rf _ _ | exact rg_mI _ _ _ | exact rg_way hI.rf _ _ | exact rg_of hI.rf _ _ | exact ⟨by omega, by omega⟩ | assumption) (fun h_58 => (by omega)) (fun h_58 => ?_)
      refine r_aload_n hC dL_act_61 rfl ?_
      refine r_bipush hC dL_act_62 (by rfl) ?_
      refine r_lcnt hC hfC dL_act_64 ml_L_9 hR7 hX3 ⟨by omega, by omega⟩ (show m_countV (m_begins f) (m_savedN s) 10 = m_openOnes f + 1 from b3) (le_b rfl) (by omega) (by omega) ?_
      refine r_iload hC dL_act_67 rfl ?_
      refine r_iconst hC dL_act_69 ?_
      refine r_iadd hC dL_act_70 ?_
      refine r_icmp_ne (t := 109) hC dL_act_71 (by rfl) (by first | exact hI.rf _ | exact hI3.rf _ | exact rg_of hI3.rf _ _ | exact rg_mI _ _ _ | exact rg_way hI.rf _ _ | exact rg_of hI.rf _ _ | exact ⟨by omega, by omega⟩ | assumption) (by first | exact hI.rf _ | exact hI3.rf _ | exact rg_of hI3.rf _ _ | exact rg_mI _ _ _ | exact rg_way hI.rf _ _ | exact rg_of hI.rf _ _ | exact ⟨by omega, by omega⟩ | assumption) (fun h_71 => absurd rfl h_71) (fun h_71 => ?_)
      refine r_aload_n hC dL_act_74 rfl ?_
      refine r_iload hC dL_act_75 rfl ?_
      refine r_iconst hC dL_act_77 ?_
      refine r_ltran hC hfC dL_act_78 ml_L_50 hR7 hX3 ⟨by omega, by omega⟩ ⟨by omega, by omega⟩ ((tr_0 b1).trans b2) (le_b rfl) (by omega) (by omega) ?_
      refine r_if_ne (t := 109) hC dL_act_81 (by rfl) (by first | exact hI.rf _ | exact hI3.rf _ | exact rg_of hI3.rf _ _ | exact rg_mI _ _ _ | exact rg_way hI.rf _ _ | exact rg_of hI.rf _ _ | exact ⟨by omega, by omega⟩ | assumption) (fun h_81 => absurd rfl h_81) (fun h_81 => ?_)
      refine r_aload_n hC dL_act_84 rfl ?_
      refine r_iload hC dL_act_85 rfl ?_
      refine r_iconst hC dL_act_87 ?_
      refine r_ltran hC hfC dL_act_88 ml_L_50 hR7 hX3 ⟨by omega, by omega⟩ ⟨by omega, by omega⟩ (tr_1 b1 b2) (le_b rfl) (by omega) (by omega) ?_
      refine r_iconst hC dL_act_91 ?_
      refine r_icmp_ne (t := 109) hC dL_act_92 (by rfl) (by first | exact hI.rf _ | exact hI3.rf _ | exact rg_of hI3.rf _ _ | exact rg_mI _ _ _ | exact rg_way hI.rf _ _ | exact rg_of hI.rf _ _ | exact ⟨by omega, by omega⟩ | assumption) (by first | exact hI.rf _ | exact hI3.rf _ | exact rg_of hI3.rf _ _ | exact rg_mI _ _ _ | exact rg_way hI.rf _ _ | exact rg_of hI.rf _ _ | exact ⟨by omega, by omega⟩ | assumption) (fun h_92 => absurd rfl h_92) (fun h_92 => ?_)
      refine r_aload_n hC dL_act_95 rfl ?_
      refine r_iload hC dL_act_96 rfl ?_
      refine r_iconst hC dL_act_98 ?_
      refine r_ltran hC hfC dL_act_99 ml_L_50 hR7 hX3 ⟨by omega, by omega⟩ ⟨by omega, by omega⟩ ((tr_2 b1).trans hv0) (le_b rfl) (by omega) (by omega) ?_
      refine r_if_ne (t := 109) hC dL_act_102 (by rfl) (by first | exact hI.rf _ | exact hI3.rf _ | exact rg_of hI3.rf _ _ | exact rg_mI _ _ _ | exact rg_way hI.rf _ _ | exact rg_of hI.rf _ _ | exact ⟨by omega, by omega⟩ | assumption) (fun h_102 => absurd rfl h_102) (fun h_102 => ?_)
      refine r_iconst hC dL_act_105 ?_
      refine r_goto (t := 110) hC dL_act_106 (by rfl) ?_
      refine r_zret hC hR dL_act_110 (Or.inr rfl) (by omega) (by omega) ?_
      exact hfin _ _ _ hX3 (by omega) (begins_e hI hE hq hf) hk3
    · skip
      refine r_iconst hC dL_act_40 ?_
      refine r_zret hC hR dL_act_41 (Or.inr rfl) (by omega) (by omega) ?_
      exact hfin0
