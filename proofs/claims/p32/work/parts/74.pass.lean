/-! ticks pass in the class -/
theorem rs_tick {u : Mem} {a : Nat} {r : RW} (hS : RS u a r) (hB : IB r) : RS (sI u a 5 (r 0 + 1)) a (up r 0 (r 0 + 1)) := by
  have hf : Fr u (sI u a 5 (r 0 + 1)) (fun q => q = a) (fun _ => False) := Fr.sI (Fr.refl _ _ _) _ _ rfl
  have e : ∀ j, j ≠ 0 → up r 0 (r 0 + 1) j = r j := fun j hj => up_n _ _ hj
  refine ⟨hf.stO hS.o, ⟨?_, ?_⟩, fun i hi => ?_, fun p hp => ?_, ?_, fun d hd => ?_, ?_⟩
  · rw [mI_sI_s, up_s]
  · rw [mI_sI_k _ _ _ _ (by decide), e 1 (by decide)]; exact hS.writ
  · rw [hf.mI (by omega), e _ (by omega)]; exact hS.set hi
  · exact (hS.t hp).keep (fun q h1 h2 => hf.mI (by omega)) (fun j h1 h2 => e j (by omega)) (hB.pl p hp).2.1.2
  · exact hS.r.keep (fun q h1 h2 => hf.mI (by omega)) (fun j hj => e j (by omega)) hB.co.1.2
  · exact (hS.c hd).keep (hf.mI (by omega)) (hf.mI (by omega)) (fun j h1 h2 => e j (by omega)) (by have := (hB.re d hd).2.2.1; omega)
  · exact hS.l.keep hS.o.l (fun q h1 h2 => hf.mI (by omega)) (hf.mP id) (fun j hj => e j (by omega)) hB.ni
theorem steps_stop {g : RW} (b : RW) (h : m_due g = -1) : ∀ s : Nat, m_steps b s g = g
  | 0 => rfl
  | s + 1 => by simp only [m_steps]; rw [if_pos h]
def relF (g b : RW) : Nat → RW × RW
  | 0 => (g, b)
  | c + 1 => (m_relays (relF g b c).1 (relF g b c).2 c, m_relB (relF g b c).1 (relF g b c).2 c)
theorem relF3 (g b : RW) : relF g b 3 = m_rel3 g b := rfl
theorem relF_mid {g b : RW} {T D : Int} (hM : Mid g T 1 0 D) (hb : RF b) (hT : T ≤ 2000000) (hD : 0 ≤ D ∧ D ≤ 57) : ∀ c : Nat, c ≤ 3 → Mid (relF g b c).1 T 1 c (D + c) ∧ RF (relF g b c).2 ∧ m_eff (relF g b c).1 = m_eff g := by
  intro c
  induction c with
  | zero => intro _; rw [show D + ((0 : Nat) : Int) = D by omega]; exact ⟨hM, hb, rfl⟩
  | succ c ih =>
    intro hc
    obtain ⟨i1, i2, i3⟩ := ih (by omega)
    obtain ⟨a1, a2, a3, a4, a5, a6⟩ := relays_mid i1 i2 (by omega) hT ⟨by omega, by omega⟩
    rw [show D + (c : Int) + 1 = D + ((c + 1 : Nat) : Int) by omega] at a1
    exact ⟨a1, a5, a6.trans i3⟩
abbrev rmX5_passTick : Room := { frames := 3, cells := 0, slots := 0, locals := 74 }
set_option maxRecDepth 100000 in
theorem k_St_passTick {l : Launch} {D : DD} (hfl : l.stackTraces = false) {u : Mem} {a : Nat} {r : RW} {T : Int} (hS : RS u a r) (hI : Inv r T) (hT : T + 1 ≤ 2000000) {b : RW} (hb : RF b) : CT l D yX5_passTick cX5_passTick 4 (some .int) rmX5_passTick [xA a] u (fun o w => o = some (xI (m_eff (m_tick r b).1 - m_eff r)) ∧ RS w a (m_tick r b).1 ∧ Blk u w a) := by
  have rf := hI.rf
  obtain ⟨hM, hx, he⟩ := hI.start hT
  have hM1 := rs_tick hS hI.b
  have hd0 : m_tick r b = m_rel3 (m_steps b 200 (up r 0 (r 0 + 1))) b := rfl
  have hef0 : m_eff (up r 0 (r 0 + 1)) = m_eff r := m_eff_same (fun d hd => by unfold m_of; exact he _ (by omega))
  have hfv : Blk u (sI u a 5 (r 0 + 1)) a := Fr.sI (Blk.refl u a) _ _ ⟨by omega, by omega⟩
  generalize up r 0 (r 0 + 1) = R at hM hx he hM1 hd0 hef0
  have h9 := hM.nine
  have hdc := dcN_rg R h9.1
  refine CT.of hfl (by decide) (le_b rfl) ?_
  intro C hC hR hL hDD hN
  have hfC : (cxL C).stackTraces = false := by rw [hL]; exact hfl
  show VW C 0 [some (xA a), none, none, none] [] u 0 0
  refine r_aload_n hC dX5_passTick_0 rfl ?_
  refine r_dup hC dX5_passTick_1 rfl ?_
  refine r_getIv (j := 5) (v := r 0) hC dX5_passTick_2 fl_X5_51 rfl rfl hS.o.o hS.tick ?_
  refine r_iconst hC dX5_passTick_5 ?_
  refine r_iadd hC dX5_passTick_6 ?_
  refine r_putI (j := 5) hC dX5_passTick_7 fl_X5_51 rfl hS.o.o (by rintro _ ⟨⟩; rfl) (Or.inl rfl) ?_
  refine r_iconst hC dX5_passTick_10 ?_
  refine r_istore_n (lv' := [_, _, _, _]) hC dX5_passTick_11 (lt_b rfl) rfl (lt_b rfl) rfl ?_
  refine r_aload_n hC dX5_passTick_12 rfl ?_
  refine r_getR (j := 4) hC dX5_passTick_13 fl_X5_47 rfl rfl hM1.o.o hM1.o.p4 ?_
  refine r_aload_n hC dX5_passTick_16 rfl ?_
  refine r_getIv (j := 5) (v := R 0) hC dX5_passTick_17 fl_X5_51 rfl rfl hM1.o.o hM1.tick ?_
  refine r_V0p hC dX5_passTick_20 mi_X0_dueAt se_X0_dueAt ml_X5_124 (rm := rmX0_dueAt) rfl hM1.o.l.o rfl rfl rfl rfl ⟨le_b rfl, le_b rfl⟩ (k_Ma_dueAt hfC hM1.o.l (rf_at hM.1.rf 0) (by rw [hM1.l.1]; exact ⟨by omega, by omega⟩)) ?_ rfl
  rintro _ w0 ⟨hw0, k, rfl, hk1, hk2, hk3⟩
  rw [hw0]
  rw [hM1.l.1] at hk1 hk3
  have hdk := dc_prefix hM1.l hk1 hk2 hk3
  have lp : ∀ (n i : Nat) (g : RW) (w : Mem), k - i = n → i ≤ k → Mid g (T + 1) 0 0 i → RS w a g → Blk u w a → dcN g = (k : Int) - i → m_steps b 200 R = m_steps b (200 - i) g → VW C 26 [some (xA a), some (xI (m_eff g - m_eff r)), some (xI k), some (xI i)] [] w 0 0 := by
    intro n
    induction n using Nat.strongRecOn with
    | _ n ih =>
      intro i g w hn hi hMg hSw hfw hdg hst
      refine r_iload_n hC dX5_passTick_26 rfl ?_
      refine r_iload_n hC dX5_passTick_27 rfl ?_
      refine r_icmp_ge (t := 44) hC dX5_passTick_28 (by rfl) ⟨by omega, by omega⟩ ⟨by omega, by omega⟩ (fun h_28 => ?_) (fun h_28 => ?_)
      · skip
        have hik : i = k := by omega
        have hd1 : dcN g = 0 := by omega
        rw [steps_stop b (due_none hd1)] at hst
        have hML := hMg.lift hd1
        have hfin : m_tick r b = m_rel3 g b := by rw [hd0, hst]
        have lq : ∀ (n c : Nat) (w : Mem), 3 - c = n → c ≤ 3 → RS w a (relF g b c).1 → Blk u w a → VW C 46 [some (xA a), some (xI (m_eff g - m_eff r)), some (xI k), some (xI c)] [] w 0 0 := by
          intro n
          induction n using Nat.strongRecOn with
          | _ n iq =>
            intro c w hn hc3 hSw hfw
            obtain ⟨hq1, hq2, hq3⟩ := relF_mid hML hb hT ⟨by omega, by omega⟩ c hc3
            refine r_iload_n hC dX5_passTick_46 rfl ?_
            refine r_iconst hC dX5_passTick_47 ?_
            refine r_icmp_ge (t := 62) hC dX5_passTick_48 (by rfl) ⟨by omega, by omega⟩ ⟨by omega, by omega⟩ (fun h_48 => ?_) (fun h_48 => ?_)
            · skip
              refine r_iload_n hC dX5_passTick_62 rfl ?_
              refine r_iret hC hR dX5_passTick_63 (le_b rfl) (le_b rfl) ?_
              rw [show c = 3 by omega, relF3] at hSw hq3
              rw [hfin]
              exact ⟨by rw [hq3], hSw, hfw⟩
            · skip
              refine r_aload_n hC dX5_passTick_51 rfl ?_
              refine r_iload_n hC dX5_passTick_52 rfl ?_
              obtain ⟨N9, hN9⟩ : ∃ N9 : Nat, (relF g b c).1 9 = N9 := ⟨((relF g b c).1 9).toNat, by have := hq1.nine; omega⟩
              have hfew := hq1.2.1.few hq1.1.co.2.2.2.1 (Or.inr rfl) ⟨by omega, by omega⟩
              refine r_V0p (u := w) hC dX5_passTick_53 mi_X5_sendBatch se_X5_sendBatch ml_X5_131 (rm := rmX5_sendBatch) rfl hSw.o.o rfl rfl rfl rfl ⟨le_b rfl, le_b rfl⟩ (k_St_send hfC hSw hq1.1 (relF g b c).2 hN9 (by omega) (by omega) (IMe.mk hq1.2.1) (by have := hq1.1.se.2.1; have := hq1.2.2.1; exact ⟨by omega, by omega⟩)) ?_ rfl
              rintro _ w1 ⟨rfl, hS1, hf1⟩
              refine r_iinc (lv' := [_, _, _, _]) hC dX5_passTick_56 rfl (lt_b rfl) rfl (lt_b rfl) rfl ?_
              refine r_goto (t := 46) hC dX5_passTick_59 (by rfl) ?_
              exact iq _ (by omega) (c + 1) w1 rfl (by omega) hS1 (hfw.trans hf1)
        refine r_iconst hC dX5_passTick_44 ?_
        refine r_istore_n (lv' := [_, _, _, _]) hC dX5_passTick_45 (lt_b rfl) rfl (lt_b rfl) rfl ?_
        exact lq _ 0 w rfl (by omega) hSw hfw
      · skip
        refine r_iload_n hC dX5_passTick_31 rfl ?_
        refine r_aload_n hC dX5_passTick_32 rfl ?_
        obtain ⟨N, n', hN', hm, hw, hdue, k1, k2, k3, k4, k5, k6⟩ := hMg.step (b := b) hT ⟨by omega, by omega⟩ (by omega)
        refine r_V0p (u := w) hC dX5_passTick_33 mi_X5_firstComes se_X5_firstComes ml_X5_128 (rm := rmX5_firstComes) rfl hSw.o.o rfl rfl rfl rfl ⟨le_b rfl, le_b rfl⟩ (k_St_first hfC hSw hMg.1 b hN' hm (IMe.mk hMg.2.1) (by have := hMg.1.se.2.1; have := hMg.2.2.1; exact ⟨by omega, by omega⟩)) ?_ rfl
        rintro _ w1 ⟨rfl, hS1, hf1⟩
        refine r_iadd hC dX5_passTick_36 ?_
        refine r_istore_n (lv' := [_, _, _, _]) hC dX5_passTick_37 (lt_b rfl) rfl (lt_b rfl) rfl ?_
        refine r_iinc (lv' := [_, _, _, _]) hC dX5_passTick_38 rfl (lt_b rfl) rfl (lt_b rfl) rfl ?_
        refine r_goto (t := 26) hC dX5_passTick_41 (by rfl) ?_
        rw [show m_eff g - m_eff r + c_eff g n' (m_way g n' 1) (m_way g n' 3).toNat = m_eff (m_stepN g b n') - m_eff r by omega]
        refine ih _ (by omega) (i + 1) (m_stepN g b n') w1 rfl (by omega) k1 hS1 (hfw.trans hf1) (by omega) ?_
        rw [hst, show 200 - i = (200 - (i + 1)) + 1 by omega]
        simp only [m_steps]
        rw [if_neg (by rw [hdue]; omega), step_is hdue]
  refine r_istore_n (lv' := [_, _, _, _]) hC dX5_passTick_23 (lt_b rfl) rfl (lt_b rfl) rfl ?_
  refine r_iconst hC dX5_passTick_24 ?_
  refine r_istore_n (lv' := [_, _, _, _]) hC dX5_passTick_25 (lt_b rfl) rfl (lt_b rfl) rfl ?_
  have := lp _ 0 R _ rfl (by omega) hM hM1 hfv (by omega) rfl
  rw [hef0, Int.sub_self] at this
  exact this

abbrev rmX5_passTicks : Room := { frames := 4, cells := 0, slots := 0, locals := 97 }
set_option maxRecDepth 100000 in
theorem k_St_passTicks {l : Launch} {D : DD} (hfl : l.stackTraces = false) {u : Mem} {a : Nat} {r : RW} {T : Int} (hS : RS u a r) (hI : Inv r T) {N : Nat} (hN99 : N ≤ 99) (hT : T + N ≤ 2000000) {b : RW} (hb : RF b) : CT l D yX5_passTicks cX5_passTicks 4 (some .int) rmX5_passTicks [xA a, xI N] u (fun o w => o = some (xI (m_eff (m_pass r b N).1 - m_eff r)) ∧ RS w a (m_pass r b N).1 ∧ Blk u w a) := by
  refine CT.of hfl (by decide) (le_b rfl) ?_
  intro C hC hR hL hDD hN
  have hfC : (cxL C).stackTraces = false := by rw [hL]; exact hfl
  have lp : ∀ (n i : Nat) (w : Mem), N - i = n → i ≤ N → RS w a (m_pass r b i).1 → Blk u w a → VW C 4 [some (xA a), some (xI N), some (xI (m_eff (m_pass r b i).1 - m_eff r)), some (xI i)] [] w 0 0 := by
    intro n
    induction n using Nat.strongRecOn with
    | _ n ih =>
      intro i w hn hi hSw hfw
      refine r_iload_n hC dX5_passTicks_4 rfl ?_
      refine r_iload_n hC dX5_passTicks_5 rfl ?_
      refine r_icmp_ge (t := 28) hC dX5_passTicks_6 (by rfl) ⟨by omega, by omega⟩ ⟨by omega, by omega⟩ (fun h_6 => ?_) (fun h_6 => ?_)
      · skip
        refine r_iload_n hC dX5_passTicks_28 rfl ?_
        refine r_iret hC hR dX5_passTicks_29 (le_b rfl) (le_b rfl) ?_
        rw [show i = N by omega] at hSw ⊢
        exact ⟨rfl, hSw, hfw⟩
      · skip
        refine r_iload_n hC dX5_passTicks_9 rfl ?_
        refine r_bipush hC dX5_passTicks_10 (by rfl) ?_
        refine r_icmp_ge (t := 28) hC dX5_passTicks_12 (by rfl) ⟨by omega, by omega⟩ ⟨by omega, by omega⟩ (fun h_12 => ?_) (fun h_12 => ?_)
        · skip
          refine r_iload_n hC dX5_passTicks_28 rfl ?_
          refine r_iret hC hR dX5_passTicks_29 (le_b rfl) (le_b rfl) ?_
          rw [show i = N by omega] at hSw ⊢
          exact ⟨rfl, hSw, hfw⟩
        · skip
          refine r_iload_n hC dX5_passTicks_15 rfl ?_
          refine r_aload_n hC dX5_passTicks_16 rfl ?_
          obtain ⟨i1, i2, i3, i4⟩ := pass_inv hI hb i (by omega)
          refine r_V0p (u := w) hC dX5_passTicks_17 mi_X5_passTick se_X5_passTick ml_X5_120 (rm := rmX5_passTick) rfl hSw.o.o rfl rfl rfl rfl ⟨le_b rfl, le_b rfl⟩ (k_St_passTick hfC hSw i1 (by omega) i2) ?_ rfl
          rintro _ w1 ⟨rfl, hS1, hf1⟩
          refine r_iadd hC dX5_passTicks_20 ?_
          refine r_istore_n (lv' := [_, _, _, _]) hC dX5_passTicks_21 (lt_b rfl) rfl (lt_b rfl) rfl ?_
          refine r_iinc (lv' := [_, _, _, _]) hC dX5_passTicks_22 rfl (lt_b rfl) rfl (lt_b rfl) rfl ?_
          refine r_goto (t := 4) hC dX5_passTicks_25 (by rfl) ?_
          rw [show m_eff (m_pass r b i).1 - m_eff r + (m_eff (m_tick (m_pass r b i).1 (m_pass r b i).2).1 - m_eff (m_pass r b i).1) = m_eff (m_tick (m_pass r b i).1 (m_pass r b i).2).1 - m_eff r by omega]
          exact ih _ (by omega) (i + 1) w1 rfl (by omega) hS1 (hfw.trans hf1)
  show VW C 0 [some (xA a), some (xI N), none, none] [] u 0 0
  refine r_iconst hC dX5_passTicks_0 ?_
  refine r_istore_n (lv' := [_, _, _, _]) hC dX5_passTicks_1 (lt_b rfl) rfl (lt_b rfl) rfl ?_
  refine r_iconst hC dX5_passTicks_2 ?_
  refine r_istore_n (lv' := [_, _, _, _]) hC dX5_passTicks_3 (lt_b rfl) rfl (lt_b rfl) rfl ?_
  have := lp _ 0 u rfl (by omega) hS (Blk.refl _ _)
  rw [show (m_pass r b 0).1 = r from rfl, Int.sub_self] at this
  exact this
