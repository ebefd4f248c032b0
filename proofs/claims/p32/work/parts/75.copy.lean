/-! a state is copied into another -/
theorem RS.oth {u w : Mem} {a : Nat} {r : RW} {S T : Nat → Prop} (h : RS u a r) (hB : IB r) (hf : Fr u w S T) (hSd : ∀ q, a ≤ q → q < a + 146 → ¬ S q) (hTd : ∀ q, a ≤ q → q < a + 146 → ¬ T q) : RS w a r := by
  have e : ∀ q, a ≤ q → q < a + 146 → mI w q = mI u q := fun q h1 h2 => hf.mI (hSd q h1 h2)
  have ep : ∀ q, a ≤ q → q < a + 146 → mP w q = mP u q := fun q h1 h2 => hf.mP (hTd q h1 h2)
  refine ⟨h.o.fr hf.1 (fun q h1 h2 _ => ep q h1 h2) (by unfold QuO; rw [ep (a + 34 + 1) (by omega) (by omega)]; exact h.o.l.2.2.2), ⟨by rw [e a (by omega) (by omega)]; exact h.tick, by rw [e a (by omega) (by omega)]; exact h.writ⟩, fun i hi => by rw [e (a + 1) (by omega) (by omega)]; exact h.set hi, fun p hp => ?_, ?_, fun d hd => ?_, ?_⟩
  · exact (h.t hp).keep (fun q h1 h2 => e q (by omega) (by omega)) (fun j _ _ => rfl) (hB.pl p hp).2.1.2
  · exact h.r.keep (fun q h1 h2 => e q (by omega) (by omega)) (fun j _ => rfl) hB.co.1.2
  · exact (h.c hd).keep (e _ (by omega) (by omega)) (e _ (by omega) (by omega)) (fun j _ _ => rfl) (by have := (hB.re d hd).2.2.1; omega)
  · exact h.l.keep h.o.l (fun q h1 h2 => e q (by omega) (by omega)) (ep _ (by omega) (by omega)) (fun j _ => rfl) hB.ni
theorem rst_cp {w w' : Mem} {b o : Nat} {r : RW} {p : Int} (h : RSt w o r p) (k : TrCp w b o w') (h6 : m_its r p 1 ≤ 6) : RSt w' b r p := by
  refine ⟨(k.2.1 3 (by decide) (by decide)).trans h.1, (k.2.1 4 (by decide) (by decide)).trans h.2.1, fun i hi => ?_⟩
  obtain ⟨h1, h2, h3⟩ := h.2.2 i hi
  exact ⟨(k.2.2 0 (by decide) i (by omega) (by omega)).trans h1, (k.2.2 1 (by decide) i (by omega) (by omega)).trans h2, (k.2.2 2 (by decide) i (by omega) (by omega)).trans h3⟩
theorem rsr_cp {w w' : Mem} {b o : Nat} {r : RW} (h : RSr w o r) (k : RoCp w b o w') : RSr w' b r := by
  obtain ⟨h1, h2, h3, h4, x, h5, h6⟩ := h
  refine ⟨(k.2.1 7 (by decide) (by decide)).trans h1, (k.2.1 8 (by decide) (by decide)).trans h2, (k.2.1 9 (by decide) (by decide)).trans h3, fun j hj => ?_, x, h5, fun j hj => ?_⟩
  · obtain ⟨g1, g2, g3, g4, g5, g6⟩ := h4 j hj
    have e := fun (t : Nat) (ht : t < 6) => k.2.2.1 t ht j (by omega) (by rw [h1]; exact hj)
    exact ⟨(e 0 (by decide)).trans g1, (e 1 (by decide)).trans g2, (e 2 (by decide)).trans g3, (e 3 (by decide)).trans g4, (e 4 (by decide)).trans g5, (e 5 (by decide)).trans g6⟩
  · exact (k.2.2.2 j (by omega) (by rw [h2]; omega)).trans (h6 j hj)
theorem rsc_cp {w w' : Mem} {b o : Nat} {r : RW} {c : Int} (h : RSc w o r c) (k : ReCp w b o w') (h20 : m_of r c 2 ≤ 20) : RSc w' b r c := by
  obtain ⟨c1, c2, c3, c4, c5, c6, c7, c8, c9, c10, c11, c12, c13, c14⟩ := h
  have e := fun (j : Int) (h1 : 1 ≤ j) (h2 : j ≤ 13) => k.2.1 j h1 h2
  refine ⟨(e 1 (by decide) (by decide)).trans c1, (e 2 (by decide) (by decide)).trans c2, (e 3 (by decide) (by decide)).trans c3, (e 4 (by decide) (by decide)).trans c4, (e 5 (by decide) (by decide)).trans c5, (e 6 (by decide) (by decide)).trans c6, (e 7 (by decide) (by decide)).trans c7, (e 8 (by decide) (by decide)).trans c8, (e 9 (by decide) (by decide)).trans c9, (e 10 (by decide) (by decide)).trans c10, (e 11 (by decide) (by decide)).trans c11, (e 12 (by decide) (by decide)).trans c12, by rw [e 13 (by decide) (by decide)]; exact c13, fun j hj => (k.2.2 j (by omega) (by omega)).trans (c14 j hj)⟩
theorem rsl_cp {w w' : Mem} {b o : Nat} {r : RW} (h : RSl w o r) (k : MaCp w b o w') (h8 : ∀ n : Nat, (n : Int) < r 9 → m_way r n 3 ≤ 8) : RSl w' b r := by
  obtain ⟨a1, a2, a3, a4, a5, a6, s, a7, a8⟩ := h
  have e := fun (j : Int) (h1 : 1 ≤ j) (h2 : j ≤ 6) => k.2.1 j h1 h2
  refine ⟨(e 1 (by decide) (by decide)).trans a1, (e 2 (by decide) (by decide)).trans a2, (e 3 (by decide) (by decide)).trans a3, (e 4 (by decide) (by decide)).trans a4, (e 5 (by decide) (by decide)).trans a5, (e 6 (by decide) (by decide)).trans a6, s, a7, fun j hj => ?_⟩
  obtain ⟨m1, m2, m3, m4, m5, m6⟩ := a8 j hj
  have hs := a7.1 j hj
  obtain ⟨z1, z2⟩ := k.2.2 j (by rw [a1]; omega)
  rw [k.1.qaE]
  refine ⟨(z1 1 (by decide) (by decide)).trans m1, (z1 2 (by decide) (by decide)).trans m2, (z1 3 (by decide) (by decide)).trans m3, (z1 4 (by decide) (by decide)).trans m4, (z1 5 (by decide) (by decide)).trans m5, fun i hi => ?_⟩
  have := h8 (s j) (by omega)
  exact (z2 i (by omega) (by omega)).trans (m6 i hi)
abbrev rmX5_copyFrom : Room := { frames := 3, cells := 0, slots := 0, locals := 83 }
set_option maxRecDepth 100000 in
theorem k_St_copy {l : Launch} {D : DD} (hfl : l.stackTraces = false) {u : Mem} {a o : Nat} {r : RW} {T : Int} (hO : StO u a) (hS : RS u o r) (hI : Inv r T) (hd : o + 146 ≤ a ∨ a + 146 ≤ o) : CT l D yX5_copyFrom cX5_copyFrom 3 none rmX5_copyFrom [xA a, xA o] u (fun x w => x = none ∧ RS w a r ∧ Fr u w (fun q => a ≤ q ∧ q < a + 146) (fun _ => False)) := by
  have hB := hI.b
  have hMK := IMe.mk hI.me
  have fS : ∀ w : Mem, Fr u w (fun q => a ≤ q ∧ q < a + 146) (fun _ => False) → RS w o r := fun w hf => hS.oth hB hf (fun q h1 h2 => by omega) (fun _ _ _ z => z)
  have fO : ∀ w : Mem, Fr u w (fun q => a ≤ q ∧ q < a + 146) (fun _ => False) → StO w a := fun w hf => hf.stO hO
  refine CT.of hfl (by decide) (le_b rfl) ?_
  intro C hC hR hL hDD hN
  have hfC : (cxL C).stackTraces = false := by rw [hL]; exact hfl
  have lq : ∀ (n c : Nat) (w : Mem), 3 - c = n → c ≤ 3 → Fr u w (fun q => a ≤ q ∧ q < a + 146) (fun _ => False) → (∀ i : Nat, i < 7 → mI w (a + 1) i = r (10 + i)) → (∀ d : Nat, d < 4 → RSt w (a + 3 + 4 * d) r d) → RSr w (a + 19) r → (∀ d : Nat, d < c → RSc w (a + 28 + 2 * d) r d) → VW C 56 [some (xA a), some (xA o), some (xI c)] [] w 0 0 := by
    intro n
    induction n using Nat.strongRecOn with
    | _ n iq =>
      intro c w hn hcl hfw hs1 ht1 hr1 hc1
      have hOw := fO w hfw
      have hSw := fS w hfw
      refine r_iload_n hC dX5_copyFrom_56 rfl ?_
      refine r_iconst hC dX5_copyFrom_57 ?_
      refine r_icmp_ge (t := 82) hC dX5_copyFrom_58 (by rfl) ⟨by omega, by omega⟩ ⟨by omega, by omega⟩ (fun h_58 => ?_) (fun h_58 => ?_)
      · skip
        have hc3e : c = 3 := by omega
        subst hc3e
        refine r_aload_n hC dX5_copyFrom_82 rfl ?_
        refine r_getR (j := 4) hC dX5_copyFrom_83 fl_X5_47 rfl rfl hOw.o hOw.p4 ?_
        refine r_aload_n hC dX5_copyFrom_86 rfl ?_
        refine r_getR (j := 4) hC dX5_copyFrom_87 fl_X5_47 rfl rfl hSw.o.o hSw.o.p4 ?_
        refine r_V0p (u := w) hC dX5_copyFrom_90 mi_X0_copyFrom se_X0_copyFrom ml_X5_74 (rm := rmX0_copyFrom) rfl hOw.l.o rfl rfl rfl rfl ⟨le_b rfl, le_b rfl⟩ (k_Ma_copy hfC hOw.l hSw.o.l (by omega) (by rw [hSw.l.1]; exact ⟨hB.co.2.2.2.1, hB.ni⟩) (fun i hi => by
          rw [hSw.l.1] at hi
          obtain ⟨s, hs, hm⟩ := hSw.l.2.2.2.2.2.2
          rw [(hm i (by omega)).1]
          exact (hMK (s i) (by have := hs.1 i (by omega); omega)).1)) ?_ rfl
        rintro _ w1 ⟨rfl, hcp⟩
        have hSz := fS w1 (hfw.trans (hcp.1.weak (fun q hq => by omega) (fun _ z => z)))
        have hOz := fO w1 (hfw.trans (hcp.1.weak (fun q hq => by omega) (fun _ z => z)))
        refine r_aload_n hC dX5_copyFrom_93 rfl ?_
        refine r_aload_n hC dX5_copyFrom_94 rfl ?_
        refine r_getIv (j := 5) (v := r 0) hC dX5_copyFrom_95 fl_X5_51 rfl rfl hSz.o.o hSz.tick ?_
        refine r_putI (j := 5) hC dX5_copyFrom_98 fl_X5_51 rfl hOz.o (by rintro _ ⟨⟩; rfl) (Or.inl rfl) ?_
        refine r_aload_n hC dX5_copyFrom_101 rfl ?_
        refine r_aload_n hC dX5_copyFrom_102 rfl ?_
        refine r_getIv (j := 6) (v := r 1) hC dX5_copyFrom_103 fl_X5_55 rfl rfl hSz.o.o (by rw [mI_sI_a _ _ _ _ (by omega)]; exact hSz.writ) ?_
        refine r_putI (j := 6) hC dX5_copyFrom_106 fl_X5_55 rfl hOz.o (by rintro _ ⟨⟩; rfl) (Or.inl rfl) ?_
        refine r_vret hC hR dX5_copyFrom_109 (le_b rfl) (le_b rfl) ?_
        have hz : ∀ q, q ≠ a → mI (sI (sI w1 a 5 (r 0)) a 6 (r 1)) q = mI w1 q := fun q hq => by rw [up_mI_n _ _ _ hq, up_mI_n _ _ _ hq]
        have hfz : Fr w1 (sI (sI w1 a 5 (r 0)) a 6 (r 1)) (fun q => q = a) (fun _ => False) := by refine Fr.sI (Fr.sI (Fr.refl _ _ _) _ _ ?_) _ _ ?_ <;> rfl
        have hfa : Fr u w1 (fun q => a ≤ q ∧ q < a + 146) (fun _ => False) := hfw.trans (hcp.1.weak (fun q hq => by omega) (fun _ z => z))
        have hfb := hfa.trans (hfz.weak (S1 := fun q => a ≤ q ∧ q < a + 146) (fun q hq => by omega) (fun _ z => z))
        have hl1 := rsl_cp hSw.l hcp (fun n hn => (hMK n hn).2.2.1.2)
        refine ⟨rfl, ⟨fO _ hfb, ⟨?_, ?_⟩, fun i hi => ?_, fun p hp => ?_, ?_, fun c hc => ?_, ?_⟩, hfb⟩
        · rw [mI_sI_k _ _ _ _ (by decide), mI_sI_s]; exact wr_id (hI.rf 0)
        · rw [mI_sI_s]; exact wr_id (hI.rf 1)
        · rw [hz _ (by omega), hcp.1.mI (by omega)]; exact hs1 i hi
        · exact (ht1 p hp).keep (fun q h1 h2 => by rw [hz _ (by omega), hcp.1.mI (by omega)]) (fun j _ _ => rfl) (hB.pl p hp).2.1.2
        · exact hr1.keep (fun q h1 h2 => by rw [hz _ (by omega), hcp.1.mI (by omega)]) (fun j _ => rfl) hB.co.1.2
        · exact (hc1 c (by omega)).keep (by rw [hz _ (by omega), hcp.1.mI (by omega)]) (by rw [hz _ (by omega), hcp.1.mI (by omega)]) (fun j _ _ => rfl) (by have := (hB.re c hc).2.2.1; omega)
        · exact hl1.keep (fO w1 hfa).l (fun q h1 h2 => hz q (by omega)) (hfz.mP id) (fun j _ => rfl) hB.ni
      · skip
        refine r_aload_n hC dX5_copyFrom_61 rfl ?_
        refine r_getR (j := 3) hC dX5_copyFrom_62 fl_X5_39 rfl rfl hOw.o hOw.p3 ?_
        refine r_iload_n hC dX5_copyFrom_65 rfl ?_
        refine r_aald hC dX5_copyFrom_66 hOw.a3 (le_b rfl) (lt_b rfl) ⟨by omega, by omega⟩ (hOw.pc (i := c) (by omega)) ?_
        refine r_aload_n hC dX5_copyFrom_67 rfl ?_
        refine r_getR (j := 3) hC dX5_copyFrom_68 fl_X5_39 rfl rfl hSw.o.o hSw.o.p3 ?_
        refine r_iload_n hC dX5_copyFrom_71 rfl ?_
        refine r_aald hC dX5_copyFrom_72 hSw.o.a3 (le_b rfl) (lt_b rfl) ⟨by omega, by omega⟩ (hSw.o.pc (i := c) (by omega)) ?_
        refine r_V0p (u := w) hC dX5_copyFrom_73 mi_X3_copyFrom se_X3_copyFrom ml_X5_71 (rm := rmX3_copyFrom) rfl (hOw.c (show c < 3 by omega)).o rfl rfl rfl rfl ⟨le_b rfl, le_b rfl⟩ (k_Re_copy hfC (hOw.c (show c < 3 by omega)) (hSw.o.c (show c < 3 by omega)) (by omega) (by omega) (by omega) (by rw [(hSw.c (show c < 3 by omega)).2.2.2.2.2.2.2.2.2.2.1]; exact (hB.re c (by omega)).2.2.2.2.1)) ?_ rfl
        rintro _ w1 ⟨rfl, hcp⟩
        refine r_iinc (lv' := [_, _, _]) hC dX5_copyFrom_76 rfl (lt_b rfl) rfl (lt_b rfl) rfl ?_
        refine r_goto (t := 56) hC dX5_copyFrom_79 (by rfl) ?_
        refine iq _ (by omega) (c + 1) w1 rfl (by omega) (hfw.trans (hcp.1.weak (fun q hq => by omega) (fun _ z => z))) (fun i hi => ?_) (fun p hp => ?_) ?_ (fun d hd => ?_)
        · rw [hcp.1.mI (by omega)]; exact hs1 i hi
        · exact (ht1 p hp).keep (fun q h1 h2 => hcp.1.mI (by omega)) (fun j _ _ => rfl) (hB.pl p hp).2.1.2
        · exact hr1.keep (fun q h1 h2 => hcp.1.mI (by omega)) (fun j _ => rfl) hB.co.1.2
        · by_cases z : d = c
          · subst z; exact rsc_cp (hSw.c (by omega)) hcp (hB.re d (by omega)).2.2.1.2
          · exact (hc1 d (by omega)).keep (hcp.1.mI (by omega)) (hcp.1.mI (by omega)) (fun j _ _ => rfl) (by have := (hB.re d (by omega)).2.2.1; omega)
  have lp : ∀ (n p : Nat) (w : Mem), 4 - p = n → p ≤ 4 → Fr u w (fun q => a ≤ q ∧ q < a + 146) (fun _ => False) → (∀ i : Nat, i < 7 → mI w (a + 1) i = r (10 + i)) → (∀ d : Nat, d < p → RSt w (a + 3 + 4 * d) r d) → VW C 17 [some (xA a), some (xA o), some (xI p)] [] w 0 0 := by
    intro n
    induction n using Nat.strongRecOn with
    | _ n ih =>
      intro p w hn hpl hfw hs1 ht1
      have hOw := fO w hfw
      have hSw := fS w hfw
      refine r_iload_n hC dX5_copyFrom_17 rfl ?_
      refine r_iconst hC dX5_copyFrom_18 ?_
      refine r_icmp_ge (t := 43) hC dX5_copyFrom_19 (by rfl) ⟨by omega, by omega⟩ ⟨by omega, by omega⟩ (fun h_19 => ?_) (fun h_19 => ?_)
      · skip
        refine r_aload_n hC dX5_copyFrom_43 rfl ?_
        refine r_getR (j := 2) hC dX5_copyFrom_44 fl_X5_33 rfl rfl hOw.o hOw.p2 ?_
        refine r_aload_n hC dX5_copyFrom_47 rfl ?_
        refine r_getR (j := 2) hC dX5_copyFrom_48 fl_X5_33 rfl rfl hSw.o.o hSw.o.p2 ?_
        refine r_V0p (u := w) hC dX5_copyFrom_51 mi_X4_copyFrom se_X4_copyFrom ml_X5_68 (rm := rmX4_copyFrom) rfl hOw.r.o rfl rfl rfl rfl ⟨le_b rfl, le_b rfl⟩ (k_Ro_copy hfC hOw.r hSw.o.r (by omega) (by rw [hSw.r.1]; exact hB.co.1) (by rw [hSw.r.2.1]; have := hB.co.2.1; have := hB.co.2.2.1; unfold m_kept at *; omega)) ?_ rfl
        rintro _ w1 ⟨rfl, hcp⟩
        refine r_iconst hC dX5_copyFrom_54 ?_
        refine r_istore_n (lv' := [_, _, _]) hC dX5_copyFrom_55 (lt_b rfl) rfl (lt_b rfl) rfl ?_
        refine lq _ 0 w1 rfl (by omega) (hfw.trans (hcp.1.weak (fun q hq => by omega) (fun _ z => z))) (fun i hi => ?_) (fun d hd => ?_) (rsr_cp hSw.r hcp) (fun d hd => by omega)
        · rw [hcp.1.mI (by omega)]; exact hs1 i hi
        · exact (ht1 d (by omega)).keep (fun q h1 h2 => hcp.1.mI (by omega)) (fun j _ _ => rfl) (hB.pl d hd).2.1.2
      · skip
        refine r_aload_n hC dX5_copyFrom_22 rfl ?_
        refine r_getR (j := 1) hC dX5_copyFrom_23 fl_X5_25 rfl rfl hOw.o hOw.p1 ?_
        refine r_iload_n hC dX5_copyFrom_26 rfl ?_
        refine r_aald hC dX5_copyFrom_27 hOw.a1 (le_b rfl) (lt_b rfl) ⟨by omega, by omega⟩ (hOw.pt (p := p) (by omega)) ?_
        refine r_aload_n hC dX5_copyFrom_28 rfl ?_
        refine r_getR (j := 1) hC dX5_copyFrom_29 fl_X5_25 rfl rfl hSw.o.o hSw.o.p1 ?_
        refine r_iload_n hC dX5_copyFrom_32 rfl ?_
        refine r_aald hC dX5_copyFrom_33 hSw.o.a1 (le_b rfl) (lt_b rfl) ⟨by omega, by omega⟩ (hSw.o.pt (p := p) (by omega)) ?_
        refine r_V0p (u := w) hC dX5_copyFrom_34 mi_X6_copyFrom se_X6_copyFrom ml_X5_64 (rm := rmX6_copyFrom) rfl (hOw.t (show p < 4 by omega)).o rfl rfl rfl rfl ⟨le_b rfl, le_b rfl⟩ (k_Tr_copy hfC (hOw.t (show p < 4 by omega)) (hSw.o.t (show p < 4 by omega)) (by omega) (by rw [(hSw.t (show p < 4 by omega)).1]; exact (hB.pl p (by omega)).1)) ?_ rfl
        rintro _ w1 ⟨rfl, hcp⟩
        refine r_iinc (lv' := [_, _, _]) hC dX5_copyFrom_37 rfl (lt_b rfl) rfl (lt_b rfl) rfl ?_
        refine r_goto (t := 17) hC dX5_copyFrom_40 (by rfl) ?_
        refine ih _ (by omega) (p + 1) w1 rfl (by omega) (hfw.trans (hcp.1.weak (fun q hq => by omega) (fun _ z => z))) (fun i hi => ?_) (fun d hd => ?_)
        · rw [hcp.1.mI (by omega)]; exact hs1 i hi
        · by_cases z : d = p
          · subst z; exact rst_cp (hSw.t (by omega)) hcp (hB.pl d (by omega)).2.1.2
          · exact (ht1 d (by omega)).keep (fun q h1 h2 => hcp.1.mI (by omega)) (fun j _ _ => rfl) (hB.pl d (by omega)).2.1.2
  show VW C 0 [some (xA a), some (xA o), none] [] u 0 0
  refine r_aload_n hC dX5_copyFrom_0 rfl ?_
  refine r_getR (j := 0) hC dX5_copyFrom_1 fl_X5_18 rfl rfl hS.o.o hS.o.p0 ?_
  refine r_iconst hC dX5_copyFrom_4 ?_
  refine r_aload_n hC dX5_copyFrom_5 rfl ?_
  refine r_getR (j := 0) hC dX5_copyFrom_6 fl_X5_18 rfl rfl hO.o hO.p0 ?_
  refine r_iconst hC dX5_copyFrom_9 ?_
  refine r_bipush hC dX5_copyFrom_10 (by rfl) ?_
  refine r_copy hC dX5_copyFrom_12 ml_X5_58 hS.o.a0 hO.a0 ⟨by omega, by omega, by omega⟩ (le_b rfl) ⟨le_b rfl, le_b rfl⟩ ?_
  refine r_iconst hC dX5_copyFrom_15 ?_
  refine r_istore_n (lv' := [_, _, _]) hC dX5_copyFrom_16 (lt_b rfl) rfl (lt_b rfl) rfl ?_
  refine lp _ 0 _ rfl (by omega) (Fr.sA (Fr.refl _ _ _) _ ⟨by omega, by omega⟩) (fun i hi => ?_) (fun d hd => by omega)
  rw [mI_cp, cpF_in ⟨by omega, by omega⟩]; exact hS.set hi
