/-! the trial, the snapshot -/
/-- the settings' first values lie below x -/
def Sta (D : DD) (u : Mem) (x : Nat) : Prop := D.2.2.2.2 0 < x ∧ mSh u (D.2.2.2.2 0) = some (.inr (9, 7)) ∧ ∀ i : Nat, i < 7 → mI u (D.2.2.2.2 0) i = m_row0 (10 + i)
/-- a filled slot, that was there -/
theorem fill_old {u w : Mem} {x i a : Nat} {r : RW} (hq : RXq u x) (hi : i < 8) (ha : qS u x i = some a) (hf : Fr u w (fun q => a ≤ q ∧ q < a + 146) (fun _ => False)) (hS : RS w a r) : Fill u w x i a r := by
  have hb := (hq.2.1 i hi a ha).1
  refine ⟨by unfold qS at *; rw [hf.mP id]; exact ha, hS, ⟨hb.1, by rw [hf.2.1]; exact hb.2⟩, by rw [hf.2.1]; exact Nat.le_refl _, Or.inl ha, fun q hq' => ⟨by rw [hf.1], by rw [hf.2.2.1], fun h => hf.mI h, fun j _ => by rw [hf.mP id]⟩⟩
/-- a filled slot, that is new -/
theorem fill_new {u w1 w : Mem} {x i : Nat} {r : RW} (hn : x + 150 ≤ mN u) (m1 : mN w1 = mN u + 146) (m2 : Bel (nC u (some (.inl 5))) w1 (mN u)) (hf : Fr (sP w1 (qR x i) (qK i) (some (mN u))) w (fun q => mN u ≤ q ∧ q < mN u + 146) (fun _ => False)) (hS : RS w (mN u) r) : Fill u w x i (mN u) r := by
  have E := ext_obj m2 (qR x i) (qK i) (some (mN u))
  have hN : mN w = mN u + 146 := by rw [hf.2.1, mN_sP]; exact m1
  refine ⟨by unfold qS; rw [hf.mP id, mP_sP_s], hS, ⟨hn, by omega⟩, by omega, Or.inr (Nat.le_refl _), fun q hq => ?_⟩
  obtain ⟨e1, e2, e3⟩ := E q hq
  refine ⟨by rw [hf.1]; exact e1, ?_, fun h => by rw [hf.mI (by omega)]; exact e2, fun j hj => by rw [hf.mP id]; exact e3 j hj⟩
  rw [hf.2.2.1, mJ_sP, (m2 q hq).2.2.2]
  funext j; rw [mJ_nC, if_neg (by omega)]
abbrev rmX7_freshTrial : Room := { frames := 4, cells := 146, slots := 2320, locals := 105 }
set_option maxRecDepth 100000 in
theorem k_Rl_trial {l : Launch} {D : DD} (hfl : l.stackTraces = false) {u : Mem} {x : Nat} {f : RW} {s : Int} {P : RW} {kp : Int} {K : RW} {T : Int} (hX : RX u x f s P kp K T) (hst : Sta D u x) : CT l D yX7_freshTrial cX7_freshTrial 1 (some (.object "OutboxRelay$State")) rmX7_freshTrial [xA x] u (fun o w => ∃ a, o = some (xA a) ∧ Fill u w x 7 a f) := by
  obtain ⟨ho, hq, ⟨hS, hI⟩, hs, hk⟩ := hX
  have hn := hq.1
  refine CT.of hfl (by decide) (le_b rfl) ?_
  intro C hC hR hL hDD hN
  have hfC : (cxL C).stackTraces = false := by rw [hL]; exact hfl
  have k18 : ∀ (w : Mem) (a c z : Nat), c ≤ 146 → z ≤ 2320 → mSh w x = some (.inl 7) → mP w x 0 = some (x + 1) → mP w x 5 = some a → StO w a → RS w (x + 1) f → x + 147 ≤ a → (∀ w' : Mem, Fr w w' (fun q => a ≤ q ∧ q < a + 146) (fun _ => False) → RS w' a f → Fill u w' x 7 a f) → VW C 18 [some (xA x)] [] w c z := by
    intro w a c z hc hz hsx hp0 hpj hOa hSn hxa hfl'
    refine r_aload_n hC dX7_freshTrial_18 rfl ?_
    refine r_getR (j := 5) hC dX7_freshTrial_19 fl_X7_34 rfl rfl hsx hpj ?_
    refine r_aload_n hC dX7_freshTrial_22 rfl ?_
    refine r_getR (j := 0) hC dX7_freshTrial_23 fl_X7_10 rfl rfl hsx hp0 ?_
    refine r_V0p (u := w) hC dX7_freshTrial_26 mi_X5_copyFrom se_X5_copyFrom ml_X7_184 (rm := rmX5_copyFrom) rfl hOa.o rfl rfl rfl rfl ⟨hc, hz⟩ (k_St_copy hfC hOa hSn hI (Or.inl (by omega))) ?_ rfl
    rintro _ w' ⟨rfl, hS', hf'⟩
    have hF := hfl' w' hf' hS'
    have hsx' : mSh w' x = some (.inl 7) := by rw [hf'.1]; exact hsx
    have hp0' : mP w' x 0 = some (x + 1) := by rw [hf'.mP id]; exact hp0
    have hpj' : mP w' x 5 = some a := by rw [hf'.mP id]; exact hpj
    have hSn' := hF.now hn hS hI
    refine r_aload_n hC dX7_freshTrial_29 rfl ?_
    refine r_getR (j := 5) hC dX7_freshTrial_30 fl_X7_34 rfl rfl hsx' hpj' ?_
    refine r_aret hC hR dX7_freshTrial_33 hc hz ?_
    exact ⟨a, rfl, hF⟩
  show VW C 0 [some (xA x)] [] u 0 0
  refine r_aload_n hC dX7_freshTrial_0 rfl ?_
  refine r_getR (j := 5) hC dX7_freshTrial_1 fl_X7_34 rfl rfl ho.1 rfl ?_
  refine r_ifnonnull (t := 18) hC dX7_freshTrial_4 (by rfl) (fun a h4 => ?_) (fun h4 => ?_)
  · have ha : qS u x 7 = some a := h4
    have hb := hq.2.1 7 (by decide) a ha
    exact k18 u a 0 0 (by omega) (by omega) ho.1 ho.2.1 h4 hb.2 hS (by omega) (fun w' hf' hS' => fill_old hq (by decide) ha hf' hS')
  · refine r_aload_n hC dX7_freshTrial_7 rfl ?_
    refine r_new (ci := 5) hC dX7_freshTrial_8 rfl cl_X7_7 cn_X5 cz_X5 (le_b rfl) (le_b rfl) (fun _ => ?_)
    refine r_dup hC dX7_freshTrial_11 rfl ?_
    refine r_callI (as := []) (a := mN u) hC dX7_freshTrial_12 mi_X5_init si_X5_init rfl ml_X7_9 (rm := rmX5_init) ⟨le_b rfl, le_b rfl⟩ rfl (le_b rfl) (le_b rfl) (le_b rfl) (n_St hfC (u := nC u (some (.inl 5))) (b := mN u) (sa := D.2.2.2.2 0) rfl (by rw [mSh_nC, if_pos rfl]) (by funext j; rw [mI_nC, if_pos rfl]) (by rw [hDD]) (by rw [mSh_nC, if_neg (by have := hst.1; omega)]; exact hst.2.1) (fun i hi => by rw [mI_nC, if_neg (by have := hst.1; omega)]; exact hst.2.2 i hi)) ?_ rfl
    rintro _ w1 ⟨rfl, m1, m2, m3⟩
    have E := ext_obj m2 x 5 (some (mN u))
    refine r_putR (j := 5) (ci := 7) hC dX7_freshTrial_15 fl_X7_34 rfl (by rw [(m2 x (by omega)).1, mSh_nC, if_neg (by omega)]; exact ho.1) (Or.inl (by rintro _ ⟨⟩; rfl)) rfl ?_
    refine k18 (sP w1 x 5 (some (mN u))) (mN u) _ _ (le_b rfl) (le_b rfl) ((E x (by omega)).1.trans ho.1) (((E x (by omega)).2.2 0 (Or.inr (by decide))).trans ho.2.1) (mP_sP_s _ _ _ _) (m3.o.loc (fun q h1 h2 => ⟨rfl, by funext j; exact mP_sP_a _ _ _ _ (by omega)⟩)) (hS.loc hI.b (fun q h1 h2 => ?_)) (by omega) (fun w' hf' hS' => fill_new (w1 := w1) (i := 7) hn (by omega) m2 hf' hS')
    obtain ⟨e1, e2, e3⟩ := E q (by omega)
    exact ⟨e1, e2, funext fun j => e3 j (Or.inl (by omega))⟩

abbrev rmX7_keep : Room := { frames := 4, cells := 146, slots := 2320, locals := 105 }
