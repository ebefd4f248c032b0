/-! the relay: what now says changes -/
theorem RX.now {u w : Mem} {x : Nat} {f g : RW} {s : Int} {P : RW} {kp : Int} {K : RW} {T T1 : Int} (h : RX u x f s P kp K T) (hf : Blk u w (x + 1)) (hS : RS w (x + 1) g) (hI : Inv g T1) (hT : T ≤ T1) : RX w x g s P kp K T1 ∧ Kp u w x ∧ TxS u w x := by
  obtain ⟨ho, hq, -, ⟨s1, s2, s3⟩, hk⟩ := h
  have gS := hf.1
  have gN := hf.2.1
  have gJ := hf.2.2.1
  have gI : ∀ q, ¬ (x + 1 ≤ q ∧ q < x + 147) → mI w q = mI u q := fun q hq => hf.mI (by omega)
  have gP : ∀ q, q ≠ x + 36 → mP w q = mP u q := fun q hq => hf.mP (by omega)
  have hsl : ∀ k, qS w x k = qS u x k := fun k => by unfold qS qR; split <;> rw [gP _ (by omega)]
  have hlo : ∀ a n, x + 147 ≤ a → Lo u w a n := fun a n ha q h1 h2 => ⟨by rw [gS], gI q (by omega), gP q (by omega)⟩
  obtain ⟨o1, o2, ⟨o3, o4⟩, o5, o6, o7, o8⟩ := ho
  refine ⟨⟨⟨by rw [gS]; exact o1, by rw [gP x (by omega)]; exact o2, ⟨by rw [gP x (by omega)]; exact o3, by rw [gS]; exact o4⟩, by rw [gP x (by omega)]; exact o5, by rw [gS]; exact o6, by rw [gP (x + 148) (by omega)]; exact o7, by rw [gS]; exact o8⟩, ⟨by rw [gN]; exact hq.1, fun i hi a ha => ?_, fun i j hi hj hne a b ha hb => ?_⟩, ⟨hS, hI⟩, ⟨by rw [gI x (by omega)]; exact s1, s2, fun k hk' => ?_⟩, ?_⟩, ⟨by rw [gN]; exact Nat.le_refl _, fun q ⟨h1, h2, h3⟩ => ⟨⟨by rw [gN]; exact h1, h2, fun i hi a ha => ?_⟩, by rw [gS], gI q (by omega), gP q (by omega), by rw [gJ]⟩⟩, fun q q1 q2 => gI q (by omega)⟩
  · rw [hsl] at ha
    obtain ⟨b1, b2⟩ := hq.2.1 i hi a ha
    have hl := hlo a 146 (by omega)
    exact ⟨⟨b1.1, by rw [gN]; exact b1.2⟩, b2.loc (fun q q1 q2 => ⟨(hl q q1 q2).1, (hl q q1 q2).2.2⟩)⟩
  · rw [hsl] at ha hb
    exact hq.2.2 i j hi hj hne a b ha hb
  · obtain ⟨b, b1, b2, b3⟩ := s3 k hk'
    have hbx := (hq.2.1 k (by omega) b b1).1.1
    exact ⟨b, (hsl k).trans b1, b2.loc b3.b (hlo b 146 (by omega)), b3.more hT⟩
  · rcases hk with ⟨k1, k2⟩ | ⟨k1, b, b1, b2, b3⟩
    · exact Or.inl ⟨k1, (hsl 6).trans k2⟩
    · have hbx := (hq.2.1 6 (by decide) b b1).1.1
      exact Or.inr ⟨k1, b, (hsl 6).trans b1, b2.loc b3.b (hlo b 146 (by omega)), b3.more hT⟩
  · rw [hsl] at ha; exact h3 i hi a ha
theorem TxS.trans {u v w : Mem} {x : Nat} (h : TxS u v x) (k : TxS v w x) : TxS u w x := fun q h1 h2 => (k q h1 h2).trans (h q h1 h2)
abbrev rmX7_sweep : Room := { frames := 5, cells := 146, slots := 2320, locals := 127 }
set_option maxRecDepth 100000 in
theorem k_Rl_sweep {l : Launch} {D : DD} (hfl : l.stackTraces = false) {u : Mem} {x : Nat} {f : RW} {s : Int} {P : RW} {kp : Int} {K : RW} {T : Int} (hX : RX u x f s P kp K T) (rP : RF P) (hst : Sta D u x) : CT l D yX7_sweep cX7_sweep 1 (some .int) rmX7_sweep [xA x] u (fun o w => o = some (xI (m_sweepsC f)) ∧ RX w x (m_sweeps f) (m_savedN s) (m_saved P f s) kp K T ∧ Kp u w x ∧ TxS u w x) := by
  refine CT.of hfl (by decide) (le_b rfl) ?_
  intro C hC hR hL hDD hN
  have hfC : (cxL C).stackTraces = false := by rw [hL]; exact hfl
  show VW C 0 [some (xA x)] [] u 0 0
  refine r_aload_n hC dX7_sweep_0 rfl ?_
  refine r_callV (as := []) hC dX7_sweep_1 mi_X7_save se_X7_save ml_X7_48 (rm := rmX7_save) ⟨le_b rfl, le_b rfl⟩ hX.1.1 rfl rfl rfl (le_b rfl) (le_b rfl) (le_b rfl) (k_Rl_save hfC hX rP (by rw [hDD]; exact hst)) ?_ rfl
  rintro _ w ⟨rfl, hX1, hk1, ht1⟩
  refine r_aload_n hC dX7_sweep_4 rfl ?_
  refine r_getR (j := 0) hC dX7_sweep_5 fl_X7_10 rfl rfl hX1.1.1 hX1.1.2.1 ?_
  refine r_V0p (u := w) hC dX7_sweep_8 mi_X5_sweepRows se_X5_sweepRows ml_X7_140 (rm := rmX5_sweepRows) rfl hX1.2.2.1.1.o.o rfl rfl rfl rfl ⟨le_b rfl, le_b rfl⟩ (k_St_sweep hfC hX1.2.2.1.1 hX1.2.2.1.2.b) ?_ rfl
  rintro _ w2 ⟨rfl, hS2, hb2⟩
  have hI := hX1.2.2.1.2
  obtain ⟨o, hO, -⟩ := hX1.2.2.1.1.r.2.2.2.2
  have hco := hI.co.2.1
  have hI2 := inv_sweeps hI hO (by unfold m_kept at *; omega)
  obtain ⟨hX2, hk2, ht2⟩ := hX1.now hb2 hS2 hI2 (Int.le_refl _)
  refine r_iret hC hR dX7_sweep_11 (le_b rfl) (le_b rfl) ?_
  exact ⟨rfl, hX2, hk1.trans hk2, ht1.trans ht2⟩
