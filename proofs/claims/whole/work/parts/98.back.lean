/-- one saved one fewer -/
theorem RX.pop {u : Mem} {x : Nat} {f : RW} {s : Int} {P : RW} {kp : Int} {K : RW} {T : Int} (h : RX u x f s P kp K T) (h1 : 0 < s) : RX (sI u x 3 (s - 1)) x f (s - 1) P kp K T ∧ Kp u (sI u x 3 (s - 1)) x ∧ TxS u (sI u x 3 (s - 1)) x := by
  obtain ⟨ho, hq, ⟨hS, hI⟩, ⟨s1, s2, s3⟩, hk⟩ := h
  have gI : ∀ q, q ≠ x → mI (sI u x 3 (s - 1)) q = mI u q := fun q hq => up_mI_n _ _ _ hq
  have hlo : ∀ a n, x < a → Lo u (sI u x 3 (s - 1)) a n := fun a n ha q h1 h2 => ⟨rfl, gI q (by omega), rfl⟩
  refine ⟨⟨ho, hq, ⟨hS.loc hI.b (hlo _ _ (by omega)), hI⟩, ⟨by rw [mI_sI_s]; exact wr_id ⟨by omega, by omega⟩, by omega, fun k hk' => ?_⟩, ?_⟩, (Kp.refl u x).sI 3 _, fun q q1 q2 => gI q (by omega)⟩
  · obtain ⟨b, b1, b2, b3⟩ := s3 k (by omega)
    have hbx := (hq.2.1 k (by omega) b b1).1.1
    exact ⟨b, b1, b2.loc b3.b (hlo b 146 (by omega)), b3⟩
  · rcases hk with ⟨k1, k2⟩ | ⟨k1, b, b1, b2, b3⟩
    · exact Or.inl ⟨k1, k2⟩
    · have hbx := (hq.2.1 6 (by decide) b b1).1.1
      exact Or.inr ⟨k1, b, b1, b2.loc b3.b (hlo b 146 (by omega)), b3⟩
/-- now says what the block at a says -/
theorem RX.back {u w : Mem} {x : Nat} {f g : RW} {s : Int} {P : RW} {kp : Int} {K : RW} {T : Int} (h : RX u x f s P kp K T) (rf : RF f) (hw : RS w (x + 1) g) (hI : Inv g T) (hf : Fr u w (fun q => x + 1 ≤ q ∧ q < x + 1 + 146) (fun _ => False)) : RX w x (cp f g 1651) s P kp K T ∧ Kp u w x ∧ TxS u w x :=
  h.now (hf.blk (fun q hq => hq)) (rs_cg hw hI (cp_cg f g)) (inv_cg hI (cp_cg f g) (rf_cp rf hI.rf _)) (Int.le_refl _)
abbrev rmX7_goBack : Room := { frames := 6, cells := 146, slots := 2320, locals := 127 }
set_option maxRecDepth 100000 in
theorem k_Rl_goBack {l : Launch} {D : DD} (hfl : l.stackTraces = false) {u : Mem} {x : Nat} {f : RW} {s : Int} {P : RW} {kp : Int} {K : RW} {T : Int} (hX0 : RX u x f s P kp K T) (rP : RF P) (hst : Sta D u x) : CTX l D yX7_goBack cX7_goBack 1 (some .int) rmX7_goBack [xA x] u (xP (if kp = 0 then 1 else 0) (MutP u x (cp f K 1651) s P f kp K (T) ((cp f K 1651) 0))) (xQ u (if kp = 0 then 1 else 0) [xIS]) := by
  refine CTX.of hfl (by decide) (le_b rfl) ?_
  intro C hC hR hX hL hDD hN
  have hfC : (cxL C).stackTraces = false := by rw [hL]; exact hfl
  show VW C 0 [some (xA x)] [] u 0 0
  rcases hX0.2.2.2.2 with ⟨hk0, hk1⟩ | ⟨hk0, a, hk1, hk2, hk3⟩
  · refine r_aload_n hC dX7_goBack_0 rfl ?_
    refine r_getR (j := 4) hC dX7_goBack_1 fl_X7_31 rfl rfl hX0.1.1 hk1 ?_
    refine r_ifnonnull (t := 17) hC dX7_goBack_4 (by rfl) (fun a h4 => ?_) (fun h4 => ?_)
    · cases h4
    · refine r_throw hC hX 0 (lt_b rfl) tx_190 rfl dX7_goBack_7 dX7_goBack_10 dX7_goBack_11 dX7_goBack_13 dX7_goBack_16 ⟨le_b rfl, le_b rfl⟩ (le_b rfl) (le_b rfl) (fun n1 hn1 => ?_)
      exact ⟨⟨0, by rw [if_pos hk0]; rfl, rfl⟩, n1, hn1, rfl⟩
  · refine r_aload_n hC dX7_goBack_0 rfl ?_
    refine r_getR (j := 4) hC dX7_goBack_1 fl_X7_31 rfl rfl hX0.1.1 hk1 ?_
    refine r_ifnonnull (t := 17) hC dX7_goBack_4 (by rfl) (fun a h4 => ?_) (fun h4 => ?_)
    · refine r_aload_n hC dX7_goBack_17 rfl ?_
      refine r_callV (as := []) hC dX7_goBack_18 mi_X7_save se_X7_save ml_X7_48 (rm := rmX7_save) ⟨le_b rfl, le_b rfl⟩ hX0.1.1 rfl rfl rfl (le_b rfl) (le_b rfl) (le_b rfl) (k_Rl_save hfC hX0 rP (by rw [hDD]; exact hst)) ?_ rfl
      rintro _ w ⟨rfl, hX1, hk1, ht1⟩
      rcases hX1.2.2.2.2 with ⟨hj0, hj1⟩ | ⟨hj0, b, hj1, hj2, hj3⟩
      · omega
      · have hbb := (hX1.2.1.2.1 6 (by decide) b hj1)
        refine r_aload_n hC dX7_goBack_21 rfl ?_
        refine r_getR (j := 0) hC dX7_goBack_22 fl_X7_10 rfl rfl hX1.1.1 hX1.1.2.1 ?_
        refine r_aload_n hC dX7_goBack_25 rfl ?_
        refine r_getR (j := 4) hC dX7_goBack_26 fl_X7_31 rfl rfl hX1.1.1 hj1 ?_
        refine r_V0p (u := w) hC dX7_goBack_29 mi_X5_copyFrom se_X5_copyFrom ml_X7_184 (rm := rmX5_copyFrom) rfl hX1.2.2.1.1.o.o rfl rfl rfl rfl ⟨le_b rfl, le_b rfl⟩ (k_St_copy hfC hX1.2.2.1.1.o hj2 hj3 (Or.inr (by omega))) ?_ rfl
        rintro _ w2 ⟨rfl, hS2, hf2⟩
        obtain ⟨hX2, hk2, ht2⟩ := hX1.back hX0.2.2.1.2.rf hS2 hj3 hf2
        refine r_aload_n hC dX7_goBack_32 rfl ?_
        refine r_getR (j := 0) hC dX7_goBack_33 fl_X7_10 rfl rfl hX2.1.1 hX2.1.2.1 ?_
        refine r_getIv (j := 5) (v := (cp f K 1651) 0) hC dX7_goBack_36 fl_X7_188 rfl rfl hX2.2.2.1.1.o.o hX2.2.2.1.1.tick ?_
        refine r_iret hC hR dX7_goBack_39 (le_b rfl) (le_b rfl) ?_
        exact ⟨by rw [if_neg (by omega)], rfl, hX2, hk1.trans hk2, ht1.trans ht2⟩
    · cases h4

abbrev rmX7_undo : Room := { frames := 6, cells := 1, slots := 6, locals := 105 }
set_option maxRecDepth 100000 in
theorem k_Rl_undo {l : Launch} {D : DD} (hfl : l.stackTraces = false) {u : Mem} {x : Nat} {f : RW} {s : Int} {P : RW} {kp : Int} {K : RW} {T : Int} (hX0 : RX u x f s P kp K T) (rP : RF P) (hst : Sta D u x) : CTX l D yX7_undo cX7_undo 2 (some .int) rmX7_undo [xA x] u (xP (if s = 0 then 1 else 0) (fun o w => o = some (xI (s - 1)) ∧ RX w x (cp f (m_past P (s - 1)) 1651) (s - 1) P kp K T ∧ Kp u w x ∧ TxS u w x)) (xQ u (if s = 0 then 1 else 0) [xIS]) := by
  refine CTX.of hfl (by decide) (le_b rfl) ?_
  intro C hC hR hX hL hDD hN
  have hfC : (cxL C).stackTraces = false := by rw [hL]; exact hfl
  show VW C 0 [some (xA x), none] [] u 0 0
  have hs1 := hX0.2.2.2.1.1
  have hs6 := hX0.2.2.2.1.2.1
  refine r_aload_n hC dX7_undo_0 rfl ?_
  refine r_getIv (j := 3) (v := s) hC dX7_undo_1 fl_X7_27 rfl rfl hX0.1.1 hs1 ?_
  refine r_if_ne (t := 17) hC dX7_undo_4 (by rfl) ⟨by omega, by omega⟩ (fun h_4 => ?_) (fun h_4 => ?_)
  · refine r_aload_n hC dX7_undo_17 rfl ?_
    refine r_dup hC dX7_undo_18 rfl ?_
    refine r_getIv (j := 3) (v := s) hC dX7_undo_19 fl_X7_27 rfl rfl hX0.1.1 hs1 ?_
    refine r_iconst hC dX7_undo_22 ?_
    refine r_isub hC dX7_undo_23 ?_
    refine r_putI (j := 3) hC dX7_undo_24 fl_X7_27 rfl hX0.1.1 (by rintro _ ⟨⟩; rfl) (Or.inl rfl) ?_
    obtain ⟨hX1, hk1, ht1⟩ := hX0.pop (by omega)
    obtain ⟨w, hw⟩ : ∃ w, w = sI u x 3 (s - 1) := ⟨_, rfl⟩
    rw [← hw] at hX1 hk1 ht1 ⊢
    obtain ⟨k, hk0⟩ : ∃ k : Nat, s - 1 = k := ⟨(s - 1).toNat, by omega⟩
    obtain ⟨a, ha, hSa, hIa⟩ := hX0.2.2.2.1.2.2 k (by omega)
    have hab := (hX0.2.1.2.1 k (by omega) a ha).1
    have hSw : RS w a (m_past P k) := hSa.loc hIa.b (fun q q1 q2 => by rw [hw]; exact ⟨rfl, up_mI_n _ _ _ (by omega), rfl⟩)
    have haw : mP w (x + 147) k = some a := by
      have : qS u x k = mP u (x + 147) k := by unfold qS qR qK; rw [if_pos (by omega), if_pos (by omega)]
      rw [hw, mP_sI, ← this]; exact ha
    refine r_aload_n hC dX7_undo_27 rfl ?_
    refine r_getR (j := 1) hC dX7_undo_28 fl_X7_16 rfl rfl hX1.1.1 hX1.1.2.2.1.1 ?_
    refine r_aload_n hC dX7_undo_31 rfl ?_
    refine r_getIv (j := 3) (v := s - 1) hC dX7_undo_32 fl_X7_27 rfl rfl hX1.1.1 hX1.2.2.2.1.1 ?_
    rw [hk0]
    refine r_aald hC dX7_undo_35 hX1.1.2.2.1.2 (le_b rfl) (lt_b rfl) ⟨by omega, by omega⟩ haw ?_
    refine r_astore_n (lv' := [_, _]) hC dX7_undo_36 (lt_b rfl) rfl (lt_b rfl) rfl ?_
    refine r_aload_n hC dX7_undo_37 rfl ?_
    refine r_ifnull (t := 49) hC dX7_undo_38 (by rfl) (fun h => by cases h) (fun a' h => ?_)
    refine r_aload_n hC dX7_undo_41 rfl ?_
    refine r_getR (j := 0) hC dX7_undo_42 fl_X7_10 rfl rfl hX1.1.1 hX1.1.2.1 ?_
    refine r_aload_n hC dX7_undo_45 rfl ?_
    refine r_V0p (u := w) hC dX7_undo_46 mi_X5_copyFrom se_X5_copyFrom ml_X7_184 (rm := rmX5_copyFrom) rfl hX1.2.2.1.1.o.o rfl rfl rfl rfl ⟨le_b rfl, le_b rfl⟩ (k_St_copy hfC hX1.2.2.1.1.o hSw hIa (Or.inr (by omega))) ?_ rfl
    rintro _ w2 ⟨rfl, hS2, hf2⟩
    obtain ⟨hX2, hk2, ht2⟩ := hX1.back hX0.2.2.1.2.rf hS2 hIa hf2
    refine r_aload_n hC dX7_undo_49 rfl ?_
    refine r_getIv (j := 3) (v := s - 1) hC dX7_undo_50 fl_X7_27 rfl rfl hX2.1.1 hX2.2.2.2.1.1 ?_
    refine r_iret hC hR dX7_undo_53 (le_b rfl) (le_b rfl) ?_
    exact ⟨by rw [if_neg (by omega)], rfl, by rw [← hk0] at hX2; exact hX2, hk1.trans hk2, ht1.trans ht2⟩
  · refine r_throw hC hX 0 (lt_b rfl) tx_192 rfl dX7_undo_7 dX7_undo_10 dX7_undo_11 dX7_undo_13 dX7_undo_16 ⟨le_b rfl, le_b rfl⟩ (le_b rfl) (le_b rfl) (fun n1 hn1 => ?_)
    exact ⟨⟨0, by rw [if_pos (by omega)]; rfl, rfl⟩, n1, hn1, rfl⟩

abbrev rmX7_append : Room := { frames := 6, cells := 1, slots := 6, locals := 82 }
set_option maxRecDepth 100000 in
theorem k_Rl_append {l : Launch} {D : DD} (hfl : l.stackTraces = false) {u : Mem} {x : Nat} {f : RW} {s : Int} {P : RW} {kp : Int} {K : RW} {T : Int} (hX0 : RX u x f s P kp K T) (rP : RF P) (hst : Sta D u x) {b : RW} {n : Int} (htx : RXt u x b n) {c : Int} (hc : rg c) : CTX l D yX7_append cX7_append 2 (some .int) rmX7_append [xA x, xI c] u (xP (q_append n c) (fun o w => o = some (xI (n + 1)) ∧ RX w x f s P kp K T ∧ Kp u w x ∧ RXt w x (up b n c) (n + 1))) (xQ u (q_append n c) [xIA, xIS]) := by
  refine CTX.of hfl (by decide) (le_b rfl) ?_
  intro C hC hR hX hL hDD hN
  have hfC : (cxL C).stackTraces = false := by rw [hL]; exact hfl
  show VW C 0 [some (xA x), some (xI c)] [] u 0 0
  have ho := hX0.1
  have hn0 := htx.2.1
  refine r_iload_n hC dX7_append_0 rfl ?_
  refine r_bipush hC dX7_append_1 (by rfl) ?_
  refine r_icmp_lt (t := 12) hC dX7_append_3 (by rfl) hc ⟨by omega, by omega⟩ (fun h_3 => ?_) (fun h_3 => ?_)
  · skip
    refine r_throw hC hX 1 (lt_b rfl) tx_159 rfl dX7_append_12 dX7_append_15 dX7_append_16 dX7_append_18 dX7_append_21 ⟨le_b rfl, le_b rfl⟩ (le_b rfl) (le_b rfl) (fun n1 hn1 => ?_)
    first
    | exact ⟨⟨0, by unfold q_append; rw [if_pos (fun h => by omega)]; rfl, rfl⟩, n1, hn1, rfl⟩
  · skip
    refine r_iload_n hC dX7_append_6 rfl ?_
    refine r_bipush hC dX7_append_7 (by rfl) ?_
    refine r_icmp_le (t := 22) hC dX7_append_9 (by rfl) hc ⟨by omega, by omega⟩ (fun h_9 => ?_) (fun h_9 => ?_)
    · skip
      refine r_aload_n hC dX7_append_22 rfl ?_
      refine r_getR (j := 2) hC dX7_append_23 fl_X7_23 rfl rfl ho.1 ho.2.2.2.1 ?_
      refine r_getIv (j := 1) (v := n) hC dX7_append_26 fl_X7_161 rfl rfl ho.2.2.2.2.1 htx.1 ?_
      refine r_bipush hC dX7_append_29 (by rfl) ?_
      refine r_icmp_lt (t := 44) hC dX7_append_31 (by rfl) ⟨by omega, by omega⟩ ⟨by omega, by omega⟩ (fun h_31 => ?_) (fun h_31 => ?_)
      · skip
        refine r_aload_n hC dX7_append_44 rfl ?_
        refine r_getR (j := 2) hC dX7_append_45 fl_X7_23 rfl rfl ho.1 ho.2.2.2.1 ?_
        refine r_getR (j := 0) hC dX7_append_48 fl_X7_166 rfl rfl ho.2.2.2.2.1 ho.2.2.2.2.2.1 ?_
        refine r_aload_n hC dX7_append_51 rfl ?_
        refine r_getR (j := 2) hC dX7_append_52 fl_X7_23 rfl rfl ho.1 ho.2.2.2.1 ?_
        refine r_getIv (j := 1) (v := n) hC dX7_append_55 fl_X7_161 rfl rfl ho.2.2.2.2.1 htx.1 ?_
        refine r_iload_n hC dX7_append_58 rfl ?_
        refine r_iast hC dX7_append_59 ho.2.2.2.2.2.2 ⟨by omega, by omega⟩ ?_
        have hnw : mI (sI u (x + 148 + 1) n c) (x + 148) 1 = n := by rw [mI_sI_a _ _ _ _ (by omega)]; exact htx.1
        refine r_aload_n hC dX7_append_60 rfl ?_
        refine r_getR (j := 2) hC dX7_append_61 fl_X7_23 rfl rfl ho.1 ho.2.2.2.1 ?_
        refine r_dup hC dX7_append_64 rfl ?_
        refine r_getIv (j := 1) (v := n) hC dX7_append_65 fl_X7_161 rfl rfl ho.2.2.2.2.1 hnw ?_
        refine r_iconst hC dX7_append_68 ?_
        refine r_iadd hC dX7_append_69 ?_
        refine r_putI (j := 1) hC dX7_append_70 fl_X7_161 rfl ho.2.2.2.2.1 (by rintro _ ⟨⟩; rfl) (Or.inl rfl) ?_
        have hnw2 : mI (sI (sI u (x + 148 + 1) n c) (x + 148) 1 (n + 1)) (x + 148) 1 = n + 1 := by rw [mI_sI_s]; exact wr_id ⟨by omega, by omega⟩
        refine r_aload_n hC dX7_append_73 rfl ?_
        refine r_getR (j := 2) hC dX7_append_74 fl_X7_23 rfl rfl ho.1 ho.2.2.2.1 ?_
        refine r_getIv (j := 1) (v := n + 1) hC dX7_append_77 fl_X7_161 rfl rfl ho.2.2.2.2.1 hnw2 ?_
        refine r_iret hC hR dX7_append_80 (le_b rfl) (le_b rfl) ?_
        have hf : Fr u (sI (sI u (x + 148 + 1) n c) (x + 148) 1 (n + 1)) (fun q => x + 148 ≤ q ∧ q < x + 150) (fun _ => False) := Fr.sI (Fr.sI (Fr.refl _ _ _) _ _ ⟨by omega, by omega⟩) _ _ ⟨by omega, by omega⟩
        obtain ⟨k1, k2⟩ := hX0.text hf
        exact ⟨by unfold q_append; rw [if_neg (fun h => h ⟨by omega, by omega⟩), if_neg (by omega)], rfl, k1, k2, htx.add (by omega) hc⟩
      · skip
        refine r_throw hC hX 0 (lt_b rfl) tx_164 rfl dX7_append_34 dX7_append_37 dX7_append_38 dX7_append_40 dX7_append_43 ⟨le_b rfl, le_b rfl⟩ (le_b rfl) (le_b rfl) (fun n1 hn1 => ?_)
        exact ⟨⟨1, by unfold q_append; rw [if_neg (fun h => h ⟨by omega, by omega⟩), if_pos (by omega)]; rfl, rfl⟩, n1, hn1, rfl⟩
    · skip
      refine r_throw hC hX 1 (lt_b rfl) tx_159 rfl dX7_append_12 dX7_append_15 dX7_append_16 dX7_append_18 dX7_append_21 ⟨le_b rfl, le_b rfl⟩ (le_b rfl) (le_b rfl) (fun n1 hn1 => ?_)
      first
      | exact ⟨⟨0, by unfold q_append; rw [if_pos (fun h => by omega)]; rfl, rfl⟩, n1, hn1, rfl⟩

