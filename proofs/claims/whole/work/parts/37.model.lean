theorem p_number_t {b : RW} {n a : Int} {N : RW} (h : (p_number b n a N 0 1).1 = true) : 1 ≤ (p_number b n a N 0 1).2.2 0 ∧ (p_number b n a N 0 1).2.2 0 ≤ 99 := by
  by_cases q1 : p_sees b n a (48 + 1) (48 + 9) = true
  · have e1 : p_digit b n a N 0 1 9 = (true, a + 1, up N 0 (b a - 48)) := by unfold p_digit; rw [if_pos q1]
    have s1 := p_sees_lt q1
    have v1 : (up N 0 (b a - 48)) 0 = b a - 48 := by rw [up_s, wr_id ⟨by omega, by omega⟩]
    unfold p_number
    rw [e1, if_pos rfl]
    by_cases q2 : 0 < (up N 0 (b a - 48)) 0 ∧ p_sees b n (a + 1) 48 57 = true
    · have s2 := p_sees_lt q2.2
      rw [if_pos q2]
      dsimp only
      rw [up_s, v1, wr_id ⟨by omega, by omega⟩]
      omega
    · rw [if_neg q2]
      dsimp only
      rw [v1]; omega
  · have e1 : p_digit b n a N 0 1 9 = (false, a, N) := by unfold p_digit; rw [if_neg q1]
    unfold p_number at h
    rw [e1, if_neg Bool.false_ne_true] at h
    exact absurd h Bool.false_ne_true
theorem p_order_t {b : RW} {n a : Int} {N : RW} (h : (p_order b n a N).1 = 116) : 1 ≤ (p_order b n a N).2.2 0 ∧ (p_order b n a N).2.2 0 ≤ 99 := by
  by_cases q1 : p_isKind (p_kind b n a) = true
  · by_cases q2 : (p_reads b n (a + 1) N (p_kind b n a)).1 = true
    · have e : p_order b n a N = (p_kind b n a, (p_reads b n (a + 1) N (p_kind b n a)).2) := by unfold p_order; rw [if_pos q1, if_pos q2]
      rw [e] at h ⊢
      have hk : p_kind b n a = 116 := h
      have er : p_reads b n (a + 1) N (p_kind b n a) = p_number b n (a + 1) N 0 1 := by rw [hk]; unfold p_reads; rw [if_neg (by decide), if_neg (by decide), if_pos rfl]
      rw [er] at q2
      show 1 ≤ (p_reads b n (a + 1) N (p_kind b n a)).2.2 0 ∧ (p_reads b n (a + 1) N (p_kind b n a)).2.2 0 ≤ 99
      rw [er]
      exact p_number_t q2
    · have e : (p_order b n a N).1 = 0 := by unfold p_order; rw [if_pos q1, if_neg q2]
      omega
  · have e : (p_order b n a N).1 = 0 := by unfold p_order; rw [if_neg q1]
    omega
def p_obeyL (b : RW) (n : Int) : Nat → Bool → Int → Int → RW → RW → RW → Int × Int × RW × RW × RW
  | 0, _, c, a, N, B, f => (c, a, N, B, f)
  | k + 1, g, c, a, N, B, f => if g = true ∧ a < n then p_obeyL b n k (decide (0 ≤ m_doesC f B (p_order b n a N).2.2 (p_order b n a N).1)) (c + bI (0 ≤ m_doesC f B (p_order b n a N).2.2 (p_order b n a N).1)) ((p_order b n a N).2.1 + 1) (p_order b n a N).2.2 (m_does f B (p_order b n a N).2.2 (p_order b n a N).1).2 (m_does f B (p_order b n a N).2.2 (p_order b n a N).1).1 else (c, a, N, B, f)
/-- closed under the doing of orders -/
def ObeyOK (W : RW → RW → Prop) : Prop := ∀ (f B N : RW) (k : Int), W f B → RF N → (k = 116 → 1 ≤ N 0 ∧ N 0 ≤ 99) → DoesOK f B N k ∧ rg (m_doesC f B N k) ∧ W (m_does f B N k).1 (m_does f B N k).2
/-- where the doing of orders ends -/
def m_obey (u : Mem) (m : Nat) (f : RW) : Int × Int × RW × RW × RW := p_obeyL (mI u (m + 5)) (mI u m 7) 61 true 0 0 (p_well (mI u (m + 5)) (mI u m 7) (mI u (m + 6))).2.2 (mI u (m + 7)) f
def m_ob1 (u : Mem) (m : Nat) (f : RW) : Mem := m_sv (pM (sI u m 11 0) m (p_well (mI u (m + 5)) (mI u m 7) (mI u (m + 6))).2.1 (p_well (mI u (m + 5)) (mI u m 7) (mI u (m + 6))).2.2) m f
theorem m_sv_m (u : Mem) (m : Nat) (f : RW) {k : Int} (h : k ≠ 4) : mI (m_sv u m f) m k = mI u m k := by
  unfold m_sv
  rw [mI_sA_n _ _ (by omega), mI_sI_k _ _ _ _ h]
theorem vw_st {C : Cx} {pc : Nat} {lv : LV} {st st' : List SV} {u : Mem} {c z : Nat} (h : st = st') (k : VW C pc lv st' u c z) : VW C pc lv st u c z := h ▸ k
abbrev rmX8_obey : Room := { frames := 8, cells := 0, slots := 0, locals := 179 }
set_option maxRecDepth 100000 in
theorem k_obey {l : Launch} {D : DD} (hfl : l.stackTraces = false) {u : Mem} {m : Nat} (hM : MO u m) {f : RW} (hf : RF f) (h6 : 0 ≤ mI u m 4 ∧ mI u m 4 ≤ 6) (hl : 0 ≤ mI u m 7 ∧ mI u m 7 ≤ 60) (W : RW → RW → Prop) (hW : ObeyOK W) (hWr : ∀ f B, W f B → RF f ∧ RF B) (hw : W f (mI u (m + 7))) : CT l D yX8_obey cX8_obey 3 (some .int) rmX8_obey [xA m] (sA u (m + 1) f) (if (p_well (mI u (m + 5)) (mI u m 7) (mI u (m + 6))).1 = true then RT (xI (m_obey u m f).1) (sA (sI (pM (sA (m_ob1 u m f) (m + 7) (m_obey u m f).2.2.2.1) m (m_obey u m f).2.1 (m_obey u m f).2.2.1) m 7 0) (m + 1) (m_obey u m f).2.2.2.2) else RT (xI 0) (sA (sI (pM (sI u m 11 0) m (p_well (mI u (m + 5)) (mI u m 7) (mI u (m + 6))).2.1 (p_well (mI u (m + 5)) (mI u m 7) (mI u (m + 6))).2.2) m 11 1) (m + 1) f)) := by
  refine CT.of hfl (by decide) (le_b rfl) ?_
  intro C hC hR hL hDD hN
  have hfC : (cxL C).stackTraces = false := by rw [hL]; exact hfl
  show VW C 0 [some (xA m), none, none] [] (sA u (m + 1) f) 0 0
  refine r_aload_n hC dX8_obey_0 rfl ?_
  refine r_iconst hC dX8_obey_1 ?_
  refine rM_putI (j := 11) hC hM dX8_obey_2 fl_X8_35 rfl (by rintro _ ⟨⟩; rfl) (Or.inl rfl) ?_
  have hM0 := hM
  obtain ⟨u0, hu0⟩ : ∃ z, z = sI u m 11 0 := ⟨_, rfl⟩
  rw [← hu0]
  have hM : MO u0 m := by rw [hu0]; exact hM.sI _ _ _
  have e4 : mI u0 m 4 = mI u m 4 := by rw [hu0]; exact mI_sI_k u m 0 m (by decide)
  have e5 : mI u0 (m + 5) = mI u (m + 5) := by rw [hu0]; exact up_mI_n u _ _ (by omega)
  have e6 : mI u0 (m + 6) = mI u (m + 6) := by rw [hu0]; exact up_mI_n u _ _ (by omega)
  have e7 : mI u0 m 7 = mI u m 7 := by rw [hu0]; exact mI_sI_k u m 0 m (by decide)
  refine vw_mem (u' := sA (pM u0 m (mI u0 m 8) (mI u0 (m + 6))) (m + 1) f) (by rw [pM_id]) ?_
  refine r_aload_n hC dX8_obey_5 rfl ?_
  refine rM_V0 hC ((hM.pM _ _)) dX8_obey_6 mi_X8_isWell se_X8_isWell ml_X8_203 (rm := rmX8_isWell) rfl rfl rfl rfl ⟨le_b rfl, le_b rfl⟩ (k_isWell hfC hM hf (rf_mI _ _) (by rw [e7]; exact hl)) ?_ rfl
  rw [e5, e6, e7]
  have ok := p_well_ok (b := mI u (m + 5)) (n := mI u m 7) (N := mI u (m + 6)) hl.1 (rf_mI _ _)
  refine r_bne (t := 18) hC dX8_obey_9 (by rfl) (fun h_9 => ?_) (fun h_9 => ?_)
  · skip
    refine r_aload_n hC dX8_obey_18 rfl ?_
    refine rM_V0v hC (hM.pM _ _) dX8_obey_19 mi_X8_save se_X8_save ml_X8_80 (rm := rmX8_save) rfl rfl rfl rfl ⟨le_b rfl, le_b rfl⟩ (k_save hfC (hM.pM _ _) hf (by rw [pM_get (by decide), e4]; exact h6)) ?_ rfl
    rw [if_pos h_9] at hR
    obtain ⟨R, hR9⟩ : ∃ z, z = m_obey u m f := ⟨_, rfl⟩
    obtain ⟨u1, hu1⟩ : ∃ z, z = m_ob1 u m f := ⟨_, rfl⟩
    rw [← hR9, ← hu1] at hR
    refine vw_mem (u' := sA u1 (m + 1) f) (by rw [hu1]; unfold m_ob1 m_sv; rw [← hu0]) ?_
    have hM : MO u1 m := by rw [hu1]; exact hM0
    obtain ⟨b, hb0⟩ : ∃ z, z = mI u (m + 5) := ⟨_, rfl⟩
    obtain ⟨n, hn0⟩ : ∃ z, z = mI u m 7 := ⟨_, rfl⟩
    have hb : RF b := by rw [hb0]; exact rf_mI _ _
    have b5 : mI u1 (m + 5) = b := by rw [hu1]; unfold m_ob1; rw [m_sv_q _ _ _ (by omega) (by omega), pM_arr (by omega) (by omega), ← hu0, e5, hb0]
    have b7 : mI u1 m 7 = n := by rw [hu1]; unfold m_ob1; rw [m_sv_m _ _ _ (by decide), pM_get (by decide), ← hu0, e7, hn0]
    have b6 : mI u1 (m + 6) = (p_well (mI u (m + 5)) (mI u m 7) (mI u (m + 6))).2.2 := by rw [hu1]; unfold m_ob1; rw [m_sv_q _ _ _ (by omega) (by omega), pM_num ok.1]
    have b77 : mI u1 (m + 7) = mI u (m + 7) := by rw [hu1]; unfold m_ob1; rw [m_sv_7, pM_arr (by omega) (by omega), up_mI_n _ _ _ (by omega)]
    rw [← hn0] at hl
    have lp : ∀ (k : Nat) (g : Bool) (c a : Int) (N B f : RW), W f B → RF N → 0 ≤ a → a ≤ 61 → (g = true → n < a + k) → p_obeyL b n k g c a N B f = R → VW C 31 [some (xA m), some (xI c), some (xI (bI (g = true)))] [] (sA (pM (sA u1 (m + 7) B) m a N) (m + 1) f) 0 0 := by
      intro k
      induction k with
      | zero =>
        intro g c a N B f w1 w2 w3 w4 w5 e
        obtain ⟨hf, rB⟩ := hWr _ _ w1
        obtain ⟨v, hv⟩ : ∃ z, z = sA u1 (m + 7) B := ⟨_, rfl⟩
        rw [← hv]
        have hM : MO v m := by rw [hv]; exact hM
        have v5 : mI v (m + 5) = b := by rw [hv, mI_sA_n _ _ (by omega), b5]
        have v7 : mI v m 7 = n := by rw [hv, mI_sA_n _ _ (by omega), b7]
        have v77 : mI v (m + 7) = B := by rw [hv]; exact mI_sA_f u1 (m + 7) rB
        have e' : (c, a, N, B, f) = R := e
        refine r_iload_n hC dX8_obey_31 rfl ?_
        refine r_beq (t := 88) hC dX8_obey_32 (by rfl) (fun h_32 => ?_) (fun h_32 => ?_)
        · skip
          refine r_aload_n hC dX8_obey_88 rfl ?_
          refine r_iconst hC dX8_obey_89 ?_
          refine rM_putI (j := 7) hC (hM.pM _ _) dX8_obey_90 fl_X8_176 rfl (by rintro _ ⟨⟩; rfl) (Or.inl rfl) ?_
          refine r_iload_n hC dX8_obey_93 rfl ?_
          refine r_iret hC hR dX8_obey_94 (le_b rfl) (le_b rfl) ?_
          rw [← e', ← hv]; exact ⟨rfl, rfl⟩
        · skip
          refine r_aload_n hC dX8_obey_35 rfl ?_
          refine rP_at hC hM ⟨by omega, by omega⟩ dX8_obey_36 fl_X8_179 ?_
          refine r_aload_n hC dX8_obey_39 rfl ?_
          refine rP_len hC hM ⟨by omega, by omega⟩ dX8_obey_40 fl_X8_176 ?_
          refine r_icmp_ge (t := 88) hC dX8_obey_43 (by rfl) (by first | with_reducible exact rg_mI _ _ _ | (with_reducible refine rg_of ?_ _ _; (repeat (first | assumption | with_reducible apply rf_up | with_reducible apply rf_setm | with_reducible apply rf_mI | with_reducible apply rf_begins | with_reducible apply rf_writes | with_reducible apply rf_drops | with_reducible apply rf_commitL | with_reducible apply rf_commits | with_reducible apply rf_lost | with_reducible apply rf_sweepL | with_reducible apply rf_sweep1 | with_reducible apply rf_sweeps | with_reducible apply rf_sends0 | with_reducible apply rf_sendsA | with_reducible apply rf_pack | with_reducible apply rf_sends | with_reducible apply rf_works4 | with_reducible apply rf_works7 | with_reducible apply rf_shift | with_reducible apply rf_works | with_reducible apply rf_answerComes | with_reducible apply rf_bcL | with_reducible apply rf_bc1 | with_reducible apply rf_markL | with_reducible apply rf_rel0 | with_reducible apply rf_relays | with_reducible apply rf_cp | with_reducible apply rf_put | with_reducible apply rf_shf | with_reducible apply rf_saved)); done) | (with_reducible refine rg_its ?_ _ _; (repeat (first | assumption | with_reducible apply rf_up | with_reducible apply rf_setm | with_reducible apply rf_mI | with_reducible apply rf_begins | with_reducible apply rf_writes | with_reducible apply rf_drops | with_reducible apply rf_commitL | with_reducible apply rf_commits | with_reducible apply rf_lost | with_reducible apply rf_sweepL | with_reducible apply rf_sweep1 | with_reducible apply rf_sweeps | with_reducible apply rf_sends0 | with_reducible apply rf_sendsA | with_reducible apply rf_pack | with_reducible apply rf_sends | with_reducible apply rf_works4 | with_reducible apply rf_works7 | with_reducible apply rf_shift | with_reducible apply rf_works | with_reducible apply rf_answerComes | with_reducible apply rf_bcL | with_reducible apply rf_bc1 | with_reducible apply rf_markL | with_reducible apply rf_rel0 | with_reducible apply rf_relays | with_reducible apply rf_cp | with_reducible apply rf_put | with_reducible apply rf_shf | with_reducible apply rf_saved)); done) | (with_reducible refine rg_way ?_ _ _; (repeat (first | assumption | with_reducible apply rf_up | with_reducible apply rf_setm | with_reducible apply rf_mI | with_reducible apply rf_begins | with_reducible apply rf_writes | with_reducible apply rf_drops | with_reducible apply rf_commitL | with_reducible apply rf_commits | with_reducible apply rf_lost | with_reducible apply rf_sweepL | with_reducible apply rf_sweep1 | with_reducible apply rf_sweeps | with_reducible apply rf_sends0 | with_reducible apply rf_sendsA | with_reducible apply rf_pack | with_reducible apply rf_sends | with_reducible apply rf_works4 | with_reducible apply rf_works7 | with_reducible apply rf_shift | with_reducible apply rf_works | with_reducible apply rf_answerComes | with_reducible apply rf_bcL | with_reducible apply rf_bc1 | with_reducible apply rf_markL | with_reducible apply rf_rel0 | with_reducible apply rf_relays | with_reducible apply rf_cp | with_reducible apply rf_put | with_reducible apply rf_shf | with_reducible apply rf_saved)); done) | with_reducible exact rg_and _ _ | (with_reducible refine rg_num ?_ ⟨by omega, by omega⟩; (repeat (first | assumption | with_reducible apply rf_up | with_reducible apply rf_setm | with_reducible apply rf_mI | with_reducible apply rf_begins | with_reducible apply rf_writes | with_reducible apply rf_drops | with_reducible apply rf_commitL | with_reducible apply rf_commits | with_reducible apply rf_lost | with_reducible apply rf_sweepL | with_reducible apply rf_sweep1 | with_reducible apply rf_sweeps | with_reducible apply rf_sends0 | with_reducible apply rf_sendsA | with_reducible apply rf_pack | with_reducible apply rf_sends | with_reducible apply rf_works4 | with_reducible apply rf_works7 | with_reducible apply rf_shift | with_reducible apply rf_works | with_reducible apply rf_answerComes | with_reducible apply rf_bcL | with_reducible apply rf_bc1 | with_reducible apply rf_markL | with_reducible apply rf_rel0 | with_reducible apply rf_relays | with_reducible apply rf_cp | with_reducible apply rf_put | with_reducible apply rf_shf | with_reducible apply rf_saved)); done) | (with_reducible refine rf_at ?_ _; (repeat (first | assumption | with_reducible apply rf_up | with_reducible apply rf_setm | with_reducible apply rf_mI | with_reducible apply rf_begins | with_reducible apply rf_writes | with_reducible apply rf_drops | with_reducible apply rf_commitL | with_reducible apply rf_commits | with_reducible apply rf_lost | with_reducible apply rf_sweepL | with_reducible apply rf_sweep1 | with_reducible apply rf_sweeps | with_reducible apply rf_sends0 | with_reducible apply rf_sendsA | with_reducible apply rf_pack | with_reducible apply rf_sends | with_reducible apply rf_works4 | with_reducible apply rf_works7 | with_reducible apply rf_shift | with_reducible apply rf_works | with_reducible apply rf_answerComes | with_reducible apply rf_bcL | with_reducible apply rf_bc1 | with_reducible apply rf_markL | with_reducible apply rf_rel0 | with_reducible apply rf_relays | with_reducible apply rf_cp | with_reducible apply rf_put | with_reducible apply rf_shf | with_reducible apply rf_saved)); done) | exact ⟨by omega, by omega⟩) (by first | with_reducible exact rg_mI _ _ _ | (with_reducible refine rg_of ?_ _ _; (repeat (first | assumption | with_reducible apply rf_up | with_reducible apply rf_setm | with_reducible apply rf_mI | with_reducible apply rf_begins | with_reducible apply rf_writes | with_reducible apply rf_drops | with_reducible apply rf_commitL | with_reducible apply rf_commits | with_reducible apply rf_lost | with_reducible apply rf_sweepL | with_reducible apply rf_sweep1 | with_reducible apply rf_sweeps | with_reducible apply rf_sends0 | with_reducible apply rf_sendsA | with_reducible apply rf_pack | with_reducible apply rf_sends | with_reducible apply rf_works4 | with_reducible apply rf_works7 | with_reducible apply rf_shift | with_reducible apply rf_works | with_reducible apply rf_answerComes | with_reducible apply rf_bcL | with_reducible apply rf_bc1 | with_reducible apply rf_markL | with_reducible apply rf_rel0 | with_reducible apply rf_relays | with_reducible apply rf_cp | with_reducible apply rf_put | with_reducible apply rf_shf | with_reducible apply rf_saved)); done) | (with_reducible refine rg_its ?_ _ _; (repeat (first | assumption | with_reducible apply rf_up | with_reducible apply rf_setm | with_reducible apply rf_mI | with_reducible apply rf_begins | with_reducible apply rf_writes | with_reducible apply rf_drops | with_reducible apply rf_commitL | with_reducible apply rf_commits | with_reducible apply rf_lost | with_reducible apply rf_sweepL | with_reducible apply rf_sweep1 | with_reducible apply rf_sweeps | with_reducible apply rf_sends0 | with_reducible apply rf_sendsA | with_reducible apply rf_pack | with_reducible apply rf_sends | with_reducible apply rf_works4 | with_reducible apply rf_works7 | with_reducible apply rf_shift | with_reducible apply rf_works | with_reducible apply rf_answerComes | with_reducible apply rf_bcL | with_reducible apply rf_bc1 | with_reducible apply rf_markL | with_reducible apply rf_rel0 | with_reducible apply rf_relays | with_reducible apply rf_cp | with_reducible apply rf_put | with_reducible apply rf_shf | with_reducible apply rf_saved)); done) | (with_reducible refine rg_way ?_ _ _; (repeat (first | assumption | with_reducible apply rf_up | with_reducible apply rf_setm | with_reducible apply rf_mI | with_reducible apply rf_begins | with_reducible apply rf_writes | with_reducible apply rf_drops | with_reducible apply rf_commitL | with_reducible apply rf_commits | with_reducible apply rf_lost | with_reducible apply rf_sweepL | with_reducible apply rf_sweep1 | with_reducible apply rf_sweeps | with_reducible apply rf_sends0 | with_reducible apply rf_sendsA | with_reducible apply rf_pack | with_reducible apply rf_sends | with_reducible apply rf_works4 | with_reducible apply rf_works7 | with_reducible apply rf_shift | with_reducible apply rf_works | with_reducible apply rf_answerComes | with_reducible apply rf_bcL | with_reducible apply rf_bc1 | with_reducible apply rf_markL | with_reducible apply rf_rel0 | with_reducible apply rf_relays | with_reducible apply rf_cp | with_reducible apply rf_put | with_reducible apply rf_shf | with_reducible apply rf_saved)); done) | with_reducible exact rg_and _ _ | (with_reducible refine rg_num ?_ ⟨by omega, by omega⟩; (repeat (first | assumption | with_reducible apply rf_up | with_reducible apply rf_setm | with_reducible apply rf_mI | with_reducible apply rf_begins | with_reducible apply rf_writes | with_reducible apply rf_drops | with_reducible apply rf_commitL | with_reducible apply rf_commits | with_reducible apply rf_lost | with_reducible apply rf_sweepL | with_reducible apply rf_sweep1 | with_reducible apply rf_sweeps | with_reducible apply rf_sends0 | with_reducible apply rf_sendsA | with_reducible apply rf_pack | with_reducible apply rf_sends | with_reducible apply rf_works4 | with_reducible apply rf_works7 | with_reducible apply rf_shift | with_reducible apply rf_works | with_reducible apply rf_answerComes | with_reducible apply rf_bcL | with_reducible apply rf_bc1 | with_reducible apply rf_markL | with_reducible apply rf_rel0 | with_reducible apply rf_relays | with_reducible apply rf_cp | with_reducible apply rf_put | with_reducible apply rf_shf | with_reducible apply rf_saved)); done) | (with_reducible refine rf_at ?_ _; (repeat (first | assumption | with_reducible apply rf_up | with_reducible apply rf_setm | with_reducible apply rf_mI | with_reducible apply rf_begins | with_reducible apply rf_writes | with_reducible apply rf_drops | with_reducible apply rf_commitL | with_reducible apply rf_commits | with_reducible apply rf_lost | with_reducible apply rf_sweepL | with_reducible apply rf_sweep1 | with_reducible apply rf_sweeps | with_reducible apply rf_sends0 | with_reducible apply rf_sendsA | with_reducible apply rf_pack | with_reducible apply rf_sends | with_reducible apply rf_works4 | with_reducible apply rf_works7 | with_reducible apply rf_shift | with_reducible apply rf_works | with_reducible apply rf_answerComes | with_reducible apply rf_bcL | with_reducible apply rf_bc1 | with_reducible apply rf_markL | with_reducible apply rf_rel0 | with_reducible apply rf_relays | with_reducible apply rf_cp | with_reducible apply rf_put | with_reducible apply rf_shf | with_reducible apply rf_saved)); done) | exact ⟨by omega, by omega⟩) (fun h_43 => ?_) (fun h_43 => ?_)
          · skip
            refine r_aload_n hC dX8_obey_88 rfl ?_
            refine r_iconst hC dX8_obey_89 ?_
            refine rM_putI (j := 7) hC (hM.pM _ _) dX8_obey_90 fl_X8_176 rfl (by rintro _ ⟨⟩; rfl) (Or.inl rfl) ?_
            refine r_iload_n hC dX8_obey_93 rfl ?_
            refine r_iret hC hR dX8_obey_94 (le_b rfl) (le_b rfl) ?_
            rw [← e', ← hv]; exact ⟨rfl, rfl⟩
          · skip
            exfalso; have := w5 h_32; omega
      | succ k ih =>
        intro g c a N B f w1 w2 w3 w4 w5 e
        obtain ⟨hf, rB⟩ := hWr _ _ w1
        obtain ⟨v, hv⟩ : ∃ z, z = sA u1 (m + 7) B := ⟨_, rfl⟩
        rw [← hv]
        have hM : MO v m := by rw [hv]; exact hM
        have v5 : mI v (m + 5) = b := by rw [hv, mI_sA_n _ _ (by omega), b5]
        have v7 : mI v m 7 = n := by rw [hv, mI_sA_n _ _ (by omega), b7]
        have v77 : mI v (m + 7) = B := by rw [hv]; exact mI_sA_f u1 (m + 7) rB
        simp only [p_obeyL] at e
        refine r_iload_n hC dX8_obey_31 rfl ?_
        refine r_beq (t := 88) hC dX8_obey_32 (by rfl) (fun h_32 => ?_) (fun h_32 => ?_)
        · skip
          have e' : (c, a, N, B, f) = R := by rw [← e, if_neg (fun q => by first | exact h_32 q.1 | omega)]
          refine r_aload_n hC dX8_obey_88 rfl ?_
          refine r_iconst hC dX8_obey_89 ?_
          refine rM_putI (j := 7) hC (hM.pM _ _) dX8_obey_90 fl_X8_176 rfl (by rintro _ ⟨⟩; rfl) (Or.inl rfl) ?_
          refine r_iload_n hC dX8_obey_93 rfl ?_
          refine r_iret hC hR dX8_obey_94 (le_b rfl) (le_b rfl) ?_
          rw [← e', ← hv]; exact ⟨rfl, rfl⟩
        · skip
          refine r_aload_n hC dX8_obey_35 rfl ?_
          refine rP_at hC hM ⟨by omega, by omega⟩ dX8_obey_36 fl_X8_179 ?_
          refine r_aload_n hC dX8_obey_39 rfl ?_
          refine rP_len hC hM ⟨by omega, by omega⟩ dX8_obey_40 fl_X8_176 ?_
          refine r_icmp_ge (t := 88) hC dX8_obey_43 (by rfl) (by first | with_reducible exact rg_mI _ _ _ | (with_reducible refine rg_of ?_ _ _; (repeat (first | assumption | with_reducible apply rf_up | with_reducible apply rf_setm | with_reducible apply rf_mI | with_reducible apply rf_begins | with_reducible apply rf_writes | with_reducible apply rf_drops | with_reducible apply rf_commitL | with_reducible apply rf_commits | with_reducible apply rf_lost | with_reducible apply rf_sweepL | with_reducible apply rf_sweep1 | with_reducible apply rf_sweeps | with_reducible apply rf_sends0 | with_reducible apply rf_sendsA | with_reducible apply rf_pack | with_reducible apply rf_sends | with_reducible apply rf_works4 | with_reducible apply rf_works7 | with_reducible apply rf_shift | with_reducible apply rf_works | with_reducible apply rf_answerComes | with_reducible apply rf_bcL | with_reducible apply rf_bc1 | with_reducible apply rf_markL | with_reducible apply rf_rel0 | with_reducible apply rf_relays | with_reducible apply rf_cp | with_reducible apply rf_put | with_reducible apply rf_shf | with_reducible apply rf_saved)); done) | (with_reducible refine rg_its ?_ _ _; (repeat (first | assumption | with_reducible apply rf_up | with_reducible apply rf_setm | with_reducible apply rf_mI | with_reducible apply rf_begins | with_reducible apply rf_writes | with_reducible apply rf_drops | with_reducible apply rf_commitL | with_reducible apply rf_commits | with_reducible apply rf_lost | with_reducible apply rf_sweepL | with_reducible apply rf_sweep1 | with_reducible apply rf_sweeps | with_reducible apply rf_sends0 | with_reducible apply rf_sendsA | with_reducible apply rf_pack | with_reducible apply rf_sends | with_reducible apply rf_works4 | with_reducible apply rf_works7 | with_reducible apply rf_shift | with_reducible apply rf_works | with_reducible apply rf_answerComes | with_reducible apply rf_bcL | with_reducible apply rf_bc1 | with_reducible apply rf_markL | with_reducible apply rf_rel0 | with_reducible apply rf_relays | with_reducible apply rf_cp | with_reducible apply rf_put | with_reducible apply rf_shf | with_reducible apply rf_saved)); done) | (with_reducible refine rg_way ?_ _ _; (repeat (first | assumption | with_reducible apply rf_up | with_reducible apply rf_setm | with_reducible apply rf_mI | with_reducible apply rf_begins | with_reducible apply rf_writes | with_reducible apply rf_drops | with_reducible apply rf_commitL | with_reducible apply rf_commits | with_reducible apply rf_lost | with_reducible apply rf_sweepL | with_reducible apply rf_sweep1 | with_reducible apply rf_sweeps | with_reducible apply rf_sends0 | with_reducible apply rf_sendsA | with_reducible apply rf_pack | with_reducible apply rf_sends | with_reducible apply rf_works4 | with_reducible apply rf_works7 | with_reducible apply rf_shift | with_reducible apply rf_works | with_reducible apply rf_answerComes | with_reducible apply rf_bcL | with_reducible apply rf_bc1 | with_reducible apply rf_markL | with_reducible apply rf_rel0 | with_reducible apply rf_relays | with_reducible apply rf_cp | with_reducible apply rf_put | with_reducible apply rf_shf | with_reducible apply rf_saved)); done) | with_reducible exact rg_and _ _ | (with_reducible refine rg_num ?_ ⟨by omega, by omega⟩; (repeat (first | assumption | with_reducible apply rf_up | with_reducible apply rf_setm | with_reducible apply rf_mI | with_reducible apply rf_begins | with_reducible apply rf_writes | with_reducible apply rf_drops | with_reducible apply rf_commitL | with_reducible apply rf_commits | with_reducible apply rf_lost | with_reducible apply rf_sweepL | with_reducible apply rf_sweep1 | with_reducible apply rf_sweeps | with_reducible apply rf_sends0 | with_reducible apply rf_sendsA | with_reducible apply rf_pack | with_reducible apply rf_sends | with_reducible apply rf_works4 | with_reducible apply rf_works7 | with_reducible apply rf_shift | with_reducible apply rf_works | with_reducible apply rf_answerComes | with_reducible apply rf_bcL | with_reducible apply rf_bc1 | with_reducible apply rf_markL | with_reducible apply rf_rel0 | with_reducible apply rf_relays | with_reducible apply rf_cp | with_reducible apply rf_put | with_reducible apply rf_shf | with_reducible apply rf_saved)); done) | (with_reducible refine rf_at ?_ _; (repeat (first | assumption | with_reducible apply rf_up | with_reducible apply rf_setm | with_reducible apply rf_mI | with_reducible apply rf_begins | with_reducible apply rf_writes | with_reducible apply rf_drops | with_reducible apply rf_commitL | with_reducible apply rf_commits | with_reducible apply rf_lost | with_reducible apply rf_sweepL | with_reducible apply rf_sweep1 | with_reducible apply rf_sweeps | with_reducible apply rf_sends0 | with_reducible apply rf_sendsA | with_reducible apply rf_pack | with_reducible apply rf_sends | with_reducible apply rf_works4 | with_reducible apply rf_works7 | with_reducible apply rf_shift | with_reducible apply rf_works | with_reducible apply rf_answerComes | with_reducible apply rf_bcL | with_reducible apply rf_bc1 | with_reducible apply rf_markL | with_reducible apply rf_rel0 | with_reducible apply rf_relays | with_reducible apply rf_cp | with_reducible apply rf_put | with_reducible apply rf_shf | with_reducible apply rf_saved)); done) | exact ⟨by omega, by omega⟩) (by first | with_reducible exact rg_mI _ _ _ | (with_reducible refine rg_of ?_ _ _; (repeat (first | assumption | with_reducible apply rf_up | with_reducible apply rf_setm | with_reducible apply rf_mI | with_reducible apply rf_begins | with_reducible apply rf_writes | with_reducible apply rf_drops | with_reducible apply rf_commitL | with_reducible apply rf_commits | with_reducible apply rf_lost | with_reducible apply rf_sweepL | with_reducible apply rf_sweep1 | with_reducible apply rf_sweeps | with_reducible apply rf_sends0 | with_reducible apply rf_sendsA | with_reducible apply rf_pack | with_reducible apply rf_sends | with_reducible apply rf_works4 | with_reducible apply rf_works7 | with_reducible apply rf_shift | with_reducible apply rf_works | with_reducible apply rf_answerComes | with_reducible apply rf_bcL | with_reducible apply rf_bc1 | with_reducible apply rf_markL | with_reducible apply rf_rel0 | with_reducible apply rf_relays | with_reducible apply rf_cp | with_reducible apply rf_put | with_reducible apply rf_shf | with_reducible apply rf_saved)); done) | (with_reducible refine rg_its ?_ _ _; (repeat (first | assumption | with_reducible apply rf_up | with_reducible apply rf_setm | with_reducible apply rf_mI | with_reducible apply rf_begins | with_reducible apply rf_writes | with_reducible apply rf_drops | with_reducible apply rf_commitL | with_reducible apply rf_commits | with_reducible apply rf_lost | with_reducible apply rf_sweepL | with_reducible apply rf_sweep1 | with_reducible apply rf_sweeps | with_reducible apply rf_sends0 | with_reducible apply rf_sendsA | with_reducible apply rf_pack | with_reducible apply rf_sends | with_reducible apply rf_works4 | with_reducible apply rf_works7 | with_reducible apply rf_shift | with_reducible apply rf_works | with_reducible apply rf_answerComes | with_reducible apply rf_bcL | with_reducible apply rf_bc1 | with_reducible apply rf_markL | with_reducible apply rf_rel0 | with_reducible apply rf_relays | with_reducible apply rf_cp | with_reducible apply rf_put | with_reducible apply rf_shf | with_reducible apply rf_saved)); done) | (with_reducible refine rg_way ?_ _ _; (repeat (first | assumption | with_reducible apply rf_up | with_reducible apply rf_setm | with_reducible apply rf_mI | with_reducible apply rf_begins | with_reducible apply rf_writes | with_reducible apply rf_drops | with_reducible apply rf_commitL | with_reducible apply rf_commits | with_reducible apply rf_lost | with_reducible apply rf_sweepL | with_reducible apply rf_sweep1 | with_reducible apply rf_sweeps | with_reducible apply rf_sends0 | with_reducible apply rf_sendsA | with_reducible apply rf_pack | with_reducible apply rf_sends | with_reducible apply rf_works4 | with_reducible apply rf_works7 | with_reducible apply rf_shift | with_reducible apply rf_works | with_reducible apply rf_answerComes | with_reducible apply rf_bcL | with_reducible apply rf_bc1 | with_reducible apply rf_markL | with_reducible apply rf_rel0 | with_reducible apply rf_relays | with_reducible apply rf_cp | with_reducible apply rf_put | with_reducible apply rf_shf | with_reducible apply rf_saved)); done) | with_reducible exact rg_and _ _ | (with_reducible refine rg_num ?_ ⟨by omega, by omega⟩; (repeat (first | assumption | with_reducible apply rf_up | with_reducible apply rf_setm | with_reducible apply rf_mI | with_reducible apply rf_begins | with_reducible apply rf_writes | with_reducible apply rf_drops | with_reducible apply rf_commitL | with_reducible apply rf_commits | with_reducible apply rf_lost | with_reducible apply rf_sweepL | with_reducible apply rf_sweep1 | with_reducible apply rf_sweeps | with_reducible apply rf_sends0 | with_reducible apply rf_sendsA | with_reducible apply rf_pack | with_reducible apply rf_sends | with_reducible apply rf_works4 | with_reducible apply rf_works7 | with_reducible apply rf_shift | with_reducible apply rf_works | with_reducible apply rf_answerComes | with_reducible apply rf_bcL | with_reducible apply rf_bc1 | with_reducible apply rf_markL | with_reducible apply rf_rel0 | with_reducible apply rf_relays | with_reducible apply rf_cp | with_reducible apply rf_put | with_reducible apply rf_shf | with_reducible apply rf_saved)); done) | (with_reducible refine rf_at ?_ _; (repeat (first | assumption | with_reducible apply rf_up | with_reducible apply rf_setm | with_reducible apply rf_mI | with_reducible apply rf_begins | with_reducible apply rf_writes | with_reducible apply rf_drops | with_reducible apply rf_commitL | with_reducible apply rf_commits | with_reducible apply rf_lost | with_reducible apply rf_sweepL | with_reducible apply rf_sweep1 | with_reducible apply rf_sweeps | with_reducible apply rf_sends0 | with_reducible apply rf_sendsA | with_reducible apply rf_pack | with_reducible apply rf_sends | with_reducible apply rf_works4 | with_reducible apply rf_works7 | with_reducible apply rf_shift | with_reducible apply rf_works | with_reducible apply rf_answerComes | with_reducible apply rf_bcL | with_reducible apply rf_bc1 | with_reducible apply rf_markL | with_reducible apply rf_rel0 | with_reducible apply rf_relays | with_reducible apply rf_cp | with_reducible apply rf_put | with_reducible apply rf_shf | with_reducible apply rf_saved)); done) | exact ⟨by omega, by omega⟩) (fun h_43 => ?_) (fun h_43 => ?_)
          · skip
            have e' : (c, a, N, B, f) = R := by rw [← e, if_neg (fun q => by first | exact h_32 q.1 | omega)]
            refine r_aload_n hC dX8_obey_88 rfl ?_
            refine r_iconst hC dX8_obey_89 ?_
            refine rM_putI (j := 7) hC (hM.pM _ _) dX8_obey_90 fl_X8_176 rfl (by rintro _ ⟨⟩; rfl) (Or.inl rfl) ?_
            refine r_iload_n hC dX8_obey_93 rfl ?_
            refine r_iret hC hR dX8_obey_94 (le_b rfl) (le_b rfl) ?_
            rw [← e', ← hv]; exact ⟨rfl, rfl⟩
          · skip
            refine r_aload_n hC dX8_obey_46 rfl ?_
            refine r_aload_n hC dX8_obey_47 rfl ?_
            refine rM_V0 hC (hM.pM _ _) dX8_obey_48 mi_X8_order se_X8_order ml_X8_200 (rm := rmX8_order) rfl rfl rfl rfl ⟨le_b rfl, le_b rfl⟩ (k_order hfC hM hf ⟨w3, by omega⟩ w2 (by rw [v7]; exact hl)) ?_ rfl
            rw [v5, v7]
            obtain ⟨o1, o2, o3⟩ := p_order_ok (b := b) (n := n) (a := a) w2
            have q5 := w5 h_32
            rw [if_pos ⟨h_32, by omega⟩] at e
            obtain ⟨hd, hrg, w6⟩ := hW f B (p_order b n a N).2.2 (p_order b n a N).1 w1 o3 (fun q => p_order_t q)
            refine rM_V0 hC (hM.pM _ _) dX8_obey_51 mi_X8_does se_X8_does ml_X8_207 (rm := rmX8_does) rfl rfl rfl rfl ⟨le_b rfl, le_b rfl⟩ (k_does hfC hM hf o3 (p_order_rg hb) (by rw [v77]; exact hd)) ?_ rfl
            rw [v77]
            have rest : VW C 62 [some (xA m), some (xI c), some (xI (bI (g = true)))] [xI (bI (0 ≤ m_doesC f B (p_order b n a N).2.2 (p_order b n a N).1))] (sA (pM (sA v (m + 7) (m_does f B (p_order b n a N).2.2 (p_order b n a N).1).2) m (p_order b n a N).2.1 (p_order b n a N).2.2) (m + 1) (m_does f B (p_order b n a N).2.2 (p_order b n a N).1).1) 0 0 := by
              have hM : MO (sA v (m + 7) (m_does f B (p_order b n a N).2.2 (p_order b n a N).1).2) m := hM
              refine r_istore_n (lv' := [_, _, _]) hC dX8_obey_62 (lt_b rfl) rfl (lt_b rfl) rfl ?_
              refine r_iload_n hC dX8_obey_63 rfl ?_
              refine r_iload_n hC dX8_obey_64 rfl ?_
              refine d_beq (t := 72) (J := 73) hC dX8_obey_65 dX8_obey_68 dX8_obey_69 dX8_obey_72 (by rfl) (by rfl) (by rfl) ?_
              refine r_iadd hC dX8_obey_73 ?_
              refine r_istore_n (lv' := [_, _, _]) hC dX8_obey_74 (lt_b rfl) rfl (lt_b rfl) rfl ?_
              refine r_aload_n hC dX8_obey_75 rfl ?_
              refine r_dup hC dX8_obey_76 rfl ?_
              refine rP_at hC hM ⟨by omega, by omega⟩ dX8_obey_77 fl_X8_179 ?_
              refine r_iconst hC dX8_obey_80 ?_
              refine r_iadd hC dX8_obey_81 ?_
              refine rP_seta hC hM dX8_obey_82 fl_X8_179 ?_
              refine r_goto (t := 31) hC dX8_obey_85 (by rfl) ?_
              have ih := ih (decide (0 ≤ m_doesC f B (p_order b n a N).2.2 (p_order b n a N).1)) (c + bI (0 ≤ m_doesC f B (p_order b n a N).2.2 (p_order b n a N).1)) ((p_order b n a N).2.1 + 1) (p_order b n a N).2.2 (m_does f B (p_order b n a N).2.2 (p_order b n a N).1).2 (m_does f B (p_order b n a N).2.2 (p_order b n a N).1).1 w6 o3 (by omega) (by omega) (fun _ => by omega) e
              simp only [decide_eq_true_eq] at ih
              refine vw_mem ?_ ih
              rw [hv, sA_sA]
            refine r_if_lt (t := 61) hC dX8_obey_54 (by rfl) hrg (fun h_54 => ?_) (fun h_54 => ?_)
            · skip
              refine r_iconst hC dX8_obey_61 ?_
              refine vw_st ?_ rest; first | (rw [show bI (0 ≤ m_doesC f B (p_order b n a N).2.2 (p_order b n a N).1) = 1 from if_pos (by omega)]; done) | (rw [show bI (0 ≤ m_doesC f B (p_order b n a N).2.2 (p_order b n a N).1) = 0 from if_neg (by omega)]; done)
            · skip
              refine r_iconst hC dX8_obey_57 ?_
              refine r_goto (t := 62) hC dX8_obey_58 (by rfl) ?_
              refine vw_st ?_ rest; first | (rw [show bI (0 ≤ m_doesC f B (p_order b n a N).2.2 (p_order b n a N).1) = 1 from if_pos (by omega)]; done) | (rw [show bI (0 ≤ m_doesC f B (p_order b n a N).2.2 (p_order b n a N).1) = 0 from if_neg (by omega)]; done)
    refine vw_mem (u' := sA (pM u1 m (mI u1 m 8) (mI u1 (m + 6))) (m + 1) f) (by rw [pM_id]) ?_
    refine r_aload_n hC dX8_obey_22 rfl ?_
    refine r_iconst hC dX8_obey_23 ?_
    refine rP_seta hC hM dX8_obey_24 fl_X8_179 ?_
    refine r_iconst hC dX8_obey_27 ?_
    refine r_istore_n (lv' := [_, _, _]) hC dX8_obey_28 (lt_b rfl) rfl (lt_b rfl) rfl ?_
    refine r_iconst hC dX8_obey_29 ?_
    refine r_istore_n (lv' := [_, _, _]) hC dX8_obey_30 (lt_b rfl) rfl (lt_b rfl) rfl ?_
    refine vw_mem ?_ (lp 61 true 0 0 (p_well (mI u (m + 5)) (mI u m 7) (mI u (m + 6))).2.2 (mI u (m + 7)) f hw ok.1 (by omega) (by omega) (fun _ => by omega) (by rw [hR9]; unfold m_obey; rw [← hb0, ← hn0]))
    rw [b6, ← b77, sA_mI]
  · skip
    refine r_aload_n hC dX8_obey_12 rfl ?_
    refine r_iconst hC dX8_obey_13 ?_
    refine rM_V0 hC (hM.pM _ _) dX8_obey_14 mi_X8_fails se_X8_fails ml_X8_73 (rm := rmX8_fails) rfl rfl rfl rfl ⟨le_b rfl, le_b rfl⟩ (k_fails hfC (hM.pM _ _) hf) ?_ rfl
    refine r_iret hC hR dX8_obey_17 (le_b rfl) (le_b rfl) ?_
    rw [if_neg h_9, ← hu0]; exact ⟨rfl, rfl⟩

