abbrev rmX8_reads : Room := { frames := 4, cells := 0, slots := 0, locals := 89 }
set_option maxRecDepth 100000 in
theorem k_reads {l : Launch} {D : DD} (hfl : l.stackTraces = false) {u : Mem} {m : Nat} (hM : MO u m) {f : RW} (hf : RF f) {a : Int} (ha : 0 ≤ a ∧ a ≤ 100) {N : RW} (hn1 : RF N) (hl : 0 ≤ mI u m 7 ∧ mI u m 7 ≤ 60) {k : Int} (hk : rg k) : CT l D yX8_reads cX8_reads 2 (some .boolean) rmX8_reads [xA m, xI k] (sA (pM u m a N) (m + 1) f) (RT (xI (bI ((p_reads (mI u (m + 5)) (mI u m 7) a N k).1 = true))) (sA (pM u m (p_reads (mI u (m + 5)) (mI u m 7) a N k).2.1 (p_reads (mI u (m + 5)) (mI u m 7) a N k).2.2) (m + 1) f)) := by
  refine CT.of hfl (by decide) (le_b rfl) ?_
  intro C hC hR hL hDD hN
  have hfC : (cxL C).stackTraces = false := by rw [hL]; exact hfl
  show VW C 0 [some (xA m), some (xI k)] [] (sA (pM u m a N) (m + 1) f) 0 0
  refine r_iload_n hC dX8_reads_0 rfl ?_
  refine r_lk4 (td := 103) (t0 := 88) (t1 := 88) (t2 := 96) (t3 := 44) hC dX8_reads_1 (by decide) hk (by rfl) (by rfl) (by rfl) (by rfl) (by rfl) ?_ ?_ ?_ ?_ ?_
  · intro s_1
    refine r_aload_n hC dX8_reads_88 rfl ?_
    refine r_iconst hC dX8_reads_89 ?_
    refine r_iconst hC dX8_reads_90 ?_
    refine r_iconst hC dX8_reads_91 ?_
    refine rM_V0 hC (hM.pM _ _) dX8_reads_92 mi_X8_digit se_X8_digit ml_X8_185 (rm := rmX8_digit) rfl rfl rfl rfl ⟨le_b rfl, le_b rfl⟩ (k_digit hfC hM hf ⟨by omega, by omega⟩ (by assumption) hl ⟨by omega, by omega⟩ ⟨by omega, by omega⟩ ⟨by omega, by omega⟩) ?_ rfl
    refine r_bret hC hR dX8_reads_95 (le_b rfl) (le_b rfl) ?_
    unfold p_reads; rw [if_neg (by omega), if_pos (by omega)]; exact ⟨rfl, rfl⟩
  · intro s_1
    refine r_aload_n hC dX8_reads_88 rfl ?_
    refine r_iconst hC dX8_reads_89 ?_
    refine r_iconst hC dX8_reads_90 ?_
    refine r_iconst hC dX8_reads_91 ?_
    refine rM_V0 hC (hM.pM _ _) dX8_reads_92 mi_X8_digit se_X8_digit ml_X8_185 (rm := rmX8_digit) rfl rfl rfl rfl ⟨le_b rfl, le_b rfl⟩ (k_digit hfC hM hf ⟨by omega, by omega⟩ (by assumption) hl ⟨by omega, by omega⟩ ⟨by omega, by omega⟩ ⟨by omega, by omega⟩) ?_ rfl
    refine r_bret hC hR dX8_reads_95 (le_b rfl) (le_b rfl) ?_
    unfold p_reads; rw [if_neg (by omega), if_pos (by omega)]; exact ⟨rfl, rfl⟩
  · intro s_1
    refine r_aload_n hC dX8_reads_96 rfl ?_
    refine r_iconst hC dX8_reads_97 ?_
    refine r_iconst hC dX8_reads_98 ?_
    refine rM_V0 hC (hM.pM _ _) dX8_reads_99 mi_X8_number se_X8_number ml_X8_191 (rm := rmX8_number) rfl rfl rfl rfl ⟨le_b rfl, le_b rfl⟩ (k_number hfC hM hf ⟨by omega, by omega⟩ (by assumption) hl ⟨by omega, by omega⟩ ⟨by omega, by omega⟩) ?_ rfl
    refine r_bret hC hR dX8_reads_102 (le_b rfl) (le_b rfl) ?_
    unfold p_reads; rw [if_neg (by omega), if_neg (by omega), if_pos s_1]; exact ⟨rfl, rfl⟩
  · intro s_1
    refine r_aload_n hC dX8_reads_44 rfl ?_
    refine r_iconst hC dX8_reads_45 ?_
    refine r_iconst hC dX8_reads_46 ?_
    refine r_iconst hC dX8_reads_47 ?_
    refine rM_V0 hC (hM.pM _ _) dX8_reads_48 mi_X8_digit se_X8_digit ml_X8_185 (rm := rmX8_digit) rfl rfl rfl rfl ⟨le_b rfl, le_b rfl⟩ (k_digit hfC hM hf ⟨by omega, by omega⟩ (by assumption) hl ⟨by omega, by omega⟩ ⟨by omega, by omega⟩ ⟨by omega, by omega⟩) ?_ rfl
    obtain ⟨d1, d2, d3⟩ := p_digit_ok (b := mI u (m + 5)) (n := mI u m 7) (a := a) hn1 0 0 3
    refine r_beq (t := 86) hC dX8_reads_51 (by rfl) (fun h_51 => ?_) (fun h_51 => ?_)
    · skip
      refine r_iconst hC dX8_reads_86 ?_
      refine r_zret hC hR dX8_reads_87 (by first | exact Or.inl rfl | exact Or.inr rfl) (le_b rfl) (le_b rfl) ?_
      unfold p_reads; rw [if_pos s_1]
      first
      | (rw [if_neg h_51]; exact ⟨rfl, rfl⟩)
      | (rw [if_pos h_51]; first
        | (rw [if_neg h_61]; exact ⟨rfl, rfl⟩)
        | (rw [if_pos h_61]; first
          | (rw [if_neg h_70]; exact ⟨rfl, rfl⟩)
          | (rw [if_pos h_70]; first
            | exact ⟨congrArg (fun i => some (xI i)) (if_pos h_79).symm, rfl⟩
            | exact ⟨congrArg (fun i => some (xI i)) (if_neg h_79).symm, rfl⟩)))
    · skip
      refine r_aload_n hC dX8_reads_54 rfl ?_
      refine r_iconst hC dX8_reads_55 ?_
      refine r_iconst hC dX8_reads_56 ?_
      refine r_iconst hC dX8_reads_57 ?_
      refine rM_V0 hC (hM.pM _ _) dX8_reads_58 mi_X8_digit se_X8_digit ml_X8_185 (rm := rmX8_digit) rfl rfl rfl rfl ⟨le_b rfl, le_b rfl⟩ (k_digit hfC hM hf ⟨by omega, by omega⟩ (by assumption) hl ⟨by omega, by omega⟩ ⟨by omega, by omega⟩ ⟨by omega, by omega⟩) ?_ rfl
      obtain ⟨e1, e2, e3⟩ := p_digit_ok (b := mI u (m + 5)) (n := mI u m 7) (a := (p_digit (mI u (m + 5)) (mI u m 7) a N 0 0 3).2.1) d3 1 0 3
      refine r_beq (t := 86) hC dX8_reads_61 (by rfl) (fun h_61 => ?_) (fun h_61 => ?_)
      · skip
        refine r_iconst hC dX8_reads_86 ?_
        refine r_zret hC hR dX8_reads_87 (by first | exact Or.inl rfl | exact Or.inr rfl) (le_b rfl) (le_b rfl) ?_
        unfold p_reads; rw [if_pos s_1]
        first
        | (rw [if_neg h_51]; exact ⟨rfl, rfl⟩)
        | (rw [if_pos h_51]; first
          | (rw [if_neg h_61]; exact ⟨rfl, rfl⟩)
          | (rw [if_pos h_61]; first
            | (rw [if_neg h_70]; exact ⟨rfl, rfl⟩)
            | (rw [if_pos h_70]; first
              | exact ⟨congrArg (fun i => some (xI i)) (if_pos h_79).symm, rfl⟩
              | exact ⟨congrArg (fun i => some (xI i)) (if_neg h_79).symm, rfl⟩)))
      · skip
        refine r_aload_n hC dX8_reads_64 rfl ?_
        refine r_bipush hC dX8_reads_65 (by rfl) ?_
        refine rM_V0 hC (hM.pM _ _) dX8_reads_67 mi_X8_takes se_X8_takes ml_X8_188 (rm := rmX8_takes) rfl rfl rfl rfl ⟨le_b rfl, le_b rfl⟩ (k_takes hfC hM hf ⟨by omega, by omega⟩ (by assumption) hl ⟨by omega, by omega⟩) ?_ rfl
        have e4 := p_tk_le (mI u (m + 5)) (mI u m 7) (p_digit (mI u (m + 5)) (mI u m 7) (p_digit (mI u (m + 5)) (mI u m 7) a N 0 0 3).2.1 (p_digit (mI u (m + 5)) (mI u m 7) a N 0 0 3).2.2 1 0 3).2.1 61
        refine r_beq (t := 86) hC dX8_reads_70 (by rfl) (fun h_70 => ?_) (fun h_70 => ?_)
        · skip
          refine r_iconst hC dX8_reads_86 ?_
          refine r_zret hC hR dX8_reads_87 (by first | exact Or.inl rfl | exact Or.inr rfl) (le_b rfl) (le_b rfl) ?_
          unfold p_reads; rw [if_pos s_1]
          first
          | (rw [if_neg h_51]; exact ⟨rfl, rfl⟩)
          | (rw [if_pos h_51]; first
            | (rw [if_neg h_61]; exact ⟨rfl, rfl⟩)
            | (rw [if_pos h_61]; first
              | (rw [if_neg h_70]; exact ⟨rfl, rfl⟩)
              | (rw [if_pos h_70]; first
                | exact ⟨congrArg (fun i => some (xI i)) (if_pos h_79).symm, rfl⟩
                | exact ⟨congrArg (fun i => some (xI i)) (if_neg h_79).symm, rfl⟩)))
        · skip
          refine r_aload_n hC dX8_reads_73 rfl ?_
          refine r_iconst hC dX8_reads_74 ?_
          refine r_iconst hC dX8_reads_75 ?_
          refine rM_V0 hC (hM.pM _ _) dX8_reads_76 mi_X8_number se_X8_number ml_X8_191 (rm := rmX8_number) rfl rfl rfl rfl ⟨le_b rfl, le_b rfl⟩ (k_number hfC hM hf ⟨by omega, by omega⟩ (by assumption) hl ⟨by omega, by omega⟩ ⟨by omega, by omega⟩) ?_ rfl
          refine r_beq (t := 86) hC dX8_reads_79 (by rfl) (fun h_79 => ?_) (fun h_79 => ?_)
          · skip
            refine r_iconst hC dX8_reads_86 ?_
            refine r_zret hC hR dX8_reads_87 (by first | exact Or.inl rfl | exact Or.inr rfl) (le_b rfl) (le_b rfl) ?_
            unfold p_reads; rw [if_pos s_1]
            first
            | (rw [if_neg h_51]; exact ⟨rfl, rfl⟩)
            | (rw [if_pos h_51]; first
              | (rw [if_neg h_61]; exact ⟨rfl, rfl⟩)
              | (rw [if_pos h_61]; first
                | (rw [if_neg h_70]; exact ⟨rfl, rfl⟩)
                | (rw [if_pos h_70]; first
                  | exact ⟨congrArg (fun i => some (xI i)) (if_pos h_79).symm, rfl⟩
                  | exact ⟨congrArg (fun i => some (xI i)) (if_neg h_79).symm, rfl⟩)))
          · skip
            refine r_iconst hC dX8_reads_82 ?_
            refine r_goto (t := 87) hC dX8_reads_83 (by rfl) ?_
            refine r_zret hC hR dX8_reads_87 (by first | exact Or.inl rfl | exact Or.inr rfl) (le_b rfl) (le_b rfl) ?_
            unfold p_reads; rw [if_pos s_1]
            first
            | (rw [if_neg h_51]; exact ⟨rfl, rfl⟩)
            | (rw [if_pos h_51]; first
              | (rw [if_neg h_61]; exact ⟨rfl, rfl⟩)
              | (rw [if_pos h_61]; first
                | (rw [if_neg h_70]; exact ⟨rfl, rfl⟩)
                | (rw [if_pos h_70]; first
                  | exact ⟨congrArg (fun i => some (xI i)) (if_pos h_79).symm, rfl⟩
                  | exact ⟨congrArg (fun i => some (xI i)) (if_neg h_79).symm, rfl⟩)))
  · intro n0_1 n1_1 n2_1 n3_1
    refine r_iconst hC dX8_reads_103 ?_
    refine r_zret hC hR dX8_reads_104 (by first | exact Or.inl rfl | exact Or.inr rfl) (le_b rfl) (le_b rfl) ?_
    unfold p_reads; rw [if_neg (by omega), if_neg (by omega), if_neg (by omega)]; exact ⟨rfl, rfl⟩

abbrev rmX8_order : Room := { frames := 5, cells := 0, slots := 0, locals := 110 }
set_option maxRecDepth 100000 in
theorem k_order {l : Launch} {D : DD} (hfl : l.stackTraces = false) {u : Mem} {m : Nat} (hM : MO u m) {f : RW} (hf : RF f) {a : Int} (ha : 0 ≤ a ∧ a ≤ 100) {N : RW} (hn1 : RF N) (hl : 0 ≤ mI u m 7 ∧ mI u m 7 ≤ 60)  : CT l D yX8_order cX8_order 2 (some .int) rmX8_order [xA m] (sA (pM u m a N) (m + 1) f) (RT (xI (p_order (mI u (m + 5)) (mI u m 7) a N).1) (sA (pM u m (p_order (mI u (m + 5)) (mI u m 7) a N).2.1 (p_order (mI u (m + 5)) (mI u m 7) a N).2.2) (m + 1) f)) := by
  refine CT.of hfl (by decide) (le_b rfl) ?_
  intro C hC hR hL hDD hN
  have hfC : (cxL C).stackTraces = false := by rw [hL]; exact hfl
  have rest : ∀ k : Int, rg k → k = p_kind (mI u (m + 5)) (mI u m 7) a → VW C 25 [some (xA m), some (xI k)] [] (sA (pM u m a N) (m + 1) f) 0 0 := by
    intro k hkr hk
    refine r_iload_n hC dX8_order_25 rfl ?_
    refine r_S0 hC dX8_order_26 mi_X8_isKind ss_X8_isKind ml_X8_194 (rm := rmX8_isKind) rfl rfl rfl ⟨le_b rfl, le_b rfl⟩ (k_isKind hfC hkr) ?_ rfl
    refine r_bne (t := 34) hC dX8_order_29 (by rfl) (fun h_29 => ?_) (fun h_29 => ?_)
    · skip
      have q29 := p_kind_lt (show p_isKind (p_kind (mI u (m + 5)) (mI u m 7) a) = true by rw [← hk]; exact h_29)
      refine r_aload_n hC dX8_order_34 rfl ?_
      refine r_dup hC dX8_order_35 rfl ?_
      refine rP_at hC hM ⟨by omega, by omega⟩ dX8_order_36 fl_X8_179 ?_
      refine r_iconst hC dX8_order_39 ?_
      refine r_iadd hC dX8_order_40 ?_
      refine rP_seta hC hM dX8_order_41 fl_X8_179 ?_
      refine r_aload_n hC dX8_order_44 rfl ?_
      refine r_iload_n hC dX8_order_45 rfl ?_
      refine rM_V0 hC (hM.pM _ _) dX8_order_46 mi_X8_reads se_X8_reads ml_X8_197 (rm := rmX8_reads) rfl rfl rfl rfl ⟨le_b rfl, le_b rfl⟩ (k_reads hfC hM hf ⟨by omega, by omega⟩ hn1 hl hkr) ?_ rfl
      refine r_beq (t := 56) hC dX8_order_49 (by rfl) (fun h_49 => ?_) (fun h_49 => ?_)
      · skip
        refine r_iconst hC dX8_order_56 ?_
        refine r_iret hC hR dX8_order_57 (le_b rfl) (le_b rfl) ?_
        rw [hk] at h_29 h_49 ⊢
        unfold p_order; rw [if_pos h_29]; first | (rw [if_pos h_49]; exact ⟨rfl, rfl⟩) | (rw [if_neg h_49]; exact ⟨rfl, rfl⟩)
      · skip
        refine r_iload_n hC dX8_order_52 rfl ?_
        refine r_goto (t := 57) hC dX8_order_53 (by rfl) ?_
        refine r_iret hC hR dX8_order_57 (le_b rfl) (le_b rfl) ?_
        rw [hk] at h_29 h_49 ⊢
        unfold p_order; rw [if_pos h_29]; first | (rw [if_pos h_49]; exact ⟨rfl, rfl⟩) | (rw [if_neg h_49]; exact ⟨rfl, rfl⟩)
    · skip
      refine r_iconst hC dX8_order_32 ?_
      refine r_iret hC hR dX8_order_33 (le_b rfl) (le_b rfl) ?_
      have h_29 : ¬ p_isKind (p_kind (mI u (m + 5)) (mI u m 7) a) = true := by rw [← hk]; exact h_29
      unfold p_order; rw [if_neg h_29]; exact ⟨rfl, rfl⟩
  show VW C 0 [some (xA m), none] [] (sA (pM u m a N) (m + 1) f) 0 0
  refine r_aload_n hC dX8_order_0 rfl ?_
  refine rP_at hC hM ⟨by omega, by omega⟩ dX8_order_1 fl_X8_179 ?_
  refine r_aload_n hC dX8_order_4 rfl ?_
  refine rP_len hC hM ⟨by omega, by omega⟩ dX8_order_5 fl_X8_176 ?_
  refine r_icmp_ge (t := 23) hC dX8_order_8 (by rfl) (by first | with_reducible exact rg_mI _ _ _ | (with_reducible refine rg_of ?_ _ _; (repeat (first | assumption | with_reducible apply rf_up | with_reducible apply rf_setm | with_reducible apply rf_mI | with_reducible apply rf_begins | with_reducible apply rf_writes | with_reducible apply rf_drops | with_reducible apply rf_commitL | with_reducible apply rf_commits | with_reducible apply rf_lost | with_reducible apply rf_sweepL | with_reducible apply rf_sweep1 | with_reducible apply rf_sweeps | with_reducible apply rf_sends0 | with_reducible apply rf_sendsA | with_reducible apply rf_pack | with_reducible apply rf_sends | with_reducible apply rf_works4 | with_reducible apply rf_works7 | with_reducible apply rf_shift | with_reducible apply rf_works | with_reducible apply rf_answerComes | with_reducible apply rf_bcL | with_reducible apply rf_bc1 | with_reducible apply rf_markL | with_reducible apply rf_rel0 | with_reducible apply rf_relays | with_reducible apply rf_cp | with_reducible apply rf_put | with_reducible apply rf_shf | with_reducible apply rf_saved)); done) | (with_reducible refine rg_its ?_ _ _; (repeat (first | assumption | with_reducible apply rf_up | with_reducible apply rf_setm | with_reducible apply rf_mI | with_reducible apply rf_begins | with_reducible apply rf_writes | with_reducible apply rf_drops | with_reducible apply rf_commitL | with_reducible apply rf_commits | with_reducible apply rf_lost | with_reducible apply rf_sweepL | with_reducible apply rf_sweep1 | with_reducible apply rf_sweeps | with_reducible apply rf_sends0 | with_reducible apply rf_sendsA | with_reducible apply rf_pack | with_reducible apply rf_sends | with_reducible apply rf_works4 | with_reducible apply rf_works7 | with_reducible apply rf_shift | with_reducible apply rf_works | with_reducible apply rf_answerComes | with_reducible apply rf_bcL | with_reducible apply rf_bc1 | with_reducible apply rf_markL | with_reducible apply rf_rel0 | with_reducible apply rf_relays | with_reducible apply rf_cp | with_reducible apply rf_put | with_reducible apply rf_shf | with_reducible apply rf_saved)); done) | (with_reducible refine rg_way ?_ _ _; (repeat (first | assumption | with_reducible apply rf_up | with_reducible apply rf_setm | with_reducible apply rf_mI | with_reducible apply rf_begins | with_reducible apply rf_writes | with_reducible apply rf_drops | with_reducible apply rf_commitL | with_reducible apply rf_commits | with_reducible apply rf_lost | with_reducible apply rf_sweepL | with_reducible apply rf_sweep1 | with_reducible apply rf_sweeps | with_reducible apply rf_sends0 | with_reducible apply rf_sendsA | with_reducible apply rf_pack | with_reducible apply rf_sends | with_reducible apply rf_works4 | with_reducible apply rf_works7 | with_reducible apply rf_shift | with_reducible apply rf_works | with_reducible apply rf_answerComes | with_reducible apply rf_bcL | with_reducible apply rf_bc1 | with_reducible apply rf_markL | with_reducible apply rf_rel0 | with_reducible apply rf_relays | with_reducible apply rf_cp | with_reducible apply rf_put | with_reducible apply rf_shf | with_reducible apply rf_saved)); done) | with_reducible exact rg_and _ _ | (with_reducible refine rg_num ?_ ⟨by omega, by omega⟩; (repeat (first | assumption | with_reducible apply rf_up | with_reducible apply rf_setm | with_reducible apply rf_mI | with_reducible apply rf_begins | with_reducible apply rf_writes | with_reducible apply rf_drops | with_reducible apply rf_commitL | with_reducible apply rf_commits | with_reducible apply rf_lost | with_reducible apply rf_sweepL | with_reducible apply rf_sweep1 | with_reducible apply rf_sweeps | with_reducible apply rf_sends0 | with_reducible apply rf_sendsA | with_reducible apply rf_pack | with_reducible apply rf_sends | with_reducible apply rf_works4 | with_reducible apply rf_works7 | with_reducible apply rf_shift | with_reducible apply rf_works | with_reducible apply rf_answerComes | with_reducible apply rf_bcL | with_reducible apply rf_bc1 | with_reducible apply rf_markL | with_reducible apply rf_rel0 | with_reducible apply rf_relays | with_reducible apply rf_cp | with_reducible apply rf_put | with_reducible apply rf_shf | with_reducible apply rf_saved)); done) | (with_reducible refine rf_at ?_ _; (repeat (first | assumption | with_reducible apply rf_up | with_reducible apply rf_setm | with_reducible apply rf_mI | with_reducible apply rf_begins | with_reducible apply rf_writes | with_reducible apply rf_drops | with_reducible apply rf_commitL | with_reducible apply rf_commits | with_reducible apply rf_lost | with_reducible apply rf_sweepL | with_reducible apply rf_sweep1 | with_reducible apply rf_sweeps | with_reducible apply rf_sends0 | with_reducible apply rf_sendsA | with_reducible apply rf_pack | with_reducible apply rf_sends | with_reducible apply rf_works4 | with_reducible apply rf_works7 | with_reducible apply rf_shift | with_reducible apply rf_works | with_reducible apply rf_answerComes | with_reducible apply rf_bcL | with_reducible apply rf_bc1 | with_reducible apply rf_markL | with_reducible apply rf_rel0 | with_reducible apply rf_relays | with_reducible apply rf_cp | with_reducible apply rf_put | with_reducible apply rf_shf | with_reducible apply rf_saved)); done) | exact ⟨by omega, by omega⟩) (by first | with_reducible exact rg_mI _ _ _ | (with_reducible refine rg_of ?_ _ _; (repeat (first | assumption | with_reducible apply rf_up | with_reducible apply rf_setm | with_reducible apply rf_mI | with_reducible apply rf_begins | with_reducible apply rf_writes | with_reducible apply rf_drops | with_reducible apply rf_commitL | with_reducible apply rf_commits | with_reducible apply rf_lost | with_reducible apply rf_sweepL | with_reducible apply rf_sweep1 | with_reducible apply rf_sweeps | with_reducible apply rf_sends0 | with_reducible apply rf_sendsA | with_reducible apply rf_pack | with_reducible apply rf_sends | with_reducible apply rf_works4 | with_reducible apply rf_works7 | with_reducible apply rf_shift | with_reducible apply rf_works | with_reducible apply rf_answerComes | with_reducible apply rf_bcL | with_reducible apply rf_bc1 | with_reducible apply rf_markL | with_reducible apply rf_rel0 | with_reducible apply rf_relays | with_reducible apply rf_cp | with_reducible apply rf_put | with_reducible apply rf_shf | with_reducible apply rf_saved)); done) | (with_reducible refine rg_its ?_ _ _; (repeat (first | assumption | with_reducible apply rf_up | with_reducible apply rf_setm | with_reducible apply rf_mI | with_reducible apply rf_begins | with_reducible apply rf_writes | with_reducible apply rf_drops | with_reducible apply rf_commitL | with_reducible apply rf_commits | with_reducible apply rf_lost | with_reducible apply rf_sweepL | with_reducible apply rf_sweep1 | with_reducible apply rf_sweeps | with_reducible apply rf_sends0 | with_reducible apply rf_sendsA | with_reducible apply rf_pack | with_reducible apply rf_sends | with_reducible apply rf_works4 | with_reducible apply rf_works7 | with_reducible apply rf_shift | with_reducible apply rf_works | with_reducible apply rf_answerComes | with_reducible apply rf_bcL | with_reducible apply rf_bc1 | with_reducible apply rf_markL | with_reducible apply rf_rel0 | with_reducible apply rf_relays | with_reducible apply rf_cp | with_reducible apply rf_put | with_reducible apply rf_shf | with_reducible apply rf_saved)); done) | (with_reducible refine rg_way ?_ _ _; (repeat (first | assumption | with_reducible apply rf_up | with_reducible apply rf_setm | with_reducible apply rf_mI | with_reducible apply rf_begins | with_reducible apply rf_writes | with_reducible apply rf_drops | with_reducible apply rf_commitL | with_reducible apply rf_commits | with_reducible apply rf_lost | with_reducible apply rf_sweepL | with_reducible apply rf_sweep1 | with_reducible apply rf_sweeps | with_reducible apply rf_sends0 | with_reducible apply rf_sendsA | with_reducible apply rf_pack | with_reducible apply rf_sends | with_reducible apply rf_works4 | with_reducible apply rf_works7 | with_reducible apply rf_shift | with_reducible apply rf_works | with_reducible apply rf_answerComes | with_reducible apply rf_bcL | with_reducible apply rf_bc1 | with_reducible apply rf_markL | with_reducible apply rf_rel0 | with_reducible apply rf_relays | with_reducible apply rf_cp | with_reducible apply rf_put | with_reducible apply rf_shf | with_reducible apply rf_saved)); done) | with_reducible exact rg_and _ _ | (with_reducible refine rg_num ?_ ⟨by omega, by omega⟩; (repeat (first | assumption | with_reducible apply rf_up | with_reducible apply rf_setm | with_reducible apply rf_mI | with_reducible apply rf_begins | with_reducible apply rf_writes | with_reducible apply rf_drops | with_reducible apply rf_commitL | with_reducible apply rf_commits | with_reducible apply rf_lost | with_reducible apply rf_sweepL | with_reducible apply rf_sweep1 | with_reducible apply rf_sweeps | with_reducible apply rf_sends0 | with_reducible apply rf_sendsA | with_reducible apply rf_pack | with_reducible apply rf_sends | with_reducible apply rf_works4 | with_reducible apply rf_works7 | with_reducible apply rf_shift | with_reducible apply rf_works | with_reducible apply rf_answerComes | with_reducible apply rf_bcL | with_reducible apply rf_bc1 | with_reducible apply rf_markL | with_reducible apply rf_rel0 | with_reducible apply rf_relays | with_reducible apply rf_cp | with_reducible apply rf_put | with_reducible apply rf_shf | with_reducible apply rf_saved)); done) | (with_reducible refine rf_at ?_ _; (repeat (first | assumption | with_reducible apply rf_up | with_reducible apply rf_setm | with_reducible apply rf_mI | with_reducible apply rf_begins | with_reducible apply rf_writes | with_reducible apply rf_drops | with_reducible apply rf_commitL | with_reducible apply rf_commits | with_reducible apply rf_lost | with_reducible apply rf_sweepL | with_reducible apply rf_sweep1 | with_reducible apply rf_sweeps | with_reducible apply rf_sends0 | with_reducible apply rf_sendsA | with_reducible apply rf_pack | with_reducible apply rf_sends | with_reducible apply rf_works4 | with_reducible apply rf_works7 | with_reducible apply rf_shift | with_reducible apply rf_works | with_reducible apply rf_answerComes | with_reducible apply rf_bcL | with_reducible apply rf_bc1 | with_reducible apply rf_markL | with_reducible apply rf_rel0 | with_reducible apply rf_relays | with_reducible apply rf_cp | with_reducible apply rf_put | with_reducible apply rf_shf | with_reducible apply rf_saved)); done) | exact ⟨by omega, by omega⟩) (fun h_8 => ?_) (fun h_8 => ?_)
  · skip
    refine r_iconst hC dX8_order_23 ?_
    refine r_istore_n (lv' := [_, _]) hC dX8_order_24 (lt_b rfl) rfl (lt_b rfl) rfl ?_
    exact rest _ (by first | exact rg_mI _ _ _ | exact rg_0) (by unfold p_kind; first | (rw [if_pos (by omega)]; done) | (rw [if_neg (by omega)]; done))
  · skip
    refine r_aload_n hC dX8_order_11 rfl ?_
    refine r_getR (j := 6) hC dX8_order_12 fl_X8_22 rfl rfl hM.o hM.p_buffer ?_
    refine r_aload_n hC dX8_order_15 rfl ?_
    refine rP_at hC hM ⟨by omega, by omega⟩ dX8_order_16 fl_X8_179 ?_
    refine rP_buf hC hM dX8_order_19 ⟨by omega, by omega⟩ ?_
    refine r_goto (t := 24) hC dX8_order_20 (by rfl) ?_
    refine r_istore_n (lv' := [_, _]) hC dX8_order_24 (lt_b rfl) rfl (lt_b rfl) rfl ?_
    exact rest _ (by first | exact rg_mI _ _ _ | exact rg_0) (by unfold p_kind; first | (rw [if_pos (by omega)]; done) | (rw [if_neg (by omega)]; done))

theorem p_order_rg {b : RW} {n a : Int} {N : RW} (hb : RF b) : rg (p_order b n a N).1 := by
  unfold p_order
  split
  · show rg (if _ then _ else _)
    split
    · unfold p_kind; split
      · exact hb _
      · exact rg_0
    · exact rg_0
  · exact rg_0
abbrev rmX8_isWell : Room := { frames := 6, cells := 0, slots := 0, locals := 131 }
set_option maxRecDepth 100000 in
theorem k_isWell {l : Launch} {D : DD} (hfl : l.stackTraces = false) {u : Mem} {m : Nat} (hM : MO u m) {f : RW} (hf : RF f) {a : Int} {N : RW} (hn1 : RF N) (hl : 0 ≤ mI u m 7 ∧ mI u m 7 ≤ 60)  : CT l D yX8_isWell cX8_isWell 2 (some .boolean) rmX8_isWell [xA m] (sA (pM u m a N) (m + 1) f) (RT (xI (bI ((p_well (mI u (m + 5)) (mI u m 7) N).1 = true))) (sA (pM u m (p_well (mI u (m + 5)) (mI u m 7) N).2.1 (p_well (mI u (m + 5)) (mI u m 7) N).2.2) (m + 1) f)) := by
  refine CT.of hfl (by decide) (le_b rfl) ?_
  intro C hC hR hL hDD hN
  have hfC : (cxL C).stackTraces = false := by rw [hL]; exact hfl
  have lp : ∀ (k : Nat) (s : Bool × Int × RW) (w : Int), w = bI (s.1 = true) → RF s.2.2 → 0 ≤ s.2.1 → s.2.1 ≤ (mI u m 7) → (s.1 = true → (mI u m 7) - s.2.1 ≤ k) → p_wellL (mI u (m + 5)) (mI u m 7) k s = p_well (mI u (m + 5)) (mI u m 7) N → VW C 18 [some (xA m), some (xI w)] [] (sA (pM u m s.2.1 s.2.2) (m + 1) f) 0 0 := by
    intro k
    induction k with
    | zero =>
      intro s w hw r1 r2 r3 r4 e
      subst hw
      refine r_iload_n hC dX8_isWell_18 rfl ?_
      refine r_beq (t := 58) hC dX8_isWell_19 (by rfl) (fun h_19 => ?_) (fun h_19 => ?_)
      · skip
        refine r_iload_n hC dX8_isWell_58 rfl ?_
        refine r_bret hC hR dX8_isWell_59 (le_b rfl) (le_b rfl) ?_
        rw [← e]; exact ⟨rfl, rfl⟩
      · skip
        refine r_aload_n hC dX8_isWell_22 rfl ?_
        refine rP_at hC hM ⟨by omega, by omega⟩ dX8_isWell_23 fl_X8_179 ?_
        refine r_aload_n hC dX8_isWell_26 rfl ?_
        refine rP_len hC hM ⟨by omega, by omega⟩ dX8_isWell_27 fl_X8_176 ?_
        refine r_icmp_ge (t := 58) hC dX8_isWell_30 (by rfl) (by first | with_reducible exact rg_mI _ _ _ | (with_reducible refine rg_of ?_ _ _; (repeat (first | assumption | with_reducible apply rf_up | with_reducible apply rf_setm | with_reducible apply rf_mI | with_reducible apply rf_begins | with_reducible apply rf_writes | with_reducible apply rf_drops | with_reducible apply rf_commitL | with_reducible apply rf_commits | with_reducible apply rf_lost | with_reducible apply rf_sweepL | with_reducible apply rf_sweep1 | with_reducible apply rf_sweeps | with_reducible apply rf_sends0 | with_reducible apply rf_sendsA | with_reducible apply rf_pack | with_reducible apply rf_sends | with_reducible apply rf_works4 | with_reducible apply rf_works7 | with_reducible apply rf_shift | with_reducible apply rf_works | with_reducible apply rf_answerComes | with_reducible apply rf_bcL | with_reducible apply rf_bc1 | with_reducible apply rf_markL | with_reducible apply rf_rel0 | with_reducible apply rf_relays | with_reducible apply rf_cp | with_reducible apply rf_put | with_reducible apply rf_shf | with_reducible apply rf_saved)); done) | (with_reducible refine rg_its ?_ _ _; (repeat (first | assumption | with_reducible apply rf_up | with_reducible apply rf_setm | with_reducible apply rf_mI | with_reducible apply rf_begins | with_reducible apply rf_writes | with_reducible apply rf_drops | with_reducible apply rf_commitL | with_reducible apply rf_commits | with_reducible apply rf_lost | with_reducible apply rf_sweepL | with_reducible apply rf_sweep1 | with_reducible apply rf_sweeps | with_reducible apply rf_sends0 | with_reducible apply rf_sendsA | with_reducible apply rf_pack | with_reducible apply rf_sends | with_reducible apply rf_works4 | with_reducible apply rf_works7 | with_reducible apply rf_shift | with_reducible apply rf_works | with_reducible apply rf_answerComes | with_reducible apply rf_bcL | with_reducible apply rf_bc1 | with_reducible apply rf_markL | with_reducible apply rf_rel0 | with_reducible apply rf_relays | with_reducible apply rf_cp | with_reducible apply rf_put | with_reducible apply rf_shf | with_reducible apply rf_saved)); done) | (with_reducible refine rg_way ?_ _ _; (repeat (first | assumption | with_reducible apply rf_up | with_reducible apply rf_setm | with_reducible apply rf_mI | with_reducible apply rf_begins | with_reducible apply rf_writes | with_reducible apply rf_drops | with_reducible apply rf_commitL | with_reducible apply rf_commits | with_reducible apply rf_lost | with_reducible apply rf_sweepL | with_reducible apply rf_sweep1 | with_reducible apply rf_sweeps | with_reducible apply rf_sends0 | with_reducible apply rf_sendsA | with_reducible apply rf_pack | with_reducible apply rf_sends | with_reducible apply rf_works4 | with_reducible apply rf_works7 | with_reducible apply rf_shift | with_reducible apply rf_works | with_reducible apply rf_answerComes | with_reducible apply rf_bcL | with_reducible apply rf_bc1 | with_reducible apply rf_markL | with_reducible apply rf_rel0 | with_reducible apply rf_relays | with_reducible apply rf_cp | with_reducible apply rf_put | with_reducible apply rf_shf | with_reducible apply rf_saved)); done) | with_reducible exact rg_and _ _ | (with_reducible refine rg_num ?_ ⟨by omega, by omega⟩; (repeat (first | assumption | with_reducible apply rf_up | with_reducible apply rf_setm | with_reducible apply rf_mI | with_reducible apply rf_begins | with_reducible apply rf_writes | with_reducible apply rf_drops | with_reducible apply rf_commitL | with_reducible apply rf_commits | with_reducible apply rf_lost | with_reducible apply rf_sweepL | with_reducible apply rf_sweep1 | with_reducible apply rf_sweeps | with_reducible apply rf_sends0 | with_reducible apply rf_sendsA | with_reducible apply rf_pack | with_reducible apply rf_sends | with_reducible apply rf_works4 | with_reducible apply rf_works7 | with_reducible apply rf_shift | with_reducible apply rf_works | with_reducible apply rf_answerComes | with_reducible apply rf_bcL | with_reducible apply rf_bc1 | with_reducible apply rf_markL | with_reducible apply rf_rel0 | with_reducible apply rf_relays | with_reducible apply rf_cp | with_reducible apply rf_put | with_reducible apply rf_shf | with_reducible apply rf_saved)); done) | (with_reducible refine rf_at ?_ _; (repeat (first | assumption | with_reducible apply rf_up | with_reducible apply rf_setm | with_reducible apply rf_mI | with_reducible apply rf_begins | with_reducible apply rf_writes | with_reducible apply rf_drops | with_reducible apply rf_commitL | with_reducible apply rf_commits | with_reducible apply rf_lost | with_reducible apply rf_sweepL | with_reducible apply rf_sweep1 | with_reducible apply rf_sweeps | with_reducible apply rf_sends0 | with_reducible apply rf_sendsA | with_reducible apply rf_pack | with_reducible apply rf_sends | with_reducible apply rf_works4 | with_reducible apply rf_works7 | with_reducible apply rf_shift | with_reducible apply rf_works | with_reducible apply rf_answerComes | with_reducible apply rf_bcL | with_reducible apply rf_bc1 | with_reducible apply rf_markL | with_reducible apply rf_rel0 | with_reducible apply rf_relays | with_reducible apply rf_cp | with_reducible apply rf_put | with_reducible apply rf_shf | with_reducible apply rf_saved)); done) | exact ⟨by omega, by omega⟩) (by first | with_reducible exact rg_mI _ _ _ | (with_reducible refine rg_of ?_ _ _; (repeat (first | assumption | with_reducible apply rf_up | with_reducible apply rf_setm | with_reducible apply rf_mI | with_reducible apply rf_begins | with_reducible apply rf_writes | with_reducible apply rf_drops | with_reducible apply rf_commitL | with_reducible apply rf_commits | with_reducible apply rf_lost | with_reducible apply rf_sweepL | with_reducible apply rf_sweep1 | with_reducible apply rf_sweeps | with_reducible apply rf_sends0 | with_reducible apply rf_sendsA | with_reducible apply rf_pack | with_reducible apply rf_sends | with_reducible apply rf_works4 | with_reducible apply rf_works7 | with_reducible apply rf_shift | with_reducible apply rf_works | with_reducible apply rf_answerComes | with_reducible apply rf_bcL | with_reducible apply rf_bc1 | with_reducible apply rf_markL | with_reducible apply rf_rel0 | with_reducible apply rf_relays | with_reducible apply rf_cp | with_reducible apply rf_put | with_reducible apply rf_shf | with_reducible apply rf_saved)); done) | (with_reducible refine rg_its ?_ _ _; (repeat (first | assumption | with_reducible apply rf_up | with_reducible apply rf_setm | with_reducible apply rf_mI | with_reducible apply rf_begins | with_reducible apply rf_writes | with_reducible apply rf_drops | with_reducible apply rf_commitL | with_reducible apply rf_commits | with_reducible apply rf_lost | with_reducible apply rf_sweepL | with_reducible apply rf_sweep1 | with_reducible apply rf_sweeps | with_reducible apply rf_sends0 | with_reducible apply rf_sendsA | with_reducible apply rf_pack | with_reducible apply rf_sends | with_reducible apply rf_works4 | with_reducible apply rf_works7 | with_reducible apply rf_shift | with_reducible apply rf_works | with_reducible apply rf_answerComes | with_reducible apply rf_bcL | with_reducible apply rf_bc1 | with_reducible apply rf_markL | with_reducible apply rf_rel0 | with_reducible apply rf_relays | with_reducible apply rf_cp | with_reducible apply rf_put | with_reducible apply rf_shf | with_reducible apply rf_saved)); done) | (with_reducible refine rg_way ?_ _ _; (repeat (first | assumption | with_reducible apply rf_up | with_reducible apply rf_setm | with_reducible apply rf_mI | with_reducible apply rf_begins | with_reducible apply rf_writes | with_reducible apply rf_drops | with_reducible apply rf_commitL | with_reducible apply rf_commits | with_reducible apply rf_lost | with_reducible apply rf_sweepL | with_reducible apply rf_sweep1 | with_reducible apply rf_sweeps | with_reducible apply rf_sends0 | with_reducible apply rf_sendsA | with_reducible apply rf_pack | with_reducible apply rf_sends | with_reducible apply rf_works4 | with_reducible apply rf_works7 | with_reducible apply rf_shift | with_reducible apply rf_works | with_reducible apply rf_answerComes | with_reducible apply rf_bcL | with_reducible apply rf_bc1 | with_reducible apply rf_markL | with_reducible apply rf_rel0 | with_reducible apply rf_relays | with_reducible apply rf_cp | with_reducible apply rf_put | with_reducible apply rf_shf | with_reducible apply rf_saved)); done) | with_reducible exact rg_and _ _ | (with_reducible refine rg_num ?_ ⟨by omega, by omega⟩; (repeat (first | assumption | with_reducible apply rf_up | with_reducible apply rf_setm | with_reducible apply rf_mI | with_reducible apply rf_begins | with_reducible apply rf_writes | with_reducible apply rf_drops | with_reducible apply rf_commitL | with_reducible apply rf_commits | with_reducible apply rf_lost | with_reducible apply rf_sweepL | with_reducible apply rf_sweep1 | with_reducible apply rf_sweeps | with_reducible apply rf_sends0 | with_reducible apply rf_sendsA | with_reducible apply rf_pack | with_reducible apply rf_sends | with_reducible apply rf_works4 | with_reducible apply rf_works7 | with_reducible apply rf_shift | with_reducible apply rf_works | with_reducible apply rf_answerComes | with_reducible apply rf_bcL | with_reducible apply rf_bc1 | with_reducible apply rf_markL | with_reducible apply rf_rel0 | with_reducible apply rf_relays | with_reducible apply rf_cp | with_reducible apply rf_put | with_reducible apply rf_shf | with_reducible apply rf_saved)); done) | (with_reducible refine rf_at ?_ _; (repeat (first | assumption | with_reducible apply rf_up | with_reducible apply rf_setm | with_reducible apply rf_mI | with_reducible apply rf_begins | with_reducible apply rf_writes | with_reducible apply rf_drops | with_reducible apply rf_commitL | with_reducible apply rf_commits | with_reducible apply rf_lost | with_reducible apply rf_sweepL | with_reducible apply rf_sweep1 | with_reducible apply rf_sweeps | with_reducible apply rf_sends0 | with_reducible apply rf_sendsA | with_reducible apply rf_pack | with_reducible apply rf_sends | with_reducible apply rf_works4 | with_reducible apply rf_works7 | with_reducible apply rf_shift | with_reducible apply rf_works | with_reducible apply rf_answerComes | with_reducible apply rf_bcL | with_reducible apply rf_bc1 | with_reducible apply rf_markL | with_reducible apply rf_rel0 | with_reducible apply rf_relays | with_reducible apply rf_cp | with_reducible apply rf_put | with_reducible apply rf_shf | with_reducible apply rf_saved)); done) | exact ⟨by omega, by omega⟩) (fun h_30 => ?_) (fun h_30 => ?_)
        · skip
          refine r_iload_n hC dX8_isWell_58 rfl ?_
          refine r_bret hC hR dX8_isWell_59 (le_b rfl) (le_b rfl) ?_
          rw [← e]; exact ⟨rfl, rfl⟩
        · skip
          exact absurd (r4 h_19) (by omega)
    | succ k ih =>
      intro s w hw r1 r2 r3 r4 e
      subst hw
      simp only [p_wellL] at e
      refine r_iload_n hC dX8_isWell_18 rfl ?_
      refine r_beq (t := 58) hC dX8_isWell_19 (by rfl) (fun h_19 => ?_) (fun h_19 => ?_)
      · skip
        refine r_iload_n hC dX8_isWell_58 rfl ?_
        refine r_bret hC hR dX8_isWell_59 (le_b rfl) (le_b rfl) ?_
        rw [if_neg (fun q => by first | exact h_19 q.1 | omega)] at e
        rw [← e]; exact ⟨rfl, rfl⟩
      · skip
        refine r_aload_n hC dX8_isWell_22 rfl ?_
        refine rP_at hC hM ⟨by omega, by omega⟩ dX8_isWell_23 fl_X8_179 ?_
        refine r_aload_n hC dX8_isWell_26 rfl ?_
        refine rP_len hC hM ⟨by omega, by omega⟩ dX8_isWell_27 fl_X8_176 ?_
        refine r_icmp_ge (t := 58) hC dX8_isWell_30 (by rfl) (by first | with_reducible exact rg_mI _ _ _ | (with_reducible refine rg_of ?_ _ _; (repeat (first | assumption | with_reducible apply rf_up | with_reducible apply rf_setm | with_reducible apply rf_mI | with_reducible apply rf_begins | with_reducible apply rf_writes | with_reducible apply rf_drops | with_reducible apply rf_commitL | with_reducible apply rf_commits | with_reducible apply rf_lost | with_reducible apply rf_sweepL | with_reducible apply rf_sweep1 | with_reducible apply rf_sweeps | with_reducible apply rf_sends0 | with_reducible apply rf_sendsA | with_reducible apply rf_pack | with_reducible apply rf_sends | with_reducible apply rf_works4 | with_reducible apply rf_works7 | with_reducible apply rf_shift | with_reducible apply rf_works | with_reducible apply rf_answerComes | with_reducible apply rf_bcL | with_reducible apply rf_bc1 | with_reducible apply rf_markL | with_reducible apply rf_rel0 | with_reducible apply rf_relays | with_reducible apply rf_cp | with_reducible apply rf_put | with_reducible apply rf_shf | with_reducible apply rf_saved)); done) | (with_reducible refine rg_its ?_ _ _; (repeat (first | assumption | with_reducible apply rf_up | with_reducible apply rf_setm | with_reducible apply rf_mI | with_reducible apply rf_begins | with_reducible apply rf_writes | with_reducible apply rf_drops | with_reducible apply rf_commitL | with_reducible apply rf_commits | with_reducible apply rf_lost | with_reducible apply rf_sweepL | with_reducible apply rf_sweep1 | with_reducible apply rf_sweeps | with_reducible apply rf_sends0 | with_reducible apply rf_sendsA | with_reducible apply rf_pack | with_reducible apply rf_sends | with_reducible apply rf_works4 | with_reducible apply rf_works7 | with_reducible apply rf_shift | with_reducible apply rf_works | with_reducible apply rf_answerComes | with_reducible apply rf_bcL | with_reducible apply rf_bc1 | with_reducible apply rf_markL | with_reducible apply rf_rel0 | with_reducible apply rf_relays | with_reducible apply rf_cp | with_reducible apply rf_put | with_reducible apply rf_shf | with_reducible apply rf_saved)); done) | (with_reducible refine rg_way ?_ _ _; (repeat (first | assumption | with_reducible apply rf_up | with_reducible apply rf_setm | with_reducible apply rf_mI | with_reducible apply rf_begins | with_reducible apply rf_writes | with_reducible apply rf_drops | with_reducible apply rf_commitL | with_reducible apply rf_commits | with_reducible apply rf_lost | with_reducible apply rf_sweepL | with_reducible apply rf_sweep1 | with_reducible apply rf_sweeps | with_reducible apply rf_sends0 | with_reducible apply rf_sendsA | with_reducible apply rf_pack | with_reducible apply rf_sends | with_reducible apply rf_works4 | with_reducible apply rf_works7 | with_reducible apply rf_shift | with_reducible apply rf_works | with_reducible apply rf_answerComes | with_reducible apply rf_bcL | with_reducible apply rf_bc1 | with_reducible apply rf_markL | with_reducible apply rf_rel0 | with_reducible apply rf_relays | with_reducible apply rf_cp | with_reducible apply rf_put | with_reducible apply rf_shf | with_reducible apply rf_saved)); done) | with_reducible exact rg_and _ _ | (with_reducible refine rg_num ?_ ⟨by omega, by omega⟩; (repeat (first | assumption | with_reducible apply rf_up | with_reducible apply rf_setm | with_reducible apply rf_mI | with_reducible apply rf_begins | with_reducible apply rf_writes | with_reducible apply rf_drops | with_reducible apply rf_commitL | with_reducible apply rf_commits | with_reducible apply rf_lost | with_reducible apply rf_sweepL | with_reducible apply rf_sweep1 | with_reducible apply rf_sweeps | with_reducible apply rf_sends0 | with_reducible apply rf_sendsA | with_reducible apply rf_pack | with_reducible apply rf_sends | with_reducible apply rf_works4 | with_reducible apply rf_works7 | with_reducible apply rf_shift | with_reducible apply rf_works | with_reducible apply rf_answerComes | with_reducible apply rf_bcL | with_reducible apply rf_bc1 | with_reducible apply rf_markL | with_reducible apply rf_rel0 | with_reducible apply rf_relays | with_reducible apply rf_cp | with_reducible apply rf_put | with_reducible apply rf_shf | with_reducible apply rf_saved)); done) | (with_reducible refine rf_at ?_ _; (repeat (first | assumption | with_reducible apply rf_up | with_reducible apply rf_setm | with_reducible apply rf_mI | with_reducible apply rf_begins | with_reducible apply rf_writes | with_reducible apply rf_drops | with_reducible apply rf_commitL | with_reducible apply rf_commits | with_reducible apply rf_lost | with_reducible apply rf_sweepL | with_reducible apply rf_sweep1 | with_reducible apply rf_sweeps | with_reducible apply rf_sends0 | with_reducible apply rf_sendsA | with_reducible apply rf_pack | with_reducible apply rf_sends | with_reducible apply rf_works4 | with_reducible apply rf_works7 | with_reducible apply rf_shift | with_reducible apply rf_works | with_reducible apply rf_answerComes | with_reducible apply rf_bcL | with_reducible apply rf_bc1 | with_reducible apply rf_markL | with_reducible apply rf_rel0 | with_reducible apply rf_relays | with_reducible apply rf_cp | with_reducible apply rf_put | with_reducible apply rf_shf | with_reducible apply rf_saved)); done) | exact ⟨by omega, by omega⟩) (by first | with_reducible exact rg_mI _ _ _ | (with_reducible refine rg_of ?_ _ _; (repeat (first | assumption | with_reducible apply rf_up | with_reducible apply rf_setm | with_reducible apply rf_mI | with_reducible apply rf_begins | with_reducible apply rf_writes | with_reducible apply rf_drops | with_reducible apply rf_commitL | with_reducible apply rf_commits | with_reducible apply rf_lost | with_reducible apply rf_sweepL | with_reducible apply rf_sweep1 | with_reducible apply rf_sweeps | with_reducible apply rf_sends0 | with_reducible apply rf_sendsA | with_reducible apply rf_pack | with_reducible apply rf_sends | with_reducible apply rf_works4 | with_reducible apply rf_works7 | with_reducible apply rf_shift | with_reducible apply rf_works | with_reducible apply rf_answerComes | with_reducible apply rf_bcL | with_reducible apply rf_bc1 | with_reducible apply rf_markL | with_reducible apply rf_rel0 | with_reducible apply rf_relays | with_reducible apply rf_cp | with_reducible apply rf_put | with_reducible apply rf_shf | with_reducible apply rf_saved)); done) | (with_reducible refine rg_its ?_ _ _; (repeat (first | assumption | with_reducible apply rf_up | with_reducible apply rf_setm | with_reducible apply rf_mI | with_reducible apply rf_begins | with_reducible apply rf_writes | with_reducible apply rf_drops | with_reducible apply rf_commitL | with_reducible apply rf_commits | with_reducible apply rf_lost | with_reducible apply rf_sweepL | with_reducible apply rf_sweep1 | with_reducible apply rf_sweeps | with_reducible apply rf_sends0 | with_reducible apply rf_sendsA | with_reducible apply rf_pack | with_reducible apply rf_sends | with_reducible apply rf_works4 | with_reducible apply rf_works7 | with_reducible apply rf_shift | with_reducible apply rf_works | with_reducible apply rf_answerComes | with_reducible apply rf_bcL | with_reducible apply rf_bc1 | with_reducible apply rf_markL | with_reducible apply rf_rel0 | with_reducible apply rf_relays | with_reducible apply rf_cp | with_reducible apply rf_put | with_reducible apply rf_shf | with_reducible apply rf_saved)); done) | (with_reducible refine rg_way ?_ _ _; (repeat (first | assumption | with_reducible apply rf_up | with_reducible apply rf_setm | with_reducible apply rf_mI | with_reducible apply rf_begins | with_reducible apply rf_writes | with_reducible apply rf_drops | with_reducible apply rf_commitL | with_reducible apply rf_commits | with_reducible apply rf_lost | with_reducible apply rf_sweepL | with_reducible apply rf_sweep1 | with_reducible apply rf_sweeps | with_reducible apply rf_sends0 | with_reducible apply rf_sendsA | with_reducible apply rf_pack | with_reducible apply rf_sends | with_reducible apply rf_works4 | with_reducible apply rf_works7 | with_reducible apply rf_shift | with_reducible apply rf_works | with_reducible apply rf_answerComes | with_reducible apply rf_bcL | with_reducible apply rf_bc1 | with_reducible apply rf_markL | with_reducible apply rf_rel0 | with_reducible apply rf_relays | with_reducible apply rf_cp | with_reducible apply rf_put | with_reducible apply rf_shf | with_reducible apply rf_saved)); done) | with_reducible exact rg_and _ _ | (with_reducible refine rg_num ?_ ⟨by omega, by omega⟩; (repeat (first | assumption | with_reducible apply rf_up | with_reducible apply rf_setm | with_reducible apply rf_mI | with_reducible apply rf_begins | with_reducible apply rf_writes | with_reducible apply rf_drops | with_reducible apply rf_commitL | with_reducible apply rf_commits | with_reducible apply rf_lost | with_reducible apply rf_sweepL | with_reducible apply rf_sweep1 | with_reducible apply rf_sweeps | with_reducible apply rf_sends0 | with_reducible apply rf_sendsA | with_reducible apply rf_pack | with_reducible apply rf_sends | with_reducible apply rf_works4 | with_reducible apply rf_works7 | with_reducible apply rf_shift | with_reducible apply rf_works | with_reducible apply rf_answerComes | with_reducible apply rf_bcL | with_reducible apply rf_bc1 | with_reducible apply rf_markL | with_reducible apply rf_rel0 | with_reducible apply rf_relays | with_reducible apply rf_cp | with_reducible apply rf_put | with_reducible apply rf_shf | with_reducible apply rf_saved)); done) | (with_reducible refine rf_at ?_ _; (repeat (first | assumption | with_reducible apply rf_up | with_reducible apply rf_setm | with_reducible apply rf_mI | with_reducible apply rf_begins | with_reducible apply rf_writes | with_reducible apply rf_drops | with_reducible apply rf_commitL | with_reducible apply rf_commits | with_reducible apply rf_lost | with_reducible apply rf_sweepL | with_reducible apply rf_sweep1 | with_reducible apply rf_sweeps | with_reducible apply rf_sends0 | with_reducible apply rf_sendsA | with_reducible apply rf_pack | with_reducible apply rf_sends | with_reducible apply rf_works4 | with_reducible apply rf_works7 | with_reducible apply rf_shift | with_reducible apply rf_works | with_reducible apply rf_answerComes | with_reducible apply rf_bcL | with_reducible apply rf_bc1 | with_reducible apply rf_markL | with_reducible apply rf_rel0 | with_reducible apply rf_relays | with_reducible apply rf_cp | with_reducible apply rf_put | with_reducible apply rf_shf | with_reducible apply rf_saved)); done) | exact ⟨by omega, by omega⟩) (fun h_30 => ?_) (fun h_30 => ?_)
        · skip
          refine r_iload_n hC dX8_isWell_58 rfl ?_
          refine r_bret hC hR dX8_isWell_59 (le_b rfl) (le_b rfl) ?_
          rw [if_neg (fun q => by first | exact h_19 q.1 | omega)] at e
          rw [← e]; exact ⟨rfl, rfl⟩
        · skip
          refine r_aload_n hC dX8_isWell_33 rfl ?_
          refine r_bipush hC dX8_isWell_34 (by rfl) ?_
          refine rM_V0 hC (hM.pM _ _) dX8_isWell_36 mi_X8_takes se_X8_takes ml_X8_188 (rm := rmX8_takes) rfl rfl rfl rfl ⟨le_b rfl, le_b rfl⟩ (k_takes hfC hM hf ⟨by omega, by omega⟩ (by assumption) hl ⟨by omega, by omega⟩) ?_ rfl
          have e4 := p_tk_le (mI u (m + 5)) (mI u m 7) s.2.1 59
          refine r_beq (t := 53) hC dX8_isWell_39 (by rfl) (fun h_39 => ?_) (fun h_39 => ?_)
          · skip
            refine r_iconst hC dX8_isWell_53 ?_
            refine r_istore_n (lv' := [_, _]) hC dX8_isWell_54 (lt_b rfl) rfl (lt_b rfl) rfl ?_
            refine r_goto (t := 18) hC dX8_isWell_55 (by rfl) ?_
            rw [if_pos ⟨h_19, by omega⟩] at e
            first
            | (rw [if_neg h_39] at e
               exact ih (false, p_tk (mI u (m + 5)) (mI u m 7) s.2.1 59, s.2.2) _ rfl r1 (by show 0 ≤ p_tk (mI u (m + 5)) (mI u m 7) s.2.1 59; omega) (by show p_tk (mI u (m + 5)) (mI u m 7) s.2.1 59 ≤ (mI u m 7); omega) (fun q => absurd q Bool.false_ne_true) e)
            | (rw [if_pos h_39] at e
               exact ih (decide ((p_order (mI u (m + 5)) (mI u m 7) (p_tk (mI u (m + 5)) (mI u m 7) s.2.1 59) s.2.2).1 ≠ 0), (p_order (mI u (m + 5)) (mI u m 7) (p_tk (mI u (m + 5)) (mI u m 7) s.2.1 59) s.2.2).2) _ (by simp only [bI, decide_eq_true_eq]; split <;> omega) o3 (by show 0 ≤ (p_order (mI u (m + 5)) (mI u m 7) (p_tk (mI u (m + 5)) (mI u m 7) s.2.1 59) s.2.2).2.1; omega) (by show (p_order (mI u (m + 5)) (mI u m 7) (p_tk (mI u (m + 5)) (mI u m 7) s.2.1 59) s.2.2).2.1 ≤ (mI u m 7); omega) (fun q => by show (mI u m 7) - (p_order (mI u (m + 5)) (mI u m 7) (p_tk (mI u (m + 5)) (mI u m 7) s.2.1 59) s.2.2).2.1 ≤ k; omega) e)
          · skip
            refine r_aload_n hC dX8_isWell_42 rfl ?_
            have r4' := r4 h_19
            have e5 : p_tk (mI u (m + 5)) (mI u m 7) s.2.1 59 = s.2.1 + 1 := by unfold p_tk bI; rw [if_pos h_39]
            obtain ⟨o1, o2, o3⟩ := p_order_ok (b := (mI u (m + 5))) (n := (mI u m 7)) (a := p_tk (mI u (m + 5)) (mI u m 7) s.2.1 59) r1
            refine rM_V0 hC (hM.pM _ _) dX8_isWell_43 mi_X8_order se_X8_order ml_X8_200 (rm := rmX8_order) rfl rfl rfl rfl ⟨le_b rfl, le_b rfl⟩ (k_order hfC hM hf ⟨by omega, by omega⟩ (by assumption) hl) ?_ rfl
            refine r_if_eq (t := 53) hC dX8_isWell_46 (by rfl) (p_order_rg (rg_mI _ _)) (fun h_46 => ?_) (fun h_46 => ?_)
            · skip
              refine r_iconst hC dX8_isWell_53 ?_
              refine r_istore_n (lv' := [_, _]) hC dX8_isWell_54 (lt_b rfl) rfl (lt_b rfl) rfl ?_
              refine r_goto (t := 18) hC dX8_isWell_55 (by rfl) ?_
              rw [if_pos ⟨h_19, by omega⟩] at e
              first
              | (rw [if_neg h_39] at e
                 exact ih (false, p_tk (mI u (m + 5)) (mI u m 7) s.2.1 59, s.2.2) _ rfl r1 (by show 0 ≤ p_tk (mI u (m + 5)) (mI u m 7) s.2.1 59; omega) (by show p_tk (mI u (m + 5)) (mI u m 7) s.2.1 59 ≤ (mI u m 7); omega) (fun q => absurd q Bool.false_ne_true) e)
              | (rw [if_pos h_39] at e
                 exact ih (decide ((p_order (mI u (m + 5)) (mI u m 7) (p_tk (mI u (m + 5)) (mI u m 7) s.2.1 59) s.2.2).1 ≠ 0), (p_order (mI u (m + 5)) (mI u m 7) (p_tk (mI u (m + 5)) (mI u m 7) s.2.1 59) s.2.2).2) _ (by simp only [bI, decide_eq_true_eq]; split <;> omega) o3 (by show 0 ≤ (p_order (mI u (m + 5)) (mI u m 7) (p_tk (mI u (m + 5)) (mI u m 7) s.2.1 59) s.2.2).2.1; omega) (by show (p_order (mI u (m + 5)) (mI u m 7) (p_tk (mI u (m + 5)) (mI u m 7) s.2.1 59) s.2.2).2.1 ≤ (mI u m 7); omega) (fun q => by show (mI u m 7) - (p_order (mI u (m + 5)) (mI u m 7) (p_tk (mI u (m + 5)) (mI u m 7) s.2.1 59) s.2.2).2.1 ≤ k; omega) e)
            · skip
              refine r_iconst hC dX8_isWell_49 ?_
              refine r_goto (t := 54) hC dX8_isWell_50 (by rfl) ?_
              refine r_istore_n (lv' := [_, _]) hC dX8_isWell_54 (lt_b rfl) rfl (lt_b rfl) rfl ?_
              refine r_goto (t := 18) hC dX8_isWell_55 (by rfl) ?_
              rw [if_pos ⟨h_19, by omega⟩] at e
              first
              | (rw [if_neg h_39] at e
                 exact ih (false, p_tk (mI u (m + 5)) (mI u m 7) s.2.1 59, s.2.2) _ rfl r1 (by show 0 ≤ p_tk (mI u (m + 5)) (mI u m 7) s.2.1 59; omega) (by show p_tk (mI u (m + 5)) (mI u m 7) s.2.1 59 ≤ (mI u m 7); omega) (fun q => absurd q Bool.false_ne_true) e)
              | (rw [if_pos h_39] at e
                 exact ih (decide ((p_order (mI u (m + 5)) (mI u m 7) (p_tk (mI u (m + 5)) (mI u m 7) s.2.1 59) s.2.2).1 ≠ 0), (p_order (mI u (m + 5)) (mI u m 7) (p_tk (mI u (m + 5)) (mI u m 7) s.2.1 59) s.2.2).2) _ (by simp only [bI, decide_eq_true_eq]; split <;> omega) o3 (by show 0 ≤ (p_order (mI u (m + 5)) (mI u m 7) (p_tk (mI u (m + 5)) (mI u m 7) s.2.1 59) s.2.2).2.1; omega) (by show (p_order (mI u (m + 5)) (mI u m 7) (p_tk (mI u (m + 5)) (mI u m 7) s.2.1 59) s.2.2).2.1 ≤ (mI u m 7); omega) (fun q => by show (mI u m 7) - (p_order (mI u (m + 5)) (mI u m 7) (p_tk (mI u (m + 5)) (mI u m 7) s.2.1 59) s.2.2).2.1 ≤ k; omega) e)
  show VW C 0 [some (xA m), none] [] (sA (pM u m a N) (m + 1) f) 0 0
  refine r_aload_n hC dX8_isWell_0 rfl ?_
  refine r_iconst hC dX8_isWell_1 ?_
  refine rP_seta hC hM dX8_isWell_2 fl_X8_179 ?_
  refine r_aload_n hC dX8_isWell_5 rfl ?_
  refine rM_V0 hC (hM.pM _ _) dX8_isWell_6 mi_X8_order se_X8_order ml_X8_200 (rm := rmX8_order) rfl rfl rfl rfl ⟨le_b rfl, le_b rfl⟩ (k_order hfC hM hf ⟨by omega, by omega⟩ (by assumption) hl) ?_ rfl
  obtain ⟨o1, o2, o3⟩ := p_order_ok (b := (mI u (m + 5))) (n := (mI u m 7)) (a := 0) hn1
  refine r_if_eq (t := 16) hC dX8_isWell_9 (by rfl) (p_order_rg (rg_mI _ _)) (fun h_9 => ?_) (fun h_9 => ?_)
  · skip
    refine r_iconst hC dX8_isWell_16 ?_
    refine r_istore_n (lv' := [_, _]) hC dX8_isWell_17 (lt_b rfl) rfl (lt_b rfl) rfl ?_
    exact lp 60 (decide ((p_order (mI u (m + 5)) (mI u m 7) 0 N).1 ≠ 0), (p_order (mI u (m + 5)) (mI u m 7) 0 N).2) _ (by simp only [bI, decide_eq_true_eq]; split <;> omega) o3 (by show 0 ≤ (p_order (mI u (m + 5)) (mI u m 7) 0 N).2.1; omega) (by show (p_order (mI u (m + 5)) (mI u m 7) 0 N).2.1 ≤ (mI u m 7); omega) (fun q => by show (mI u m 7) - (p_order (mI u (m + 5)) (mI u m 7) 0 N).2.1 ≤ 60; omega) rfl
  · skip
    refine r_iconst hC dX8_isWell_12 ?_
    refine r_goto (t := 17) hC dX8_isWell_13 (by rfl) ?_
    refine r_istore_n (lv' := [_, _]) hC dX8_isWell_17 (lt_b rfl) rfl (lt_b rfl) rfl ?_
    exact lp 60 (decide ((p_order (mI u (m + 5)) (mI u m 7) 0 N).1 ≠ 0), (p_order (mI u (m + 5)) (mI u m 7) 0 N).2) _ (by simp only [bI, decide_eq_true_eq]; split <;> omega) o3 (by show 0 ≤ (p_order (mI u (m + 5)) (mI u m 7) 0 N).2.1; omega) (by show (p_order (mI u (m + 5)) (mI u m 7) 0 N).2.1 ≤ (mI u m 7); omega) (fun q => by show (mI u m 7) - (p_order (mI u (m + 5)) (mI u m 7) 0 N).2.1 ≤ 60; omega) rfl

abbrev rmX8_firstError : Room := { frames := 7, cells := 0, slots := 0, locals := 152 }
set_option maxRecDepth 100000 in
theorem k_firstError {l : Launch} {D : DD} (hfl : l.stackTraces = false) {u : Mem} {m : Nat} (hM : MO u m) {f : RW} (hf : RF f) (hl : 0 ≤ mI u m 7 ∧ mI u m 7 ≤ 60) : CT l D yX8_firstError cX8_firstError 1 (some .int) rmX8_firstError [xA m] (sA u (m + 1) f) (if (p_well (mI u (m + 5)) (mI u m 7) (mI u (m + 6))).1 = true then RT (xI (mI u m 7)) (sA (pM (sI u m 11 0) m (p_well (mI u (m + 5)) (mI u m 7) (mI u (m + 6))).2.1 (p_well (mI u (m + 5)) (mI u m 7) (mI u (m + 6))).2.2) (m + 1) f) else RT (xI (p_well (mI u (m + 5)) (mI u m 7) (mI u (m + 6))).2.1) (sA (pM (sI u m 11 0) m (p_well (mI u (m + 5)) (mI u m 7) (mI u (m + 6))).2.1 (p_well (mI u (m + 5)) (mI u m 7) (mI u (m + 6))).2.2) (m + 1) f)) := by
  refine CT.of hfl (by decide) (le_b rfl) ?_
  intro C hC hR hL hDD hN
  have hfC : (cxL C).stackTraces = false := by rw [hL]; exact hfl
  show VW C 0 [some (xA m)] [] (sA u (m + 1) f) 0 0
  refine r_aload_n hC dX8_firstError_0 rfl ?_
  refine r_iconst hC dX8_firstError_1 ?_
  refine rM_putI (j := 11) hC hM dX8_firstError_2 fl_X8_35 rfl (by rintro _ ⟨⟩; rfl) (Or.inl rfl) ?_
  obtain ⟨u0, hu0⟩ : ∃ z, z = sI u m 11 0 := ⟨_, rfl⟩
  rw [← hu0]
  have hM : MO u0 m := by rw [hu0]; exact hM.sI _ _ _
  have e5 : mI u0 (m + 5) = mI u (m + 5) := by rw [hu0]; exact up_mI_n u _ _ (by omega)
  have e6 : mI u0 (m + 6) = mI u (m + 6) := by rw [hu0]; exact up_mI_n u _ _ (by omega)
  have e7 : mI u0 m 7 = mI u m 7 := by rw [hu0]; exact mI_sI_k u m 0 m (by decide)
  refine vw_mem (u' := sA (pM u0 m (mI u0 m 8) (mI u0 (m + 6))) (m + 1) f) (by rw [pM_id]) ?_
  refine r_aload_n hC dX8_firstError_5 rfl ?_
  refine rM_V0 hC (hM.pM _ _) dX8_firstError_6 mi_X8_isWell se_X8_isWell ml_X8_203 (rm := rmX8_isWell) rfl rfl rfl rfl ⟨le_b rfl, le_b rfl⟩ (k_isWell hfC hM hf (rf_mI _ _) (by rw [e7]; exact hl)) ?_ rfl
  rw [e5, e6, e7]
  have ok := p_well_ok (b := mI u (m + 5)) (n := mI u m 7) (N := mI u (m + 6)) hl.1 (rf_mI _ _)
  refine r_beq (t := 19) hC dX8_firstError_9 (by rfl) (fun h_9 => ?_) (fun h_9 => ?_)
  · skip
    refine r_aload_n hC dX8_firstError_19 rfl ?_
    refine rP_at hC hM ⟨by omega, by omega⟩ dX8_firstError_20 fl_X8_179 ?_
    refine r_iret hC hR dX8_firstError_23 (le_b rfl) (le_b rfl) ?_
    first | (rw [if_pos h_9, ← hu0]; exact ⟨congrArg (fun i => some (xI i)) e7, rfl⟩) | (rw [if_neg h_9, ← hu0]; exact ⟨rfl, rfl⟩)
  · skip
    refine r_aload_n hC dX8_firstError_12 rfl ?_
    refine rP_len hC hM ⟨by omega, by omega⟩ dX8_firstError_13 fl_X8_176 ?_
    refine r_goto (t := 23) hC dX8_firstError_16 (by rfl) ?_
    refine r_iret hC hR dX8_firstError_23 (le_b rfl) (le_b rfl) ?_
    first | (rw [if_pos h_9, ← hu0]; exact ⟨congrArg (fun i => some (xI i)) e7, rfl⟩) | (rw [if_neg h_9, ← hu0]; exact ⟨rfl, rfl⟩)

abbrev rmX8_clearBuffer : Room := { frames := 0, cells := 0, slots := 0, locals := 0 }
set_option maxRecDepth 100000 in
theorem k_clearBuffer {l : Launch} {D : DD} (hfl : l.stackTraces = false) {u : Mem} {m : Nat} (hM : MO u m) {f : RW} (hf : RF f)  : CT l D yX8_clearBuffer cX8_clearBuffer 2 (some .int) rmX8_clearBuffer [xA m] (sA u (m + 1) f) (RT (xI (mI u m 7)) (sA (sI (sI u m 11 0) m 7 0) (m + 1) f)) := by
  refine CT.of hfl (by decide) (le_b rfl) ?_
  intro C hC hR hL hDD hN
  have hfC : (cxL C).stackTraces = false := by rw [hL]; exact hfl
  show VW C 0 [some (xA m), none] [] (sA u (m + 1) f) 0 0
  refine r_aload_n hC dX8_clearBuffer_0 rfl ?_
  refine r_iconst hC dX8_clearBuffer_1 ?_
  refine rM_putI (j := 11) hC hM dX8_clearBuffer_2 fl_X8_35 rfl (by rintro _ ⟨⟩; rfl) (Or.inl rfl) ?_
  obtain ⟨u0, hu0⟩ : ∃ z, z = sI u m 11 0 := ⟨_, rfl⟩
  rw [← hu0]
  have hM : MO u0 m := by rw [hu0]; exact hM.sI _ _ _
  have e7 : mI u0 m 7 = mI u m 7 := by rw [hu0]; exact mI_sI_k u m 0 m (by decide)
  refine r_aload_n hC dX8_clearBuffer_5 rfl ?_
  refine rM_getI (j := 7) hC hM dX8_clearBuffer_6 fl_X8_176 rfl rfl ?_
  refine r_istore_n (lv' := [_, _]) hC dX8_clearBuffer_9 (lt_b rfl) rfl (lt_b rfl) rfl ?_
  refine r_aload_n hC dX8_clearBuffer_10 rfl ?_
  refine r_iconst hC dX8_clearBuffer_11 ?_
  refine rM_putI (j := 7) hC hM dX8_clearBuffer_12 fl_X8_176 rfl (by rintro _ ⟨⟩; rfl) (Or.inl rfl) ?_
  refine r_iload_n hC dX8_clearBuffer_15 rfl ?_
  refine r_iret hC hR dX8_clearBuffer_16 (le_b rfl) (le_b rfl) ?_
  rw [e7, hu0]; exact ⟨rfl, rfl⟩

def q_append (n c : Int) : Int := if ¬ (33 ≤ c ∧ c ≤ 126) then 1 else if n = 60 then 2 else 0
abbrev rmX8_append : Room := { frames := 1, cells := 0, slots := 0, locals := 22 }
set_option maxRecDepth 100000 in
theorem k_append {l : Launch} {D : DD} (hfl : l.stackTraces = false) {u : Mem} {m : Nat} (hM : MO u m) {f : RW} (hf : RF f) (hl : 0 ≤ mI u m 7 ∧ mI u m 7 ≤ 60) {x : Int} (hx : rg x) : CT l D yX8_append cX8_append 2 (some .int) rmX8_append [xA m, xI x] (sA u (m + 1) f) (m_pub u m f (q_append (mI u m 7) x) (mI u m 7 + 1) (sA (sI (sI (sI u m 11 0) (m + 5) (mI u m 7) x) m 7 (mI u m 7 + 1)) (m + 1) f)) := by
  refine CT.of hfl (by decide) (le_b rfl) ?_
  intro C hC hR hL hDD hN
  have hfC : (cxL C).stackTraces = false := by rw [hL]; exact hfl
  show VW C 0 [some (xA m), some (xI x)] [] (sA u (m + 1) f) 0 0
  refine r_aload_n hC dX8_append_0 rfl ?_
  refine r_iconst hC dX8_append_1 ?_
  refine rM_putI (j := 11) hC hM dX8_append_2 fl_X8_35 rfl (by rintro _ ⟨⟩; rfl) (Or.inl rfl) ?_
  obtain ⟨u0, hu0⟩ : ∃ z, z = sI u m 11 0 := ⟨_, rfl⟩
  rw [← hu0]
  have hM : MO u0 m := by rw [hu0]; exact hM.sI _ _ _
  have e7 : mI u0 m 7 = mI u m 7 := by rw [hu0]; exact mI_sI_k u m 0 m (by decide)
  refine r_iload_n hC dX8_append_5 rfl ?_
  refine r_bipush hC dX8_append_6 (by rfl) ?_
  refine r_bipush hC dX8_append_8 (by rfl) ?_
  refine r_S0 hC dX8_append_10 mi_X8_in ss_X8_in ml_X8_39 (rm := rmX8_in) rfl rfl rfl ⟨le_b rfl, le_b rfl⟩ (k_in hfC hx ⟨by decide, by decide⟩ ⟨by decide, by decide⟩) ?_ rfl
  refine r_bne (t := 22) hC dX8_append_13 (by rfl) (fun h_13 => ?_) (fun h_13 => ?_)
  · skip
    refine r_aload_n hC dX8_append_22 rfl ?_
    refine rM_getI (j := 7) hC hM dX8_append_23 fl_X8_176 rfl rfl ?_
    refine r_bipush hC dX8_append_26 (by rfl) ?_
    refine r_icmp_ne (t := 37) hC dX8_append_28 (by rfl) (by first | with_reducible exact rg_mI _ _ _ | (with_reducible refine rg_of ?_ _ _; (repeat (first | assumption | with_reducible apply rf_up | with_reducible apply rf_setm | with_reducible apply rf_mI | with_reducible apply rf_begins | with_reducible apply rf_writes | with_reducible apply rf_drops | with_reducible apply rf_commitL | with_reducible apply rf_commits | with_reducible apply rf_lost | with_reducible apply rf_sweepL | with_reducible apply rf_sweep1 | with_reducible apply rf_sweeps | with_reducible apply rf_sends0 | with_reducible apply rf_sendsA | with_reducible apply rf_pack | with_reducible apply rf_sends | with_reducible apply rf_works4 | with_reducible apply rf_works7 | with_reducible apply rf_shift | with_reducible apply rf_works | with_reducible apply rf_answerComes | with_reducible apply rf_bcL | with_reducible apply rf_bc1 | with_reducible apply rf_markL | with_reducible apply rf_rel0 | with_reducible apply rf_relays | with_reducible apply rf_cp | with_reducible apply rf_put | with_reducible apply rf_shf | with_reducible apply rf_saved)); done) | (with_reducible refine rg_its ?_ _ _; (repeat (first | assumption | with_reducible apply rf_up | with_reducible apply rf_setm | with_reducible apply rf_mI | with_reducible apply rf_begins | with_reducible apply rf_writes | with_reducible apply rf_drops | with_reducible apply rf_commitL | with_reducible apply rf_commits | with_reducible apply rf_lost | with_reducible apply rf_sweepL | with_reducible apply rf_sweep1 | with_reducible apply rf_sweeps | with_reducible apply rf_sends0 | with_reducible apply rf_sendsA | with_reducible apply rf_pack | with_reducible apply rf_sends | with_reducible apply rf_works4 | with_reducible apply rf_works7 | with_reducible apply rf_shift | with_reducible apply rf_works | with_reducible apply rf_answerComes | with_reducible apply rf_bcL | with_reducible apply rf_bc1 | with_reducible apply rf_markL | with_reducible apply rf_rel0 | with_reducible apply rf_relays | with_reducible apply rf_cp | with_reducible apply rf_put | with_reducible apply rf_shf | with_reducible apply rf_saved)); done) | (with_reducible refine rg_way ?_ _ _; (repeat (first | assumption | with_reducible apply rf_up | with_reducible apply rf_setm | with_reducible apply rf_mI | with_reducible apply rf_begins | with_reducible apply rf_writes | with_reducible apply rf_drops | with_reducible apply rf_commitL | with_reducible apply rf_commits | with_reducible apply rf_lost | with_reducible apply rf_sweepL | with_reducible apply rf_sweep1 | with_reducible apply rf_sweeps | with_reducible apply rf_sends0 | with_reducible apply rf_sendsA | with_reducible apply rf_pack | with_reducible apply rf_sends | with_reducible apply rf_works4 | with_reducible apply rf_works7 | with_reducible apply rf_shift | with_reducible apply rf_works | with_reducible apply rf_answerComes | with_reducible apply rf_bcL | with_reducible apply rf_bc1 | with_reducible apply rf_markL | with_reducible apply rf_rel0 | with_reducible apply rf_relays | with_reducible apply rf_cp | with_reducible apply rf_put | with_reducible apply rf_shf | with_reducible apply rf_saved)); done) | with_reducible exact rg_and _ _ | (with_reducible refine rg_num ?_ ⟨by omega, by omega⟩; (repeat (first | assumption | with_reducible apply rf_up | with_reducible apply rf_setm | with_reducible apply rf_mI | with_reducible apply rf_begins | with_reducible apply rf_writes | with_reducible apply rf_drops | with_reducible apply rf_commitL | with_reducible apply rf_commits | with_reducible apply rf_lost | with_reducible apply rf_sweepL | with_reducible apply rf_sweep1 | with_reducible apply rf_sweeps | with_reducible apply rf_sends0 | with_reducible apply rf_sendsA | with_reducible apply rf_pack | with_reducible apply rf_sends | with_reducible apply rf_works4 | with_reducible apply rf_works7 | with_reducible apply rf_shift | with_reducible apply rf_works | with_reducible apply rf_answerComes | with_reducible apply rf_bcL | with_reducible apply rf_bc1 | with_reducible apply rf_markL | with_reducible apply rf_rel0 | with_reducible apply rf_relays | with_reducible apply rf_cp | with_reducible apply rf_put | with_reducible apply rf_shf | with_reducible apply rf_saved)); done) | (with_reducible refine rf_at ?_ _; (repeat (first | assumption | with_reducible apply rf_up | with_reducible apply rf_setm | with_reducible apply rf_mI | with_reducible apply rf_begins | with_reducible apply rf_writes | with_reducible apply rf_drops | with_reducible apply rf_commitL | with_reducible apply rf_commits | with_reducible apply rf_lost | with_reducible apply rf_sweepL | with_reducible apply rf_sweep1 | with_reducible apply rf_sweeps | with_reducible apply rf_sends0 | with_reducible apply rf_sendsA | with_reducible apply rf_pack | with_reducible apply rf_sends | with_reducible apply rf_works4 | with_reducible apply rf_works7 | with_reducible apply rf_shift | with_reducible apply rf_works | with_reducible apply rf_answerComes | with_reducible apply rf_bcL | with_reducible apply rf_bc1 | with_reducible apply rf_markL | with_reducible apply rf_rel0 | with_reducible apply rf_relays | with_reducible apply rf_cp | with_reducible apply rf_put | with_reducible apply rf_shf | with_reducible apply rf_saved)); done) | exact ⟨by omega, by omega⟩) (by first | with_reducible exact rg_mI _ _ _ | (with_reducible refine rg_of ?_ _ _; (repeat (first | assumption | with_reducible apply rf_up | with_reducible apply rf_setm | with_reducible apply rf_mI | with_reducible apply rf_begins | with_reducible apply rf_writes | with_reducible apply rf_drops | with_reducible apply rf_commitL | with_reducible apply rf_commits | with_reducible apply rf_lost | with_reducible apply rf_sweepL | with_reducible apply rf_sweep1 | with_reducible apply rf_sweeps | with_reducible apply rf_sends0 | with_reducible apply rf_sendsA | with_reducible apply rf_pack | with_reducible apply rf_sends | with_reducible apply rf_works4 | with_reducible apply rf_works7 | with_reducible apply rf_shift | with_reducible apply rf_works | with_reducible apply rf_answerComes | with_reducible apply rf_bcL | with_reducible apply rf_bc1 | with_reducible apply rf_markL | with_reducible apply rf_rel0 | with_reducible apply rf_relays | with_reducible apply rf_cp | with_reducible apply rf_put | with_reducible apply rf_shf | with_reducible apply rf_saved)); done) | (with_reducible refine rg_its ?_ _ _; (repeat (first | assumption | with_reducible apply rf_up | with_reducible apply rf_setm | with_reducible apply rf_mI | with_reducible apply rf_begins | with_reducible apply rf_writes | with_reducible apply rf_drops | with_reducible apply rf_commitL | with_reducible apply rf_commits | with_reducible apply rf_lost | with_reducible apply rf_sweepL | with_reducible apply rf_sweep1 | with_reducible apply rf_sweeps | with_reducible apply rf_sends0 | with_reducible apply rf_sendsA | with_reducible apply rf_pack | with_reducible apply rf_sends | with_reducible apply rf_works4 | with_reducible apply rf_works7 | with_reducible apply rf_shift | with_reducible apply rf_works | with_reducible apply rf_answerComes | with_reducible apply rf_bcL | with_reducible apply rf_bc1 | with_reducible apply rf_markL | with_reducible apply rf_rel0 | with_reducible apply rf_relays | with_reducible apply rf_cp | with_reducible apply rf_put | with_reducible apply rf_shf | with_reducible apply rf_saved)); done) | (with_reducible refine rg_way ?_ _ _; (repeat (first | assumption | with_reducible apply rf_up | with_reducible apply rf_setm | with_reducible apply rf_mI | with_reducible apply rf_begins | with_reducible apply rf_writes | with_reducible apply rf_drops | with_reducible apply rf_commitL | with_reducible apply rf_commits | with_reducible apply rf_lost | with_reducible apply rf_sweepL | with_reducible apply rf_sweep1 | with_reducible apply rf_sweeps | with_reducible apply rf_sends0 | with_reducible apply rf_sendsA | with_reducible apply rf_pack | with_reducible apply rf_sends | with_reducible apply rf_works4 | with_reducible apply rf_works7 | with_reducible apply rf_shift | with_reducible apply rf_works | with_reducible apply rf_answerComes | with_reducible apply rf_bcL | with_reducible apply rf_bc1 | with_reducible apply rf_markL | with_reducible apply rf_rel0 | with_reducible apply rf_relays | with_reducible apply rf_cp | with_reducible apply rf_put | with_reducible apply rf_shf | with_reducible apply rf_saved)); done) | with_reducible exact rg_and _ _ | (with_reducible refine rg_num ?_ ⟨by omega, by omega⟩; (repeat (first | assumption | with_reducible apply rf_up | with_reducible apply rf_setm | with_reducible apply rf_mI | with_reducible apply rf_begins | with_reducible apply rf_writes | with_reducible apply rf_drops | with_reducible apply rf_commitL | with_reducible apply rf_commits | with_reducible apply rf_lost | with_reducible apply rf_sweepL | with_reducible apply rf_sweep1 | with_reducible apply rf_sweeps | with_reducible apply rf_sends0 | with_reducible apply rf_sendsA | with_reducible apply rf_pack | with_reducible apply rf_sends | with_reducible apply rf_works4 | with_reducible apply rf_works7 | with_reducible apply rf_shift | with_reducible apply rf_works | with_reducible apply rf_answerComes | with_reducible apply rf_bcL | with_reducible apply rf_bc1 | with_reducible apply rf_markL | with_reducible apply rf_rel0 | with_reducible apply rf_relays | with_reducible apply rf_cp | with_reducible apply rf_put | with_reducible apply rf_shf | with_reducible apply rf_saved)); done) | (with_reducible refine rf_at ?_ _; (repeat (first | assumption | with_reducible apply rf_up | with_reducible apply rf_setm | with_reducible apply rf_mI | with_reducible apply rf_begins | with_reducible apply rf_writes | with_reducible apply rf_drops | with_reducible apply rf_commitL | with_reducible apply rf_commits | with_reducible apply rf_lost | with_reducible apply rf_sweepL | with_reducible apply rf_sweep1 | with_reducible apply rf_sweeps | with_reducible apply rf_sends0 | with_reducible apply rf_sendsA | with_reducible apply rf_pack | with_reducible apply rf_sends | with_reducible apply rf_works4 | with_reducible apply rf_works7 | with_reducible apply rf_shift | with_reducible apply rf_works | with_reducible apply rf_answerComes | with_reducible apply rf_bcL | with_reducible apply rf_bc1 | with_reducible apply rf_markL | with_reducible apply rf_rel0 | with_reducible apply rf_relays | with_reducible apply rf_cp | with_reducible apply rf_put | with_reducible apply rf_shf | with_reducible apply rf_saved)); done) | exact ⟨by omega, by omega⟩) (fun h_28 => ?_) (fun h_28 => ?_)
    · skip
      refine r_aload_n hC dX8_append_37 rfl ?_
      refine r_getR (j := 6) hC dX8_append_38 fl_X8_22 rfl rfl hM.o hM.p_buffer ?_
      refine r_aload_n hC dX8_append_41 rfl ?_
      refine rM_getI (j := 7) hC hM dX8_append_42 fl_X8_176 rfl rfl ?_
      refine r_iload_n hC dX8_append_45 rfl ?_
      refine rM_ast2 hC dX8_append_46 hM.a_buffer rfl ⟨by omega, by omega⟩ ?_
      obtain ⟨u1, hu1⟩ : ∃ z, z = sI u0 (m + 5) (mI u0 m 7) x := ⟨_, rfl⟩
      rw [← hu1]
      have hM : MO u1 m := by rw [hu1]; exact hM
      have e71 : mI u1 m 7 = mI u m 7 := by rw [hu1, mI_sI_a u0 _ _ _ (by omega), e7]
      refine r_aload_n hC dX8_append_47 rfl ?_
      refine r_dup hC dX8_append_48 rfl ?_
      refine rM_getI (j := 7) hC hM dX8_append_49 fl_X8_176 rfl rfl ?_
      refine r_iconst hC dX8_append_52 ?_
      refine r_iadd hC dX8_append_53 ?_
      refine rM_putI (j := 7) hC hM dX8_append_54 fl_X8_176 rfl (by rintro _ ⟨⟩; rfl) (Or.inl rfl) ?_
      obtain ⟨u2, hu2⟩ : ∃ z, z = sI u1 m 7 (mI u1 m 7 + 1) := ⟨_, rfl⟩
      rw [← hu2]
      have hM : MO u2 m := by rw [hu2]; exact hM
      have e72 : mI u2 m 7 = mI u m 7 + 1 := by rw [hu2, mI_sI_s, e71, wr_id ⟨by omega, by omega⟩]
      refine r_aload_n hC dX8_append_57 rfl ?_
      refine rM_getI (j := 7) hC hM dX8_append_58 fl_X8_176 rfl rfl ?_
      refine r_iret hC hR dX8_append_61 (le_b rfl) (le_b rfl) ?_
      have ht : q_append (mI u m 7) x = 0 := by
        unfold q_append
        rw [if_neg (fun q => q h_13), if_neg (by rw [← e7]; exact h_28)]
      unfold m_pub
      rw [ht, if_neg (by decide), ← hu0]
      refine ⟨congrArg (fun i => some (xI i)) e72, ?_⟩
      rw [hu2, e71, hu1, e7]
    · skip
      refine r_aload_n hC dX8_append_31 rfl ?_
      refine r_iconst hC dX8_append_32 ?_
      refine rM_V0 hC hM dX8_append_33 mi_X8_fails se_X8_fails ml_X8_73 (rm := rmX8_fails) rfl rfl rfl rfl ⟨le_b rfl, le_b rfl⟩ (k_fails hfC hM hf) ?_ rfl
      refine r_iret hC hR dX8_append_36 (le_b rfl) (le_b rfl) ?_
      have ht : q_append (mI u m 7) x = 2 := by
        unfold q_append
        rw [if_neg (fun q => q h_13), if_pos (by rw [← e7]; exact h_28)]
      unfold m_pub
      rw [ht, if_pos (by decide), hu0, sI_sI]; exact ⟨rfl, rfl⟩
  · skip
    refine r_aload_n hC dX8_append_16 rfl ?_
    refine r_iconst hC dX8_append_17 ?_
    refine rM_V0 hC hM dX8_append_18 mi_X8_fails se_X8_fails ml_X8_73 (rm := rmX8_fails) rfl rfl rfl rfl ⟨le_b rfl, le_b rfl⟩ (k_fails hfC hM hf) ?_ rfl
    refine r_iret hC hR dX8_append_21 (le_b rfl) (le_b rfl) ?_
    have ht : q_append (mI u m 7) x = 1 := by
      unfold q_append
      rw [if_pos h_13]
    unfold m_pub
    rw [ht, if_pos (by decide), hu0, sI_sI]; exact ⟨rfl, rfl⟩

