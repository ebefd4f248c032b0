/-! ===== the relay's shares, and their bits ===== -/
set_option maxRecDepth 100000 in
theorem kd_X7_314 : Cond.constantDouble RX7 314 0x4000000000000000 ∈ wAll := in_at 737 (by decide +kernel) (by decide +kernel)
abbrev rmX7_goodShare : Room := { frames := 0, cells := 0, slots := 0, locals := 0 }
set_option maxRecDepth 100000 in
theorem k_Rl_good {l : Launch} {D : DD} (hfl : l.stackTraces = false) {u : Mem} {x : Nat} {f : RW} {s : Int} {P : RW} {kp : Int} {K : RW} {T : Int} (hX0 : RX u x f s P kp K T) : CT l D yX7_goodShare cX7_goodShare 2 (some .double) rmX7_goodShare [xA x] u (RT (xD (m_good f)) u) := by
  refine CT.of hfl (by decide) (le_b rfl) ?_
  intro C hC hR hL hDD hN
  have hfC : (cxL C).stackTraces = false := by rw [hL]; exact hfl
  show VW C 0 [some (xA x), none] [] u 0 0
  have hco := hX0.2.2.1.2.co
  have h4 := hco.2.2.2.2.2.1
  have h5 := hco.2.2.2.2.1
  have h9 := hco.2.2.2.1
  have h4r := rf_at hX0.2.2.1.2.rf 4
  refine r_aload_n hC dX7_goodShare_0 rfl ?_
  refine r_getR (j := 0) hC dX7_goodShare_1 fl_X7_10 rfl rfl hX0.1.1 hX0.1.2.1 ?_
  refine r_getR (j := 4) hC dX7_goodShare_4 fl_X7_123 rfl rfl hX0.2.2.1.1.o.o hX0.2.2.1.1.o.p4 ?_
  refine r_astore_n (lv' := [_, _]) hC dX7_goodShare_7 (lt_b rfl) rfl (lt_b rfl) rfl ?_
  refine r_aload_n hC dX7_goodShare_8 rfl ?_
  refine r_getIv (j := 2) (v := f 4) hC dX7_goodShare_9 fl_X7_254 rfl rfl hX0.2.2.1.1.o.l.o hX0.2.2.1.1.l.2.1 ?_
  refine r_if_gt (t := 19) hC dX7_goodShare_12 (by rfl) h4r (fun h_12 => ?_) (fun h_12 => ?_)
  · skip
    refine r_aload_n hC dX7_goodShare_19 rfl ?_
    refine r_getIv (j := 2) (v := f 4) hC dX7_goodShare_20 fl_X7_254 rfl rfl hX0.2.2.1.1.o.l.o hX0.2.2.1.1.l.2.1 ?_
    refine r_aload_n hC dX7_goodShare_23 rfl ?_
    refine r_getIv (j := 3) (v := f 5) hC dX7_goodShare_24 fl_X7_137 rfl rfl hX0.2.2.1.1.o.l.o hX0.2.2.1.1.l.2.2.1 ?_
    refine r_isub hC dX7_goodShare_27 ?_
    refine r_i2d hC dX7_goodShare_28 ?_
    refine r_aload_n hC dX7_goodShare_29 rfl ?_
    refine r_getIv (j := 2) (v := f 4) hC dX7_goodShare_30 fl_X7_254 rfl rfl hX0.2.2.1.1.o.l.o hX0.2.2.1.1.l.2.1 ?_
    refine r_i2d hC dX7_goodShare_33 ?_
    refine r_ddiv hC dX7_goodShare_34 (good_sh (a := f 4 - f 5) (b := f 4) ⟨by omega, by have := h4r.2; omega⟩ ⟨by omega, h4r.2⟩).nn ?_
    refine r_dret hC hR dX7_goodShare_35 (le_b rfl) (le_b rfl) ?_
    first
    | (exact ⟨by unfold m_good; rw [if_neg (by omega)], rfl⟩)
    | (exact ⟨by unfold m_good; rw [if_pos (by omega)], rfl⟩)
  · skip
    refine r_dconst1 hC dX7_goodShare_15 ?_
    refine r_goto (t := 35) hC dX7_goodShare_16 (by rfl) ?_
    refine r_dret hC hR dX7_goodShare_35 (le_b rfl) (le_b rfl) ?_
    first
    | (exact ⟨by unfold m_good; rw [if_neg (by omega)], rfl⟩)
    | (exact ⟨by unfold m_good; rw [if_pos (by omega)], rfl⟩)

abbrev rmX7_meanBatch : Room := { frames := 0, cells := 0, slots := 0, locals := 0 }
set_option maxRecDepth 100000 in
theorem k_Rl_mean {l : Launch} {D : DD} (hfl : l.stackTraces = false) {u : Mem} {x : Nat} {f : RW} {s : Int} {P : RW} {kp : Int} {K : RW} {T : Int} (hX0 : RX u x f s P kp K T) : CT l D yX7_meanBatch cX7_meanBatch 2 (some .float) rmX7_meanBatch [xA x] u (RT (xF (m_mean f)) u) := by
  refine CT.of hfl (by decide) (le_b rfl) ?_
  intro C hC hR hL hDD hN
  have hfC : (cxL C).stackTraces = false := by rw [hL]; exact hfl
  show VW C 0 [some (xA x), none] [] u 0 0
  have hco := hX0.2.2.1.2.co
  have h6 := hco.2.2.2.2.2.2.1
  have h8 := hco.2.2.2.2.2.2.2.1
  have h6r := rf_at hX0.2.2.1.2.rf 6
  have h8r := rf_at hX0.2.2.1.2.rf 8
  refine r_aload_n hC dX7_meanBatch_0 rfl ?_
  refine r_getR (j := 0) hC dX7_meanBatch_1 fl_X7_10 rfl rfl hX0.1.1 hX0.1.2.1 ?_
  refine r_getR (j := 4) hC dX7_meanBatch_4 fl_X7_123 rfl rfl hX0.2.2.1.1.o.o hX0.2.2.1.1.o.p4 ?_
  refine r_astore_n (lv' := [_, _]) hC dX7_meanBatch_7 (lt_b rfl) rfl (lt_b rfl) rfl ?_
  refine r_aload_n hC dX7_meanBatch_8 rfl ?_
  refine r_getIv (j := 4) (v := f 6) hC dX7_meanBatch_9 fl_X7_257 rfl rfl hX0.2.2.1.1.o.l.o hX0.2.2.1.1.l.2.2.2.1 ?_
  refine r_if_gt (t := 19) hC dX7_meanBatch_12 (by rfl) h6r (fun h_12 => ?_) (fun h_12 => ?_)
  · skip
    refine r_aload_n hC dX7_meanBatch_19 rfl ?_
    refine r_getIv (j := 5) (v := f 8) hC dX7_meanBatch_20 fl_X7_260 rfl rfl hX0.2.2.1.1.o.l.o hX0.2.2.1.1.l.2.2.2.2.1 ?_
    refine r_i2f hC dX7_meanBatch_23 ?_
    refine r_aload_n hC dX7_meanBatch_24 rfl ?_
    refine r_getIv (j := 4) (v := f 6) hC dX7_meanBatch_25 fl_X7_257 rfl rfl hX0.2.2.1.1.o.l.o hX0.2.2.1.1.l.2.2.2.1 ?_
    refine r_i2f hC dX7_meanBatch_28 ?_
    refine r_fdiv hC dX7_meanBatch_29 (mean_sh (a := f 8) (b := f 6) ⟨by omega, h8r.2⟩ ⟨by omega, h6r.2⟩).nn ?_
    refine r_fret hC hR dX7_meanBatch_30 (le_b rfl) (le_b rfl) ?_
    first
    | (exact ⟨by unfold m_mean; rw [if_neg (by omega)], rfl⟩)
    | (exact ⟨by unfold m_mean; rw [if_pos (by omega)], rfl⟩)
  · skip
    refine r_fconst0 hC dX7_meanBatch_15 ?_
    refine r_goto (t := 30) hC dX7_meanBatch_16 (by rfl) ?_
    refine r_fret hC hR dX7_meanBatch_30 (le_b rfl) (le_b rfl) ?_
    first
    | (exact ⟨by unfold m_mean; rw [if_neg (by omega)], rfl⟩)
    | (exact ⟨by unfold m_mean; rw [if_pos (by omega)], rfl⟩)

abbrev rmX7_firstError : Room := { frames := 4, cells := 0, slots := 0, locals := 85 }
set_option maxRecDepth 100000 in
theorem k_Rl_first {l : Launch} {D : DD} (hfl : l.stackTraces = false) {u : Mem} {x : Nat} {f : RW} {s : Int} {P : RW} {kp : Int} {K : RW} {T : Int} (hX0 : RX u x f s P kp K T) {b N0 : RW} {n : Nat} (htx : RXt u x b n) (hn : n ≤ 60) : CT l D yX7_firstError cX7_firstError 1 (some .int) rmX7_firstError [xA x] u (RT (xI (if (p_well b n N0).1 = true then (n : Int) else (p_well b n N0).2.1)) u) := by
  refine CT.of hfl (by decide) (le_b rfl) ?_
  intro C hC hR hL hDD hN
  have hfC : (cxL C).stackTraces = false := by rw [hL]; exact hfl
  show VW C 0 [some (xA x)] [] u 0 0
  have hTe := hX0.1.2.2.2.2
  have hz0 : 0 ≤ mI u (x + 148) 1 ∧ mI u (x + 148) 1 ≤ 60 := by rw [htx.1]; omega
  have hSb : ∀ k : Nat, k < n → mI u (x + 148 + 1) k = b k := fun k hk => htx.2.2 k (by omega)
  refine r_aload_n hC dX7_firstError_0 rfl ?_
  refine r_getR (j := 2) hC dX7_firstError_1 fl_X7_23 rfl rfl hX0.1.1 hX0.1.2.2.2.1 ?_
  refine r_V0p (u := u) hC dX7_firstError_4 mi_X2_errorIndex se_X2_errorIndex ml_X7_169 (rm := rmX2_errorIndex) rfl hTe.1 rfl rfl rfl rfl ⟨le_b rfl, le_b rfl⟩ (k_Te_error hfC hTe hz0) ?_ rfl
  rintro _ w ⟨rfl, k, rfl, h1, h2, h3⟩
  rw [htx.1] at h1 h3
  refine r_iret hC hR dX7_firstError_7 (le_b rfl) (le_b rfl) ?_
  have e := err_same (b := b) hn N0 (k := k) (by omega) (fun j hj => by rw [← t_run_cg hSb (j + 1) (by omega)]; exact h2 j hj) (fun hk => by rw [← t_run_cg hSb (k + 1) (by omega)]; exact h3 (by omega))
  exact ⟨by rw [e], rfl⟩

abbrev rmX7_mixed : Room := { frames := 0, cells := 0, slots := 0, locals := 0 }
set_option maxRecDepth 100000 in
theorem k_mixed {l : Launch} {D : DD} (hfl : l.stackTraces = false) {u : Mem} {h v : Int64} : CT l D yX7_mixed cX7_mixed 4 (some .long) rmX7_mixed [xJ h, xJ v] u (RT (xJ (31 * h + v)) u) := by
  refine CT.of hfl (by decide) (le_b rfl) ?_
  intro C hC hR hL hDD hN
  have hfC : (cxL C).stackTraces = false := by rw [hL]; exact hfl
  show VW C 0 [some (xJ h), none, some (xJ v), none] [] u 0 0
  refine r_ldc2 hC dX7_mixed_0 kj_X7_312 ?_
  refine r_lload_n hC dX7_mixed_3 rfl ?_
  refine r_lmul hC dX7_mixed_4 ?_
  refine r_lload_n hC dX7_mixed_5 rfl ?_
  refine r_ladd hC dX7_mixed_6 ?_
  refine r_lret hC hR dX7_mixed_7 (le_b rfl) (le_b rfl) ?_
  exact ⟨rfl, rfl⟩

abbrev rmX7_bitsOf : Room := { frames := 0, cells := 0, slots := 0, locals := 0 }
set_option maxRecDepth 100000 in
theorem k_bits {l : Launch} {D : DD} (hfl : l.stackTraces = false) {u : Mem} {y : UInt64} {bi pl : Int} (hbi : 0 ≤ bi ∧ bi ≤ 1023) (hp : pl = 52 ∨ pl = 23) {K : Nat} (hK : 1000 ≤ K ∧ K ≤ 1075) (hl : FP.l2d ((1 : Int64) <<< ((Int32.ofInt pl).toInt64 &&& 63)) = d64 K 0) {E T : Nat} (hy : y = d64 E T) (hE : 960 ≤ E ∧ E ≤ 1086) (hT : T < 4503599627370496) : CT l D yX7_bitsOf cX7_bitsOf 9 (some .long) rmX7_bitsOf [xD y, xI bi, xI pl] u (RT (xJ (Int64.ofInt (bi + E - 1023) <<< ((Int32.ofInt pl).toInt64 &&& 63) + Int64.ofInt ((T / 2 ^ (1075 - K) : Nat) : Int))) u) := by
  refine CT.of hfl (by decide) (le_b rfl) ?_
  intro C hC hR hL hDD hN
  have hfC : (cxL C).stackTraces = false := by rw [hL]; exact hfl
  show VW C 0 [some (xD y), none, some (xI bi), some (xI pl), none, none, none, none, none] [] u 0 0
  obtain ⟨n1, n2, n3⟩ := frac_T (K := K) hT hK
  have e91 : ∀ i : Option SV, VW C 91 [some (xD y), none, some (xI bi), some (xI pl), some (xD (d64 1023 T)), none, some (xJ (Int64.ofInt (bi + E - 1023))), none, i] [] u 0 0 := by
    intro i
    refine r_lload hC dX7_bitsOf_91 rfl ?_
    refine r_iload_n hC dX7_bitsOf_93 rfl ?_
    refine r_lshl hC dX7_bitsOf_94 rfl ?_
    refine r_dload hC dX7_bitsOf_95 rfl ?_
    refine r_dconst1 hC dX7_bitsOf_97 ?_
    rw [one_d]
    refine r_dsub hC dX7_bitsOf_98 n1 ?_
    refine r_lconst hC dX7_bitsOf_99 rfl ?_
    refine r_iload_n hC dX7_bitsOf_100 rfl ?_
    refine r_lshl hC dX7_bitsOf_101 rfl ?_
    refine r_l2d hC dX7_bitsOf_102 ?_
    rw [show Int64.ofNat ((1 : Fin 2) : Nat) = 1 from rfl, hl]
    refine r_dmul hC dX7_bitsOf_103 n2 ?_
    refine r_d2l hC dX7_bitsOf_104 ?_
    rw [n3]
    refine r_ladd hC dX7_bitsOf_105 ?_
    refine r_lret hC hR dX7_bitsOf_106 (le_b rfl) (le_b rfl) ?_
    exact ⟨rfl, rfl⟩
  have l55 : ∀ (n i F : Nat), F - 1023 = n → 1023 ≤ F → F ≤ 1086 → (F : Int) - 1023 + i ≤ 63 → (F : Int) + i ≥ E → VW C 55 [some (xD y), none, some (xI bi), some (xI pl), some (xD (d64 F T)), none, some (xJ (Int64.ofInt (bi + (E : Int) - F))), none, some (xI i)] [] u 0 0 := by
    intro n
    induction n with
    | zero =>
      intro i F hn h1 h2 h3 h4
      have hF : F = 1023 := by omega
      subst hF
      refine r_iload hC dX7_bitsOf_55 rfl ?_
      refine r_bipush hC dX7_bitsOf_57 (by rfl) ?_
      refine r_icmp_ge (t := 91) hC dX7_bitsOf_59 (by rfl) ⟨by omega, by omega⟩ ⟨by omega, by omega⟩ (fun h_59 => e91 _) (fun h_59 => ?_)
      refine r_dload hC dX7_bitsOf_62 rfl ?_
      refine r_ldc2d hC dX7_bitsOf_64 kd_X7_314 ?_
      rw [two_d]
      refine r_dcmp hC dX7_bitsOf_67 ?_
      rw [(cm_k (E := 1023) (K := 1024) (by decide) hT (by decide)).1 (by decide)]
      exact r_if_lt (t := 91) hC dX7_bitsOf_68 (by rfl) (by decide) (fun h_68 => e91 _) (fun h_68 => absurd (by decide) h_68)
    | succ n ih =>
      intro i F hn h1 h2 h3 h4
      have e0 : ∀ X : Prop, X → X := fun _ x => x
      refine r_iload hC dX7_bitsOf_55 rfl ?_
      refine r_bipush hC dX7_bitsOf_57 (by rfl) ?_
      refine r_icmp_ge (t := 91) hC dX7_bitsOf_59 (by rfl) ⟨by omega, by omega⟩ ⟨by omega, by omega⟩ (fun h_59 => by omega) (fun h_59 => ?_)
      refine r_dload hC dX7_bitsOf_62 rfl ?_
      refine r_ldc2d hC dX7_bitsOf_64 kd_X7_314 ?_
      rw [two_d]
      refine r_dcmp hC dX7_bitsOf_67 ?_
      have hc : 0 ≤ (Op.cmpValue (FP.dcmp (d64 F T) (d64 1024 0)) .l).toInt := by
        rcases (cm_k (E := F) (K := 1024) ⟨by omega, by omega⟩ hT (by decide)).2 (by omega) with q | q <;> rw [q] <;> decide
      refine r_if_lt (t := 91) hC dX7_bitsOf_68 (by rfl) (rg_toInt _) (fun h_68 => by omega) (fun h_68 => ?_)
      refine r_dload hC dX7_bitsOf_71 rfl ?_
      refine r_ldc2d hC dX7_bitsOf_73 kd_X7_314 ?_
      rw [two_d]
      have hdv := div_2 (E := F) (T := T) ⟨by omega, by omega⟩ hT
      refine r_ddiv hC dX7_bitsOf_76 (by rw [hdv]; exact nn64 (by omega) hT) ?_
      rw [hdv]
      refine r_dstore (lv' := [_, _, _, _, _, _, _, _, _]) hC dX7_bitsOf_77 (lt_b rfl) rfl (lt_b rfl) rfl ?_
      refine r_lload hC dX7_bitsOf_79 rfl ?_
      refine r_lconst hC dX7_bitsOf_81 rfl ?_
      refine r_ladd hC dX7_bitsOf_82 ?_
      refine r_lstore (lv' := [_, _, _, _, _, _, _, _, _]) hC dX7_bitsOf_83 (lt_b rfl) rfl (lt_b rfl) rfl ?_
      refine r_iinc (lv' := [_, _, _, _, _, _, _, _, _]) hC dX7_bitsOf_85 rfl (lt_b rfl) rfl (lt_b rfl) rfl ?_
      refine r_goto (t := 55) hC dX7_bitsOf_88 (by rfl) ?_
      have hx1 : Int64.ofInt (bi + (E : Int) - F) + Int64.ofNat ((1 : Fin 2) : Nat) = Int64.ofInt (bi + (E : Int) - ((F - 1 : Nat) : Int)) := by
        rw [show Int64.ofNat ((1 : Fin 2) : Nat) = Int64.ofInt 1 from rfl, j_add]
        congr 1
        omega
      refine vw_lv ?_ (ih (i + 1) (F - 1) (by omega) (by omega) (by omega) (by omega) (by omega))
      rw [← hx1]
      rfl
  have l52 : ∀ (i : Option SV) (F : Nat), 1023 ≤ F → F ≤ 1086 → F ≥ E → VW C 52 [some (xD y), none, some (xI bi), some (xI pl), some (xD (d64 F T)), none, some (xJ (Int64.ofInt (bi + (E : Int) - F))), none, i] [] u 0 0 := by
    intro i F h1 h2 h3
    refine r_iconst hC dX7_bitsOf_52 ?_
    refine r_istore (lv' := [_, _, _, _, _, _, _, _, _]) hC dX7_bitsOf_53 (lt_b rfl) rfl (lt_b rfl) rfl ?_
    exact l55 (F - 1023) 0 F rfl h1 h2 (by omega) (by omega)
  have l18 : ∀ (n : Nat) (i : Int) (F : Nat), 1023 - F = n → F ≤ 1023 → (F : Int) = E + i → 0 ≤ i → VW C 18 [some (xD y), none, some (xI bi), some (xI pl), some (xD (d64 F T)), none, some (xJ (Int64.ofInt (bi + (E : Int) - F))), none, some (xI i)] [] u 0 0 := by
    intro n
    induction n with
    | zero =>
      intro i F hn h1 h2 h3
      have hF : F = 1023 := by omega
      have q52 := l52 (some (xI i)) F (by omega) (by omega) (by omega)
      refine r_iload hC dX7_bitsOf_18 rfl ?_
      refine r_bipush hC dX7_bitsOf_20 (by rfl) ?_
      refine r_icmp_ge (t := 52) hC dX7_bitsOf_22 (by rfl) ⟨by omega, by omega⟩ ⟨by omega, by omega⟩ (fun h_22 => q52) (fun h_22 => ?_)
      refine r_dload hC dX7_bitsOf_25 rfl ?_
      refine r_dconst1 hC dX7_bitsOf_27 ?_
      rw [one_d]
      refine r_dcmp hC dX7_bitsOf_28 ?_
      have hc : 0 ≤ (Op.cmpValue (FP.dcmp (d64 F T) (d64 1023 0)) .g).toInt := by
        rcases (cm_k (E := F) (K := 1023) ⟨by omega, by omega⟩ hT (by decide)).2 (by omega) with q | q <;> rw [q] <;> decide
      exact r_if_ge (t := 52) hC dX7_bitsOf_29 (by rfl) (rg_toInt _) (fun h_29 => q52) (fun h_29 => absurd hc h_29)
    | succ n ih =>
      intro i F hn h1 h2 h3
      refine r_iload hC dX7_bitsOf_18 rfl ?_
      refine r_bipush hC dX7_bitsOf_20 (by rfl) ?_
      refine r_icmp_ge (t := 52) hC dX7_bitsOf_22 (by rfl) ⟨by omega, by omega⟩ ⟨by omega, by omega⟩ (fun h_22 => by omega) (fun h_22 => ?_)
      refine r_dload hC dX7_bitsOf_25 rfl ?_
      refine r_dconst1 hC dX7_bitsOf_27 ?_
      rw [one_d]
      refine r_dcmp hC dX7_bitsOf_28 ?_
      rw [(cm_k (E := F) (K := 1023) ⟨by omega, by omega⟩ hT (by decide)).1 (by omega)]
      refine r_if_ge (t := 52) hC dX7_bitsOf_29 (by rfl) (by decide) (fun h_29 => absurd h_29 (by decide)) (fun h_29 => ?_)
      refine r_dload hC dX7_bitsOf_32 rfl ?_
      refine r_ldc2d hC dX7_bitsOf_34 kd_X7_314 ?_
      rw [two_d]
      have hdv := mul_2 (E := F) (T := T) ⟨by omega, by omega⟩ hT
      refine r_dmul hC dX7_bitsOf_37 (by rw [hdv]; exact nn64 (by omega) hT) ?_
      rw [hdv]
      refine r_dstore (lv' := [_, _, _, _, _, _, _, _, _]) hC dX7_bitsOf_38 (lt_b rfl) rfl (lt_b rfl) rfl ?_
      refine r_lload hC dX7_bitsOf_40 rfl ?_
      refine r_lconst hC dX7_bitsOf_42 rfl ?_
      refine r_lsub hC dX7_bitsOf_43 ?_
      refine r_lstore (lv' := [_, _, _, _, _, _, _, _, _]) hC dX7_bitsOf_44 (lt_b rfl) rfl (lt_b rfl) rfl ?_
      refine r_iinc (lv' := [_, _, _, _, _, _, _, _, _]) hC dX7_bitsOf_46 rfl (lt_b rfl) rfl (lt_b rfl) rfl ?_
      refine r_goto (t := 18) hC dX7_bitsOf_49 (by rfl) ?_
      have hx1 : Int64.ofInt (bi + (E : Int) - F) - Int64.ofNat ((1 : Fin 2) : Nat) = Int64.ofInt (bi + (E : Int) - ((F + 1 : Nat) : Int)) := by
        rw [show Int64.ofNat ((1 : Fin 2) : Nat) = Int64.ofInt 1 from rfl, j_sub]
        congr 1
        omega
      refine vw_lv ?_ (ih (i + 1) (F + 1) (by omega) (by omega) (by omega) (by omega))
      rw [← hx1]
  subst hy
  refine r_dload_n hC dX7_bitsOf_0 rfl ?_
  refine r_dconst0 hC dX7_bitsOf_1 ?_
  refine r_dcmp hC dX7_bitsOf_2 ?_
  rw [cm_0 ⟨by omega, by omega⟩ hT]
  refine r_if_gt (t := 8) hC dX7_bitsOf_3 (by rfl) (by decide) (fun h_3 => ?_) (fun h_3 => absurd (by decide) h_3)
  refine r_dload_n hC dX7_bitsOf_8 rfl ?_
  refine r_dstore (lv' := [_, _, _, _, _, _, _, _, _]) hC dX7_bitsOf_9 (lt_b rfl) rfl (lt_b rfl) rfl ?_
  refine r_iload_n hC dX7_bitsOf_11 rfl ?_
  refine r_i2l hC dX7_bitsOf_12 ?_
  rw [i2j_eq ⟨by omega, by omega⟩]
  refine r_lstore (lv' := [_, _, _, _, _, _, _, _, _]) hC dX7_bitsOf_13 (lt_b rfl) rfl (lt_b rfl) rfl ?_
  refine r_iconst hC dX7_bitsOf_15 ?_
  refine r_istore (lv' := [_, _, _, _, _, _, _, _, _]) hC dX7_bitsOf_16 (lt_b rfl) rfl (lt_b rfl) rfl ?_
  have hst : Int64.ofInt bi = Int64.ofInt (bi + (E : Int) - E) := by congr 1; omega
  by_cases hE1 : E ≤ 1023
  · refine vw_lv ?_ (l18 (1023 - E) 0 E rfl hE1 (by omega) (by omega))
    rw [← hst]
  · have q52 := l52 (some (xI 0)) E (by omega) (by omega) (by omega)
    rw [← hst] at q52
    refine r_iload hC dX7_bitsOf_18 rfl ?_
    refine r_bipush hC dX7_bitsOf_20 (by rfl) ?_
    refine r_icmp_ge (t := 52) hC dX7_bitsOf_22 (by rfl) (by decide) (by decide) (fun h_22 => q52) (fun h_22 => ?_)
    refine r_dload hC dX7_bitsOf_25 rfl ?_
    refine r_dconst1 hC dX7_bitsOf_27 ?_
    rw [one_d]
    refine r_dcmp hC dX7_bitsOf_28 ?_
    have hc : 0 ≤ (Op.cmpValue (FP.dcmp (d64 E T) (d64 1023 0)) .g).toInt := by
      rcases (cm_k (E := E) (K := 1023) ⟨by omega, by omega⟩ hT (by decide)).2 (by omega) with q | q <;> rw [q] <;> decide
    exact r_if_ge (t := 52) hC dX7_bitsOf_29 (by rfl) (rg_toInt _) (fun h_29 => q52) (fun h_29 => absurd hc h_29)

set_option maxRecDepth 100000 in
theorem k_bits0 {l : Launch} {D : DD} (hfl : l.stackTraces = false) {u : Mem} {bi pl : Int} : CT l D yX7_bitsOf cX7_bitsOf 9 (some .long) rmX7_bitsOf [xD 0, xI bi, xI pl] u (RT (xJ 0) u) := by
  refine CT.of hfl (by decide) (le_b rfl) ?_
  intro C hC hR hL hDD hN
  have hfC : (cxL C).stackTraces = false := by rw [hL]; exact hfl
  show VW C 0 [some (xD 0), none, some (xI bi), some (xI pl), none, none, none, none, none] [] u 0 0
  refine r_dload_n hC dX7_bitsOf_0 rfl ?_
  refine r_dconst0 hC dX7_bitsOf_1 ?_
  refine r_dcmp hC dX7_bitsOf_2 ?_
  rw [show FP.dcmp 0 0 = some .eq from by decide +kernel]
  refine r_if_gt (t := 8) hC dX7_bitsOf_3 (by rfl) (by decide) (fun h_3 => absurd h_3 (by decide)) (fun h_3 => ?_)
  refine r_lconst hC dX7_bitsOf_6 rfl ?_
  refine r_lret hC hR dX7_bitsOf_7 (le_b rfl) (le_b rfl) ?_
  exact ⟨rfl, rfl⟩
/-- the bits of a share -/
theorem k_bitsD {l : Launch} {D : DD} (hfl : l.stackTraces = false) {u : Mem} {y : UInt64} (hy : Dn y) : CT l D yX7_bitsOf cX7_bitsOf 9 (some .long) rmX7_bitsOf [xD y, xI 1023, xI 52] u (RT (xJ y.toInt64) u) := by
  rcases hy with rfl | ⟨E, T, rfl, h1, h2⟩
  · exact k_bits0 hfl
  · have h := k_bits (D := D) (u := u) hfl (bi := 1023) (pl := 52) (by decide) (Or.inl rfl) (K := 1075) (by decide) l2d_52 (E := E) (T := T) rfl h1 h2
    have e := bits_d (E := E) (T := T) (by omega)
    rw [show (1023 : Int) + E - 1023 = E by omega, Nat.sub_self, Nat.pow_zero, Nat.div_one, e] at h
    exact h
theorem k_bitsF {l : Launch} {D : DD} (hfl : l.stackTraces = false) {u : Mem} {y : UInt32} (hy : Fn32 y) : CT l D yX7_bitsOf cX7_bitsOf 9 (some .long) rmX7_bitsOf [xD (FP.f2d y), xI 127, xI 23] u (RT (xJ (i2j (y.toInt32.toInt))) u) := by
  rcases hy with rfl | ⟨E, T, rfl, h1, h2⟩
  · rw [f2d_0]; exact k_bits0 hfl
  · rw [f2d_T ⟨by omega, by omega⟩ h2]
    have h := k_bits (D := D) (u := u) hfl (bi := 127) (pl := 23) (by decide) (Or.inr rfl) (K := 1046) (by decide) l2d_23 (E := E + 896) (T := T * 536870912) rfl (by omega) (by omega)
    have e := bits_f (E := E) (T := T) (by omega) h2
    rw [show (127 : Int) + ((E + 896 : Nat) : Int) - 1023 = E by omega, show T * 536870912 / 2 ^ (1075 - 1046) = T from Nat.mul_div_left T (by decide), e] at h
    exact h
theorem Fn32.nn2 {y : UInt32} (hy : Fn32 y) : vf_n64 (FP.f2d y) := by
  rcases hy with rfl | ⟨E, T, rfl, h1, h2⟩
  · rw [f2d_0]; exact nn64_0
  · rw [f2d_T ⟨by omega, by omega⟩ h2]; exact nn64 (by omega) (by omega)

