/-- the other two static rows of settings -/
def StaM (D : DD) (u : Mem) (x : Nat) : Prop := (D.2.2.2.2 1 < x ∧ mSh u (D.2.2.2.2 1) = some (.inr (9, 7)) ∧ ∀ i : Int, 0 ≤ i → i < 7 → mI u (D.2.2.2.2 1) i = s_least i) ∧ (D.2.2.2.2 2 < x ∧ mSh u (D.2.2.2.2 2) = some (.inr (9, 7)) ∧ ∀ i : Int, 0 ≤ i → i < 7 → mI u (D.2.2.2.2 2) i = s_most i)
theorem StaM.kp {D : DD} {u w : Mem} {x : Nat} (h : StaM D u x) (hq : RXq u x) (k : Kp u w x) : StaM D w x := by
  have hn := hq.1
  have g : ∀ a, a < x → mSh w a = mSh u a ∧ mI w a = mI u a := fun a ha => by
    obtain ⟨-, e1, e2, -⟩ := k.2 a ⟨by omega, by omega, fun i hi b hb => by have := (hq.2.1 i hi b hb).1; omega⟩
    exact ⟨e1, e2⟩
  obtain ⟨⟨h1, h2, h3⟩, h4, h5, h6⟩ := h
  exact ⟨⟨h1, (g _ h1).1.trans h2, fun i a b => by rw [(g _ h1).2]; exact h3 i a b⟩, h4, (g _ h4).1.trans h5, fun i a b => by rw [(g _ h4).2]; exact h6 i a b⟩
theorem s_least_rg (i : Int) : 0 ≤ s_least i ∧ s_least i ≤ 1 := by unfold s_least; split <;> omega
theorem s_most_rg (i : Int) : 1 ≤ s_most i ∧ s_most i ≤ 20 := by unfold s_most; (repeat' split) <;> omega
abbrev rmX7_isSettingValue : Room := { frames := 1, cells := 0, slots := 0, locals := 21 }
set_option maxRecDepth 100000 in
theorem k_isSet {l : Launch} {D : DD} (hfl : l.stackTraces = false) {u : Mem} {x : Nat} {i v : Int} (hi : rg i) (hv : rg v) (hM : StaM D u x) : CT l D yX7_isSettingValue cX7_isSettingValue 2 (some .boolean) rmX7_isSettingValue [xI i, xI v] u (RT (xI (bI ((0 ≤ i ∧ i ≤ 6) ∧ (s_least i ≤ v ∧ v ≤ s_most i) ∧ ¬ (i = 4 ∧ v = 1)))) u) := by
  refine CT.of hfl (by decide) (le_b rfl) ?_
  intro C hC hR hL hDD hN
  have hfC : (cxL C).stackTraces = false := by rw [hL]; exact hfl
  subst hDD
  show VW C 0 [some (xI i), some (xI v)] [] u 0 0
  have hl := s_least_rg i
  have hm := s_most_rg i
  refine r_iload_n hC dX7_isSettingValue_0 rfl ?_
  refine r_bipush hC dX7_isSettingValue_1 (by rfl) ?_
  refine r_S0 hC dX7_isSettingValue_3 mi_X7_isBelow ss_X7_isBelow ml_X7_63 (rm := rmX7_isBelow) rfl rfl rfl ⟨le_b rfl, le_b rfl⟩ (k_isBelow hfC hi ⟨by decide, by decide⟩) ?_ rfl
  refine r_beq (t := 27) hC dX7_isSettingValue_6 (by rfl) (fun h_6 => ?_) (fun h_6 => ?_)
  · skip
    refine r_iconst hC dX7_isSettingValue_27 ?_
    refine r_zret hC hR dX7_isSettingValue_28 (by first | exact Or.inl rfl | exact Or.inr rfl) (le_b rfl) (le_b rfl) ?_
    have hz : ¬ ((0 ≤ i ∧ i ≤ 6) ∧ (s_least i ≤ v ∧ v ≤ s_most i) ∧ ¬ (i = 4 ∧ v = 1)) := by omega
    exact ⟨by rw [bI, if_neg hz], rfl⟩
  · skip
    refine r_iload_n hC dX7_isSettingValue_9 rfl ?_
    refine r_getS (k := 1) hC dX7_isSettingValue_10 (lt_b rfl) fs_X7_316 ?_
    refine r_iload_n hC dX7_isSettingValue_13 rfl ?_
    refine r_ialdS hC dX7_isSettingValue_14 hM.1.2.1 ⟨by omega, by omega⟩ ?_
    rw [hM.1.2.2 i (by omega) (by omega)]
    refine r_icmp_lt (t := 27) hC dX7_isSettingValue_15 (by rfl) (by first | exact rg_mI _ _ _ | exact ⟨by omega, by omega⟩ | assumption) (by first | exact rg_mI _ _ _ | exact ⟨by omega, by omega⟩ | assumption) (fun h_15 => ?_) (fun h_15 => ?_)
    · skip
      refine r_iconst hC dX7_isSettingValue_27 ?_
      refine r_zret hC hR dX7_isSettingValue_28 (by first | exact Or.inl rfl | exact Or.inr rfl) (le_b rfl) (le_b rfl) ?_
      have hz : ¬ ((0 ≤ i ∧ i ≤ 6) ∧ (s_least i ≤ v ∧ v ≤ s_most i) ∧ ¬ (i = 4 ∧ v = 1)) := by omega
      exact ⟨by rw [bI, if_neg hz], rfl⟩
    · skip
      refine r_iload_n hC dX7_isSettingValue_18 rfl ?_
      refine r_getS (k := 2) hC dX7_isSettingValue_19 (lt_b rfl) fs_X7_319 ?_
      refine r_iload_n hC dX7_isSettingValue_22 rfl ?_
      refine r_ialdS hC dX7_isSettingValue_23 hM.2.2.1 ⟨by omega, by omega⟩ ?_
      rw [hM.2.2.2 i (by omega) (by omega)]
      refine r_icmp_le (t := 29) hC dX7_isSettingValue_24 (by rfl) (by first | exact rg_mI _ _ _ | exact ⟨by omega, by omega⟩ | assumption) (by first | exact rg_mI _ _ _ | exact ⟨by omega, by omega⟩ | assumption) (fun h_24 => ?_) (fun h_24 => ?_)
      · skip
        refine r_iload_n hC dX7_isSettingValue_29 rfl ?_
        refine r_iconst hC dX7_isSettingValue_30 ?_
        refine r_icmp_ne (t := 39) hC dX7_isSettingValue_31 (by rfl) (by first | exact rg_mI _ _ _ | exact ⟨by omega, by omega⟩ | assumption) (by first | exact rg_mI _ _ _ | exact ⟨by omega, by omega⟩ | assumption) (fun h_31 => ?_) (fun h_31 => ?_)
        · skip
          refine r_iconst hC dX7_isSettingValue_39 ?_
          refine r_goto (t := 44) hC dX7_isSettingValue_40 (by rfl) ?_
          refine r_zret hC hR dX7_isSettingValue_44 (by first | exact Or.inl rfl | exact Or.inr rfl) (le_b rfl) (le_b rfl) ?_
          first
          | (have hz : ((0 ≤ i ∧ i ≤ 6) ∧ (s_least i ≤ v ∧ v ≤ s_most i) ∧ ¬ (i = 4 ∧ v = 1)) := by omega
             exact ⟨by rw [bI, if_pos hz], rfl⟩)
          | (have hz : ¬ ((0 ≤ i ∧ i ≤ 6) ∧ (s_least i ≤ v ∧ v ≤ s_most i) ∧ ¬ (i = 4 ∧ v = 1)) := by omega
             exact ⟨by rw [bI, if_neg hz], rfl⟩)
        · skip
          refine r_iload_n hC dX7_isSettingValue_34 rfl ?_
          refine r_iconst hC dX7_isSettingValue_35 ?_
          refine r_icmp_eq (t := 43) hC dX7_isSettingValue_36 (by rfl) (by first | exact rg_mI _ _ _ | exact ⟨by omega, by omega⟩ | assumption) (by first | exact rg_mI _ _ _ | exact ⟨by omega, by omega⟩ | assumption) (fun h_36 => ?_) (fun h_36 => ?_)
          · skip
            refine r_iconst hC dX7_isSettingValue_43 ?_
            refine r_zret hC hR dX7_isSettingValue_44 (by first | exact Or.inl rfl | exact Or.inr rfl) (le_b rfl) (le_b rfl) ?_
            first
            | (have hz : ((0 ≤ i ∧ i ≤ 6) ∧ (s_least i ≤ v ∧ v ≤ s_most i) ∧ ¬ (i = 4 ∧ v = 1)) := by omega
               exact ⟨by rw [bI, if_pos hz], rfl⟩)
            | (have hz : ¬ ((0 ≤ i ∧ i ≤ 6) ∧ (s_least i ≤ v ∧ v ≤ s_most i) ∧ ¬ (i = 4 ∧ v = 1)) := by omega
               exact ⟨by rw [bI, if_neg hz], rfl⟩)
          · skip
            refine r_iconst hC dX7_isSettingValue_39 ?_
            refine r_goto (t := 44) hC dX7_isSettingValue_40 (by rfl) ?_
            refine r_zret hC hR dX7_isSettingValue_44 (by first | exact Or.inl rfl | exact Or.inr rfl) (le_b rfl) (le_b rfl) ?_
            first
            | (have hz : ((0 ≤ i ∧ i ≤ 6) ∧ (s_least i ≤ v ∧ v ≤ s_most i) ∧ ¬ (i = 4 ∧ v = 1)) := by omega
               exact ⟨by rw [bI, if_pos hz], rfl⟩)
            | (have hz : ¬ ((0 ≤ i ∧ i ≤ 6) ∧ (s_least i ≤ v ∧ v ≤ s_most i) ∧ ¬ (i = 4 ∧ v = 1)) := by omega
               exact ⟨by rw [bI, if_neg hz], rfl⟩)
      · skip
        refine r_iconst hC dX7_isSettingValue_27 ?_
        refine r_zret hC hR dX7_isSettingValue_28 (by first | exact Or.inl rfl | exact Or.inr rfl) (le_b rfl) (le_b rfl) ?_
        have hz : ¬ ((0 ≤ i ∧ i ≤ 6) ∧ (s_least i ≤ v ∧ v ≤ s_most i) ∧ ¬ (i = 4 ∧ v = 1)) := by omega
        exact ⟨by rw [bI, if_neg hz], rfl⟩

abbrev rmX7_set : Room := { frames := 6, cells := 146, slots := 2320, locals := 127 }
set_option maxRecDepth 100000 in
theorem k_Rl_set {l : Launch} {D : DD} (hfl : l.stackTraces = false) {u : Mem} {x : Nat} {f : RW} {s : Int} {P : RW} {kp : Int} {K : RW} {T : Int} (hX0 : RX u x f s P kp K T) (rP : RF P) (hst : Sta D u x) {i v : Int} (hi : rg i) (hv : rg v) (hM : StaM D u x) : CTX l D yX7_set cX7_set 4 (some .int) rmX7_set [xA x, xI i, xI v] u (xP (q_set f i v) (MutP u x (up f (10 + i) v) s P f kp K (T) (f (10 + i)))) (xQ u (q_set f i v) [xIO, xIA, xIS]) := by
  refine CTX.of hfl (by decide) (le_b rfl) ?_
  intro C hC hR hX hL hDD hN
  have hfC : (cxL C).stackTraces = false := by rw [hL]; exact hfl
  show VW C 0 [some (xA x), some (xI i), some (xI v), none] [] u 0 0
  refine r_iload_n hC dX7_set_0 rfl ?_
  refine r_bipush hC dX7_set_1 (by rfl) ?_
  refine r_S0 hC dX7_set_3 mi_X7_isBelow ss_X7_isBelow ml_X7_63 (rm := rmX7_isBelow) rfl rfl rfl ⟨le_b rfl, le_b rfl⟩ (k_isBelow hfC hi ⟨by decide, by decide⟩) ?_ rfl
  refine r_bne (t := 19) hC dX7_set_6 (by rfl) (fun h_6 => ?_) (fun h_6 => ?_)
  · skip
    refine r_iload_n hC dX7_set_19 rfl ?_
    refine r_iload_n hC dX7_set_20 rfl ?_
    refine r_S0 hC dX7_set_21 mi_X7_isSettingValue ss_X7_isSettingValue ml_X7_145 (rm := rmX7_isSettingValue) rfl rfl rfl ⟨le_b rfl, le_b rfl⟩ (k_isSet (u := u) (x := x) hfC hi hv (by rw [hDD]; exact hM)) ?_ rfl
    refine r_bne (t := 37) hC dX7_set_24 (by rfl) (fun h_24 => ?_) (fun h_24 => ?_)
    · skip
      have hok : (0 ≤ i ∧ i ≤ 6) ∧ (s_least i ≤ v ∧ v ≤ s_most i) ∧ ¬ (i = 4 ∧ v = 1) := h_24
      have h64 : (i = 0 → ¬ 0 < f 2) → VW C 64 [some (xA x), some (xI i), some (xI v), none] [] u 0 0 := by
        intro h0
        have hq0 : q_set f i v = 0 := by
          unfold q_set
          rw [if_neg (fun h => h hok.1), if_neg (fun h => h.elim (fun h => h hok.2.1) hok.2.2), if_neg (fun h => h0 h.1 h.2)]
        obtain ⟨k, hk0⟩ : ∃ k : Nat, i = k := ⟨i.toNat, by omega⟩
        refine r_aload_n hC dX7_set_64 rfl ?_
        refine r_callV (as := []) hC dX7_set_65 mi_X7_save se_X7_save ml_X7_48 (rm := rmX7_save) ⟨le_b rfl, le_b rfl⟩ hX0.1.1 rfl rfl rfl (le_b rfl) (le_b rfl) (le_b rfl) (k_Rl_save hfC hX0 rP (by rw [hDD]; exact hst)) ?_ rfl
        rintro _ w ⟨rfl, hX1, hk1, ht1⟩
        have hold : mI w (x + 1 + 1) i = f (10 + i) := by rw [hk0]; exact hX1.2.2.1.1.set (by omega)
        have hI2 := inv_set hX1.2.2.1.2 hq0
        have hS2 := rs_set hX1.2.2.1.1 hX1.2.2.1.2.b (s := k) (by omega) v (fun h => by have := hX1.2.2.1.2.co; have := h0 (by omega); have := hX1.2.2.1.2.b.co.1; omega)
        rw [← hk0] at hS2
        have hb2 : Blk w (sI w (x + 1 + 1) i v) (x + 1) := Fr.sI (Blk.refl w _) _ _ ⟨by omega, by omega⟩
        obtain ⟨hX2, hk2, ht2⟩ := hX1.now hb2 hS2 hI2 (Int.le_refl _)
        refine r_aload_n hC dX7_set_68 rfl ?_
        refine r_getR (j := 0) hC dX7_set_69 fl_X7_10 rfl rfl hX1.1.1 hX1.1.2.1 ?_
        refine r_getR (j := 0) hC dX7_set_72 fl_X7_155 rfl rfl hX1.2.2.1.1.o.o hX1.2.2.1.1.o.p0 ?_
        refine r_iload_n hC dX7_set_75 rfl ?_
        refine r_ialdv (v := f (10 + i)) hC dX7_set_76 hX1.2.2.1.1.o.a0 ⟨by omega, by omega⟩ hold ?_
        refine r_istore_n (lv' := [_, _, _, _]) hC dX7_set_77 (lt_b rfl) rfl (lt_b rfl) rfl ?_
        refine r_aload_n hC dX7_set_78 rfl ?_
        refine r_getR (j := 0) hC dX7_set_79 fl_X7_10 rfl rfl hX1.1.1 hX1.1.2.1 ?_
        refine r_getR (j := 0) hC dX7_set_82 fl_X7_155 rfl rfl hX1.2.2.1.1.o.o hX1.2.2.1.1.o.p0 ?_
        refine r_iload_n hC dX7_set_85 rfl ?_
        refine r_iload_n hC dX7_set_86 rfl ?_
        refine r_iast hC dX7_set_87 hX1.2.2.1.1.o.a0 ⟨by omega, by omega⟩ ?_
        refine r_iload_n hC dX7_set_88 rfl ?_
        refine r_iret hC hR dX7_set_89 (le_b rfl) (le_b rfl) ?_
        exact ⟨hq0, rfl, hX2, hk1.trans hk2, ht1.trans ht2⟩
      refine r_iload_n hC dX7_set_37 rfl ?_
      refine r_if_ne (t := 64) hC dX7_set_38 (by rfl) (by first | exact rg_mI _ _ _ | exact ⟨by omega, by omega⟩ | assumption) (fun h_38 => ?_) (fun h_38 => ?_)
      · skip
        exact h64 (by omega)
      · skip
        refine r_aload_n hC dX7_set_41 rfl ?_
        refine r_getR (j := 0) hC dX7_set_42 fl_X7_10 rfl rfl hX0.1.1 hX0.1.2.1 ?_
        refine r_getR (j := 2) hC dX7_set_45 fl_X7_90 rfl rfl hX0.2.2.1.1.o.o hX0.2.2.1.1.o.p2 ?_
        refine r_getIv (j := 7) (v := f 2) hC dX7_set_48 fl_X7_150 rfl rfl hX0.2.2.1.1.o.r.o hX0.2.2.1.1.r.1 ?_
        refine r_if_le (t := 64) hC dX7_set_51 (by rfl) (rf_at hX0.2.2.1.2.rf 2) (fun h_51 => ?_) (fun h_51 => ?_)
        · skip
          exact h64 (by omega)
        · skip
          refine r_throw hC hX 0 (lt_b rfl) tx_153 rfl dX7_set_54 dX7_set_57 dX7_set_58 dX7_set_60 dX7_set_63 ⟨le_b rfl, le_b rfl⟩ (le_b rfl) (le_b rfl) (fun n1 hn1 => ?_)
          exact ⟨⟨2, by unfold q_set; rw [if_neg (fun h => h hok.1), if_neg (fun h => h.elim (fun h => h hok.2.1) hok.2.2), if_pos ⟨by omega, by omega⟩]; rfl, rfl⟩, n1, hn1, rfl⟩
    · skip
      refine r_throw hC hX 1 (lt_b rfl) tx_148 rfl dX7_set_27 dX7_set_30 dX7_set_31 dX7_set_33 dX7_set_36 ⟨le_b rfl, le_b rfl⟩ (le_b rfl) (le_b rfl) (fun n1 hn1 => ?_)
      have hc3 : 0 ≤ i ∧ i < 7 := h_6
      have hnn : ¬ (s_least i ≤ v ∧ v ≤ s_most i) ∨ (i = 4 ∧ v = 1) := by
        by_cases h1 : s_least i ≤ v ∧ v ≤ s_most i
        · by_cases h2 : i = 4 ∧ v = 1
          · exact Or.inr h2
          · exact absurd ⟨⟨hc3.1, by omega⟩, h1, h2⟩ h_24
        · exact Or.inl h1
      exact ⟨⟨1, by unfold q_set; rw [if_neg (fun h => h ⟨by omega, by omega⟩), if_pos hnn]; rfl, rfl⟩, n1, hn1, rfl⟩
  · skip
    refine r_throw hC hX 2 (lt_b rfl) tx_143 rfl dX7_set_9 dX7_set_12 dX7_set_13 dX7_set_15 dX7_set_18 ⟨le_b rfl, le_b rfl⟩ (le_b rfl) (le_b rfl) (fun n1 hn1 => ?_)
    exact ⟨⟨0, by unfold q_set; rw [if_pos (fun h => h_6 ⟨h.1, by omega⟩)]; rfl, rfl⟩, n1, hn1, rfl⟩
