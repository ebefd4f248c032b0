/-! the methods of the relay that may throw -/
def xQ (u : Mem) (q : Int) (es : List String) : String → Mem → Prop := fun E w => (∃ i : Nat, q = (i : Int) + 1 ∧ es[i]? = some E) ∧ ∃ n, mN u ≤ n ∧ w = wN u n
def xP (q : Int) (P : Option SV → Mem → Prop) : Option SV → Mem → Prop := fun r w => q = 0 ∧ P r w
/-- what a method that saves leaves -/
def MutP (u : Mem) (x : Nat) (g : RW) (s : Int) (P f : RW) (kp : Int) (K : RW) (T v : Int) : Option SV → Mem → Prop := fun o w => o = some (xI v) ∧ RX w x g (m_savedN s) (m_saved P f s) kp K T ∧ Kp u w x ∧ TxS u w x
abbrev rmX7_begin : Room := { frames := 6, cells := 146, slots := 2320, locals := 127 }
set_option maxRecDepth 100000 in
theorem k_Rl_begin {l : Launch} {D : DD} (hfl : l.stackTraces = false) {u : Mem} {x : Nat} {f : RW} {s : Int} {P : RW} {kp : Int} {K : RW} {T : Int} (hX0 : RX u x f s P kp K T) (rP : RF P) (hst : Sta D u x) : CTX l D yX7_begin cX7_begin 2 (some .int) rmX7_begin [xA x] u (xP (q_begin f) (MutP u x (m_begins f) s P f kp K (T) (m_free f))) (xQ u (q_begin f) [xIS]) := by
  have hfr : -1 ≤ m_free f ∧ m_free f ≤ 3 := by
    rcases free_cases f with h | ⟨q, h1, h2, -⟩ <;> omega
  refine CTX.of hfl (by decide) (le_b rfl) ?_
  intro C hC hR hX hL hDD hN
  have hfC : (cxL C).stackTraces = false := by rw [hL]; exact hfl
  show VW C 0 [some (xA x), none] [] u 0 0
  refine r_aload_n hC dX7_begin_0 rfl ?_
  refine r_getR (j := 0) hC dX7_begin_1 fl_X7_10 rfl rfl hX0.1.1 hX0.1.2.1 ?_
  refine r_V0 hC dX7_begin_4 mi_X5_freePlace se_X5_freePlace ml_X7_37 (rm := rmX5_freePlace) rfl hX0.2.2.1.1.o.o rfl rfl rfl rfl ⟨le_b rfl, le_b rfl⟩ (k_St_free hfC hX0.2.2.1.1 hX0.2.2.1.2.b) ?_ rfl
  refine r_istore_n (lv' := [_, _]) hC dX7_begin_7 (lt_b rfl) rfl (lt_b rfl) rfl ?_
  refine r_iload_n hC dX7_begin_8 rfl ?_
  refine r_iconst hC dX7_begin_9 ?_
  refine r_icmp_ne (t := 23) hC dX7_begin_10 (by rfl) (by first | exact rg_mI _ _ _ | exact ⟨by omega, by omega⟩ | assumption) (by first | exact rg_mI _ _ _ | exact ⟨by omega, by omega⟩ | assumption) (fun h_10 => ?_) (fun h_10 => ?_)
  · skip
    refine r_aload_n hC dX7_begin_23 rfl ?_
    refine r_callV (as := []) hC dX7_begin_24 mi_X7_save se_X7_save ml_X7_48 (rm := rmX7_save) ⟨le_b rfl, le_b rfl⟩ hX0.1.1 rfl rfl rfl (le_b rfl) (le_b rfl) (le_b rfl) (k_Rl_save hfC hX0 rP (by rw [hDD]; exact hst)) ?_ rfl
    rintro _ w ⟨rfl, hX1, hk1, ht1⟩
    refine r_aload_n hC dX7_begin_27 rfl ?_
    refine r_getR (j := 0) hC dX7_begin_28 fl_X7_10 rfl rfl hX1.1.1 hX1.1.2.1 ?_
    refine r_iload_n hC dX7_begin_31 rfl ?_
    refine r_V0p (u := w) hC dX7_begin_32 mi_X5_openAt se_X5_openAt ml_X7_51 (rm := rmX5_openAt) rfl hX1.2.2.1.1.o.o rfl rfl rfl rfl ⟨le_b rfl, le_b rfl⟩ (k_St_openAt hfC hX1.2.2.1.1 hX1.2.2.1.2.b) ?_ rfl
    rintro _ w2 hp2
    have hne : m_free f ≠ -1 := h_10
    unfold OpenPost at hp2
    rw [if_neg hne] at hp2
    obtain ⟨rfl, hS2, hb2⟩ := hp2
    have hI2 := inv_begins hX1.2.2.1.2 hne
    obtain ⟨hX2, hk2, ht2⟩ := hX1.now hb2 hS2 hI2 (Int.le_refl _)
    refine r_pop hC dX7_begin_35 rfl ?_
    refine r_iload_n hC dX7_begin_36 rfl ?_
    refine r_iret hC hR dX7_begin_37 (le_b rfl) (le_b rfl) ?_
    exact ⟨by unfold q_begin; rw [if_neg hne], rfl, hX2, hk1.trans hk2, ht1.trans ht2⟩
  · skip
    refine r_throw hC hX 0 (lt_b rfl) tx_43 rfl dX7_begin_13 dX7_begin_16 dX7_begin_17 dX7_begin_19 dX7_begin_22 ⟨le_b rfl, le_b rfl⟩ (le_b rfl) (le_b rfl) (fun n hn => ?_)
    exact ⟨⟨0, by unfold q_begin; rw [if_pos (by omega)]; rfl, rfl⟩, n, hn, rfl⟩

abbrev rmX7_drop : Room := { frames := 6, cells := 146, slots := 2320, locals := 127 }
set_option maxRecDepth 100000 in
theorem k_Rl_drop {l : Launch} {D : DD} (hfl : l.stackTraces = false) {u : Mem} {x : Nat} {f : RW} {s : Int} {P : RW} {kp : Int} {K : RW} {T : Int} (hX0 : RX u x f s P kp K T) (rP : RF P) (hst : Sta D u x) {p : Int} (hp : rg p) : CTX l D yX7_drop cX7_drop 2 (some .int) rmX7_drop [xA x, xI p] u (xP (q_drop f p) (MutP u x (m_drops f p) s P f kp K (T) (m_dropsC f p))) (xQ u (q_drop f p) [xIO]) := by
  refine CTX.of hfl (by decide) (le_b rfl) ?_
  intro C hC hR hX hL hDD hN
  have hfC : (cxL C).stackTraces = false := by rw [hL]; exact hfl
  show VW C 0 [some (xA x), some (xI p)] [] u 0 0
  refine r_aload_n hC dX7_drop_0 rfl ?_
  refine r_getR (j := 0) hC dX7_drop_1 fl_X7_10 rfl rfl hX0.1.1 hX0.1.2.1 ?_
  refine r_iload_n hC dX7_drop_4 rfl ?_
  refine r_V0 hC dX7_drop_5 mi_X5_isOpen se_X5_isOpen ml_X7_55 (rm := rmX5_isOpen) rfl hX0.2.2.1.1.o.o rfl rfl rfl rfl ⟨le_b rfl, le_b rfl⟩ (k_St_isOpen hfC hX0.2.2.1.1 hX0.2.2.1.2.b hp) ?_ rfl
  refine r_bne (t := 21) hC dX7_drop_8 (by rfl) (fun h_8 => ?_) (fun h_8 => ?_)
  · skip
    refine r_aload_n hC dX7_drop_21 rfl ?_
    refine r_callV (as := []) hC dX7_drop_22 mi_X7_save se_X7_save ml_X7_48 (rm := rmX7_save) ⟨le_b rfl, le_b rfl⟩ hX0.1.1 rfl rfl rfl (le_b rfl) (le_b rfl) (le_b rfl) (k_Rl_save hfC hX0 rP (by rw [hDD]; exact hst)) ?_ rfl
    rintro _ w ⟨rfl, hX1, hk1, ht1⟩
    refine r_aload_n hC dX7_drop_25 rfl ?_
    refine r_getR (j := 0) hC dX7_drop_26 fl_X7_10 rfl rfl hX1.1.1 hX1.1.2.1 ?_
    refine r_iload_n hC dX7_drop_29 rfl ?_
    refine r_V0p (u := w) hC dX7_drop_30 mi_X5_dropAt se_X5_dropAt ml_X7_99 (rm := rmX5_dropAt) rfl hX1.2.2.1.1.o.o rfl rfl rfl rfl ⟨le_b rfl, le_b rfl⟩ (k_St_dropAt hfC hX1.2.2.1.1 hX1.2.2.1.2.b hp) ?_ rfl
    rintro _ w2 hp2
    have hop : m_open f p = true := h_8
    have hnf : ¬ m_open f p = false := by rw [hop]; decide
    unfold DropPost at hp2
    rw [if_pos hop] at hp2
    obtain ⟨rfl, hS2, hb2⟩ := hp2
    have hI2 := inv_drops hX1.2.2.1.2 p
    have hd : m_drops f p = up f (17 + 20 * p + 0) 0 := by unfold m_drops; rw [if_neg hnf]
    have hdc : m_dropsC f p = m_its f p 1 := by
      unfold m_dropsC
      rw [if_neg hnf, hd]
      unfold m_its
      exact up_n _ _ (by omega)
    rw [← hd] at hS2
    obtain ⟨hX2, hk2, ht2⟩ := hX1.now hb2 hS2 hI2 (Int.le_refl _)
    refine r_iret hC hR dX7_drop_33 (le_b rfl) (le_b rfl) ?_
    exact ⟨by unfold q_drop; rw [if_neg hnf], by rw [hdc], hX2, hk1.trans hk2, ht1.trans ht2⟩
  · skip
    refine r_throw hC hX 2 (lt_b rfl) tx_60 rfl dX7_drop_11 dX7_drop_14 dX7_drop_15 dX7_drop_17 dX7_drop_20 ⟨le_b rfl, le_b rfl⟩ (le_b rfl) (le_b rfl) (fun n hn => ?_)
    exact ⟨⟨0, by unfold q_drop; rw [if_pos (by simpa using h_8)]; rfl, rfl⟩, n, hn, rfl⟩

abbrev rmX7_commit : Room := { frames := 6, cells := 146, slots := 2320, locals := 127 }
set_option maxRecDepth 100000 in
theorem k_Rl_commit {l : Launch} {D : DD} (hfl : l.stackTraces = false) {u : Mem} {x : Nat} {f : RW} {s : Int} {P : RW} {kp : Int} {K : RW} {T : Int} (hX0 : RX u x f s P kp K T) (rP : RF P) (hst : Sta D u x) {p : Int} (hp : rg p) : CTX l D yX7_commit cX7_commit 2 (some .int) rmX7_commit [xA x, xI p] u (xP (q_commit f p) (MutP u x (m_commits f p) s P f kp K (T) (m_commitsC f p))) (xQ u (q_commit f p) [xIO, xIS]) := by
  refine CTX.of hfl (by decide) (le_b rfl) ?_
  intro C hC hR hX hL hDD hN
  have hfC : (cxL C).stackTraces = false := by rw [hL]; exact hfl
  show VW C 0 [some (xA x), some (xI p)] [] u 0 0
  refine r_aload_n hC dX7_commit_0 rfl ?_
  refine r_getR (j := 0) hC dX7_commit_1 fl_X7_10 rfl rfl hX0.1.1 hX0.1.2.1 ?_
  refine r_iload_n hC dX7_commit_4 rfl ?_
  refine r_V0 hC dX7_commit_5 mi_X5_isOpen se_X5_isOpen ml_X7_55 (rm := rmX5_isOpen) rfl hX0.2.2.1.1.o.o rfl rfl rfl rfl ⟨le_b rfl, le_b rfl⟩ (k_St_isOpen hfC hX0.2.2.1.1 hX0.2.2.1.2.b hp) ?_ rfl
  refine r_bne (t := 21) hC dX7_commit_8 (by rfl) (fun h_8 => ?_) (fun h_8 => ?_)
  · skip
    refine r_aload_n hC dX7_commit_21 rfl ?_
    refine r_getR (j := 0) hC dX7_commit_22 fl_X7_10 rfl rfl hX0.1.1 hX0.1.2.1 ?_
    refine r_iload_n hC dX7_commit_25 rfl ?_
    refine r_V0 hC dX7_commit_26 mi_X5_hasRoomToCommit se_X5_hasRoomToCommit ml_X7_81 (rm := rmX5_hasRoomToCommit) rfl hX0.2.2.1.1.o.o rfl rfl rfl rfl ⟨le_b rfl, le_b rfl⟩ (k_St_roomC hfC hX0.2.2.1.1 hX0.2.2.1.2.b hp) ?_ rfl
    refine r_bne (t := 42) hC dX7_commit_29 (by rfl) (fun h_29 => ?_) (fun h_29 => ?_)
    · skip
      refine r_aload_n hC dX7_commit_42 rfl ?_
      refine r_callV (as := []) hC dX7_commit_43 mi_X7_save se_X7_save ml_X7_48 (rm := rmX7_save) ⟨le_b rfl, le_b rfl⟩ hX0.1.1 rfl rfl rfl (le_b rfl) (le_b rfl) (le_b rfl) (k_Rl_save hfC hX0 rP (by rw [hDD]; exact hst)) ?_ rfl
      rintro _ w ⟨rfl, hX1, hk1, ht1⟩
      refine r_aload_n hC dX7_commit_46 rfl ?_
      refine r_getR (j := 0) hC dX7_commit_47 fl_X7_10 rfl rfl hX1.1.1 hX1.1.2.1 ?_
      refine r_iload_n hC dX7_commit_50 rfl ?_
      refine r_V0p (u := w) hC dX7_commit_51 mi_X5_commitAt se_X5_commitAt ml_X7_86 (rm := rmX5_commitAt) rfl hX1.2.2.1.1.o.o rfl rfl rfl rfl ⟨le_b rfl, le_b rfl⟩ (k_St_commitAt hfC hX1.2.2.1.1 hX1.2.2.1.2.b hX1.2.2.1.2.di hp h_29.1 h_29.2.1 h_29.2.2) ?_ rfl
      rintro _ w2 ⟨rfl, hS2, hb2⟩
      obtain ⟨hop, hkp, hco⟩ := h_29
      have hnf : ¬ m_open f p = false := by rw [hop]; decide
      have hI2 := inv_commits hX1.2.2.1.2 p
      have hcc : m_commitsC f p = m_kept (m_commits f p) := by
        unfold m_commitsC m_commits
        rw [if_neg hnf, if_neg (by omega), if_neg hnf, if_neg (by omega)]
      obtain ⟨hX2, hk2, ht2⟩ := hX1.now hb2 hS2 hI2 (Int.le_refl _)
      refine r_aload_n hC dX7_commit_54 rfl ?_
      refine r_getR (j := 0) hC dX7_commit_55 fl_X7_10 rfl rfl hX2.1.1 hX2.1.2.1 ?_
      refine r_getR (j := 2) hC dX7_commit_58 fl_X7_90 rfl rfl hS2.o.o hS2.o.p2 ?_
      refine r_getIv (j := 8) (v := m_kept (m_commits f p)) hC dX7_commit_61 fl_X7_94 rfl rfl hS2.o.r.o hS2.r.2.1 ?_
      refine r_iret hC hR dX7_commit_64 (le_b rfl) (le_b rfl) ?_
      exact ⟨by unfold q_commit; rw [if_neg hnf, if_neg (by omega)], by rw [hcc], hX2, hk1.trans hk2, ht1.trans ht2⟩
    · skip
      refine r_throw hC hX 0 (lt_b rfl) tx_84 rfl dX7_commit_32 dX7_commit_35 dX7_commit_36 dX7_commit_38 dX7_commit_41 ⟨le_b rfl, le_b rfl⟩ (le_b rfl) (le_b rfl) (fun n hn => ?_)
      have hop : m_open f p = true := h_8
      have hno : ¬ (m_kept f + m_its f p 1 ≤ 60 ∧ f 2 + m_its f p 1 ≤ 200) := fun h => h_29 ⟨hop, h.1, h.2⟩
      exact ⟨⟨1, by unfold q_commit; rw [if_neg (by rw [hop]; decide), if_pos (by omega)]; rfl, rfl⟩, n, hn, rfl⟩
  · skip
    refine r_throw hC hX 2 (lt_b rfl) tx_60 rfl dX7_commit_11 dX7_commit_14 dX7_commit_15 dX7_commit_17 dX7_commit_20 ⟨le_b rfl, le_b rfl⟩ (le_b rfl) (le_b rfl) (fun n hn => ?_)
    exact ⟨⟨0, by unfold q_commit; rw [if_pos (by simpa using h_8)]; rfl, rfl⟩, n, hn, rfl⟩

abbrev rmX7_write : Room := { frames := 6, cells := 146, slots := 2320, locals := 127 }
set_option maxRecDepth 100000 in
theorem k_Rl_write {l : Launch} {D : DD} (hfl : l.stackTraces = false) {u : Mem} {x : Nat} {f : RW} {s : Int} {P : RW} {kp : Int} {K : RW} {T : Int} (hX0 : RX u x f s P kp K T) (rP : RF P) (hst : Sta D u x) {p t v : Int} (hp : rg p) (ht : rg t) (hv : rg v) (hT : T + 1 ≤ 2000000) : CTX l D yX7_write cX7_write 4 (some .int) rmX7_write [xA x, xI p, xI t, xI v] u (xP (q_write f p t v) (MutP u x (m_writes f p t v) s P f kp K (T + 1) (m_writesC f p t v))) (xQ u (q_write f p t v) [xIO, xIA, xIS]) := by
  refine CTX.of hfl (by decide) (le_b rfl) ?_
  intro C hC hR hX hL hDD hN
  have hfC : (cxL C).stackTraces = false := by rw [hL]; exact hfl
  show VW C 0 [some (xA x), some (xI p), some (xI t), some (xI v)] [] u 0 0
  refine r_aload_n hC dX7_write_0 rfl ?_
  refine r_getR (j := 0) hC dX7_write_1 fl_X7_10 rfl rfl hX0.1.1 hX0.1.2.1 ?_
  refine r_iload_n hC dX7_write_4 rfl ?_
  refine r_V0 hC dX7_write_5 mi_X5_isOpen se_X5_isOpen ml_X7_55 (rm := rmX5_isOpen) rfl hX0.2.2.1.1.o.o rfl rfl rfl rfl ⟨le_b rfl, le_b rfl⟩ (k_St_isOpen hfC hX0.2.2.1.1 hX0.2.2.1.2.b hp) ?_ rfl
  refine r_bne (t := 21) hC dX7_write_8 (by rfl) (fun h_8 => ?_) (fun h_8 => ?_)
  · skip
    refine r_iload_n hC dX7_write_21 rfl ?_
    refine r_iconst hC dX7_write_22 ?_
    refine r_S0 hC dX7_write_23 mi_X7_isBelow ss_X7_isBelow ml_X7_63 (rm := rmX7_isBelow) rfl rfl rfl ⟨le_b rfl, le_b rfl⟩ (k_isBelow hfC ht ⟨by decide, by decide⟩) ?_ rfl
    refine r_beq (t := 38) hC dX7_write_26 (by rfl) (fun h_26 => ?_) (fun h_26 => ?_)
    · skip
      refine r_throw hC hX 1 (lt_b rfl) tx_69 rfl dX7_write_38 dX7_write_41 dX7_write_42 dX7_write_44 dX7_write_47 ⟨le_b rfl, le_b rfl⟩ (le_b rfl) (le_b rfl) (fun n hn => ?_)
      first
      | exact ⟨⟨1, by unfold q_write; rw [if_neg (by rw [show m_open f p = true from h_8]; decide), if_pos (fun h => h_26 ⟨h.1.1, by omega⟩)]; rfl, rfl⟩, n, hn, rfl⟩
      | exact ⟨⟨1, by unfold q_write; rw [if_neg (by rw [show m_open f p = true from h_8]; decide), if_pos (fun h => h_35 ⟨h.2.1, by omega⟩)]; rfl, rfl⟩, n, hn, rfl⟩
    · skip
      refine r_iload_n hC dX7_write_29 rfl ?_
      refine r_bipush hC dX7_write_30 (by rfl) ?_
      refine r_S0 hC dX7_write_32 mi_X7_isBelow ss_X7_isBelow ml_X7_63 (rm := rmX7_isBelow) rfl rfl rfl ⟨le_b rfl, le_b rfl⟩ (k_isBelow hfC hv ⟨by decide, by decide⟩) ?_ rfl
      refine r_bne (t := 48) hC dX7_write_35 (by rfl) (fun h_35 => ?_) (fun h_35 => ?_)
      · skip
        refine r_aload_n hC dX7_write_48 rfl ?_
        refine r_getR (j := 0) hC dX7_write_49 fl_X7_10 rfl rfl hX0.1.1 hX0.1.2.1 ?_
        refine r_iload_n hC dX7_write_52 rfl ?_
        refine r_V0 hC dX7_write_53 mi_X5_hasRoomToWrite se_X5_hasRoomToWrite ml_X7_72 (rm := rmX5_hasRoomToWrite) rfl hX0.2.2.1.1.o.o rfl rfl rfl rfl ⟨le_b rfl, le_b rfl⟩ (k_St_roomW hfC hX0.2.2.1.1 hX0.2.2.1.2.b hp) ?_ rfl
        refine r_bne (t := 69) hC dX7_write_56 (by rfl) (fun h_56 => ?_) (fun h_56 => ?_)
        · skip
          have hop : m_open f p = true := h_8
          have ht3 : 0 ≤ t ∧ t < 4 := h_26
          have hv9 : 0 ≤ v ∧ v < 100 := h_35
          have h6 : m_its f p 1 < 6 := h_56.2
          have hr1 : rg (f 1 + 1) := by
            have h1 := hX0.2.2.1.2.ti.2.1
            exact ⟨by omega, by omega⟩
          refine r_aload_n hC dX7_write_69 rfl ?_
          refine r_callV (as := []) hC dX7_write_70 mi_X7_save se_X7_save ml_X7_48 (rm := rmX7_save) ⟨le_b rfl, le_b rfl⟩ hX0.1.1 rfl rfl rfl (le_b rfl) (le_b rfl) (le_b rfl) (k_Rl_save hfC hX0 rP (by rw [hDD]; exact hst)) ?_ rfl
          rintro _ w ⟨rfl, hX1, hk1, ht1⟩
          refine r_aload_n hC dX7_write_73 rfl ?_
          refine r_getR (j := 0) hC dX7_write_74 fl_X7_10 rfl rfl hX1.1.1 hX1.1.2.1 ?_
          refine r_iload_n hC dX7_write_77 rfl ?_
          refine r_iload_n hC dX7_write_78 rfl ?_
          refine r_iload_n hC dX7_write_79 rfl ?_
          refine r_V0p (u := w) hC dX7_write_80 mi_X5_writeAt se_X5_writeAt ml_X7_77 (rm := rmX5_writeAt) rfl hX1.2.2.1.1.o.o rfl rfl rfl rfl ⟨le_b rfl, le_b rfl⟩ (k_St_writeAt hfC hX1.2.2.1.1 hX1.2.2.1.2.b hp hop h6 hr1 ⟨ht3.1, by omega⟩ ⟨hv9.1, by omega⟩) ?_ rfl
          rintro _ w2 ⟨rfl, hS2, hb2⟩
          have hI2 := inv_writes hX1.2.2.1.2 hT p t v
          have hnf : ¬ m_open f p = false := by rw [hop]; decide
          have hww : m_writes f p t v = m_writesR f p t v := by
            unfold m_writes
            rw [if_neg hnf, if_neg (fun h => h ⟨⟨ht3.1, by omega⟩, hv9.1, by omega⟩), if_neg (by omega)]
          have hwc : m_writesC f p t v = (m_writesR f p t v) 1 - 1 := by
            unfold m_writesC
            rw [if_neg hnf, if_neg (fun h => h ⟨⟨ht3.1, by omega⟩, hv9.1, by omega⟩), if_neg (by omega)]
          rw [← hww] at hS2
          obtain ⟨hX2, hk2, ht2⟩ := hX1.now hb2 hS2 hI2 (by omega)
          refine r_iret hC hR dX7_write_83 (le_b rfl) (le_b rfl) ?_
          exact ⟨by unfold q_write; rw [if_neg hnf, if_neg (fun h => h ⟨⟨ht3.1, by omega⟩, hv9.1, by omega⟩), if_neg (by omega)], by rw [hwc], hX2, hk1.trans hk2, ht1.trans ht2⟩
        · skip
          refine r_throw hC hX 0 (lt_b rfl) tx_75 rfl dX7_write_59 dX7_write_62 dX7_write_63 dX7_write_65 dX7_write_68 ⟨le_b rfl, le_b rfl⟩ (le_b rfl) (le_b rfl) (fun n hn => ?_)
          have hop : m_open f p = true := h_8
          have hn6 : ¬ m_its f p 1 < 6 := fun h => h_56 ⟨hop, h⟩
          have h66 := (hX0.2.2.1.2.b).pl
          obtain ⟨q, hq, rfl, hq1⟩ := open_nat hop
          have h67 := h66 q hq
          exact ⟨⟨2, by unfold q_write; rw [if_neg (by rw [hop]; decide), if_neg (fun h => h ⟨⟨h_26.1, by omega⟩, h_35.1, by omega⟩), if_pos (by have := h67.2.1.2; omega)]; rfl, rfl⟩, n, hn, rfl⟩
      · skip
        refine r_throw hC hX 1 (lt_b rfl) tx_69 rfl dX7_write_38 dX7_write_41 dX7_write_42 dX7_write_44 dX7_write_47 ⟨le_b rfl, le_b rfl⟩ (le_b rfl) (le_b rfl) (fun n hn => ?_)
        first
        | exact ⟨⟨1, by unfold q_write; rw [if_neg (by rw [show m_open f p = true from h_8]; decide), if_pos (fun h => h_26 ⟨h.1.1, by omega⟩)]; rfl, rfl⟩, n, hn, rfl⟩
        | exact ⟨⟨1, by unfold q_write; rw [if_neg (by rw [show m_open f p = true from h_8]; decide), if_pos (fun h => h_35 ⟨h.2.1, by omega⟩)]; rfl, rfl⟩, n, hn, rfl⟩
  · skip
    refine r_throw hC hX 2 (lt_b rfl) tx_60 rfl dX7_write_11 dX7_write_14 dX7_write_15 dX7_write_17 dX7_write_20 ⟨le_b rfl, le_b rfl⟩ (le_b rfl) (le_b rfl) (fun n hn => ?_)
    exact ⟨⟨0, by unfold q_write; rw [if_pos (by simpa using h_8)]; rfl, rfl⟩, n, hn, rfl⟩
