/-! ===== the law ===== -/
/-- what holds before the act k -/
def LI (D : DD) (w : Mem) (x sc L : Nat) (k : Int) (f : RW) (s : Int) (P K : RW) : Prop := RX w x f s P 0 K (99 * k) ∧ RF P ∧ Ew f (460 * k) ∧ Sta D w x ∧ StaM D w x ∧ Out w x sc ∧ mSh w sc = some (.inr (9, L))
theorem drainK_s (f b : RW) (n k : Nat) : m_drainK f b (n + 1) k = if m_drained (m_pass f b k).1 = true then k else m_drainK f b n (k + 1) := rfl
theorem drain_0 {f b : RW} (h2 : f 2 = 0) (h9 : f 9 = 0) : m_drainV f b = 0 ∧ m_far f = -1 := by
  have hr : ∀ c : Int, m_rows f c = 0 := fun c => by unfold m_rows; rw [h2]; rfl
  have hd : m_drained f = true := by unfold m_drained; rw [h9, hr, hr, hr]; rfl
  have ht : m_drainT f b = 0 := by
    unfold m_drainT
    exact (drainK_s f b 299 0).trans (if_pos hd)
  refine ⟨?_, ?_⟩
  · unfold m_drainV
    rw [ht]
    exact if_pos hd
  · have h1 : ∀ r : Int, m_far1 f r (-1) = -1 := fun r => by unfold m_far1; rw [hr, hr, if_pos rfl, if_neg (by decide)]
    unfold m_far
    simp only [m_farL]
    rw [h1, h1, h1]
set_option maxRecDepth 100000 in
theorem law_end {C : Cx} (hC : CxOK C cL_law RL room_1 4) (hfC : (cxL C).stackTraces = false) {x sc L : Nat} (hend : ∀ (w : Mem) (lv : LV) (c z : Nat), c ≤ 600130 → z ≤ 7301080 → VW C 162 lv [xI 1] w c z) {w : Mem} {f : RW} {s : Int} {P K : RW} {T : Int} (hX : RX w x f s P 0 K T) {c z : Nat} (hc : c ≤ 400000) (hz : z ≤ 4000000) (l2 l3 : Option SV) : VW C 104 [some (xA sc), some (xA x), l2, l3] [] w c z := by
  have hRc : 600130 ≤ room_1.cells := le_b rfl
  have hRz : 7301080 ≤ room_1.slots := le_b rfl
  have hR7 : 7 ≤ room_1.frames ∧ 120 ≤ room_1.locals := ⟨le_b rfl, le_b rfl⟩
  have hI := hX.2.2.1.2
  have hs6 := hX.2.2.2.1.2.1
  have p0 := (hI.pl 0 (by decide)).1
  have p1 := (hI.pl 1 (by decide)).1
  have p2 := (hI.pl 2 (by decide)).1
  have p3 := (hI.pl 3 (by decide)).1
  rw [show ((0 : Nat) : Int) = 0 from rfl] at p0
  rw [show ((1 : Nat) : Int) = 1 from rfl] at p1
  rw [show ((2 : Nat) : Int) = 2 from rfl] at p2
  rw [show ((3 : Nat) : Int) = 3 from rfl] at p3
  have ho : m_openOnes f = m_its f 0 0 + m_its f 1 0 + m_its f 2 0 + m_its f 3 0 := rfl
  have opn : ∀ (q q' cnt : Int) (n : Nat), q = n → q' = q + 1 → n < 4 → ∀ (c z : Nat), c ≤ 500000 → z ≤ 5000000 → VW C 108 [some (xA sc), some (xA x), some (xI (cnt + m_its f q 0)), some (xI q')] [] w (c + 1) (z + 6) → VW C 108 [some (xA sc), some (xA x), some (xI cnt), some (xI q)] [] w c z := by
    intro q q' cnt n hqn hq' hn c z hc hz kk
    subst hqn
    have hpl := hI.pl n hn
    by_cases ho : m_open f n = true
    · have h1 := (open_iff hn).mp ho
      refine r_iload_n hC dL_law_108 rfl ?_
      refine r_iconst hC dL_law_109 ?_
      refine r_icmp_ge (t := 136) hC dL_law_110 (by rfl) (by first | exact hI.rf _ | exact hI3.rf _ | exact rg_of hI3.rf _ _ | exact rg_mI _ _ _ | exact rg_way hI.rf _ _ | exact rg_of hI.rf _ _ | exact ⟨by omega, by omega⟩ | assumption) (by first | exact hI.rf _ | exact hI3.rf _ | exact rg_of hI3.rf _ _ | exact rg_mI _ _ _ | exact rg_way hI.rf _ _ | exact rg_of hI.rf _ _ | exact ⟨by omega, by omega⟩ | assumption) (fun h_110 => (by omega)) (fun h_110 => ?_)
      refine r_iload_n hC dL_law_113 rfl ?_
      refine r_aload_n hC dL_law_114 rfl ?_
      refine r_iload_n hC dL_law_115 rfl ?_
      refine r_iconst hC dL_law_116 ?_
      refine r_ltran hC hfC dL_law_117 ml_L_50 hR7 hX ⟨by omega, by omega⟩ ⟨by omega, by omega⟩ (tr_0 ho) (le_b rfl) (by omega) (by omega) ?_
      refine r_if_lt (t := 127) hC dL_law_120 (by rfl) (by first | exact hI.rf _ | exact hI3.rf _ | exact rg_of hI3.rf _ _ | exact rg_mI _ _ _ | exact rg_way hI.rf _ _ | exact rg_of hI.rf _ _ | exact ⟨by omega, by omega⟩ | assumption) (fun h_120 => (by omega)) (fun h_120 => ?_)
      refine r_iconst hC dL_law_123 ?_
      refine r_goto (t := 128) hC dL_law_124 (by rfl) ?_
      refine r_iadd hC dL_law_128 ?_
      refine r_istore_n (lv' := [_, _, _, _]) hC dL_law_129 (lt_b rfl) rfl (lt_b rfl) rfl ?_
      refine r_iinc (lv' := [_, _, _, _]) hC dL_law_130 rfl (lt_b rfl) rfl (lt_b rfl) rfl ?_
      refine r_goto (t := 108) hC dL_law_133 (by rfl) ?_
      rw [h1, hq'] at kk; exact kk
    · have ho2 : m_open f n = false := by cases y : m_open f n; rfl; exact absurd y ho
      have h1 : m_its f n 0 = 0 := hpl.1.resolve_right ((open_not hn).mp ho2)
      refine r_iload_n hC dL_law_108 rfl ?_
      refine r_iconst hC dL_law_109 ?_
      refine r_icmp_ge (t := 136) hC dL_law_110 (by rfl) (by first | exact hI.rf _ | exact hI3.rf _ | exact rg_of hI3.rf _ _ | exact rg_mI _ _ _ | exact rg_way hI.rf _ _ | exact rg_of hI.rf _ _ | exact ⟨by omega, by omega⟩ | assumption) (by first | exact hI.rf _ | exact hI3.rf _ | exact rg_of hI3.rf _ _ | exact rg_mI _ _ _ | exact rg_way hI.rf _ _ | exact rg_of hI.rf _ _ | exact ⟨by omega, by omega⟩ | assumption) (fun h_110 => (by omega)) (fun h_110 => ?_)
      refine r_iload_n hC dL_law_113 rfl ?_
      refine r_aload_n hC dL_law_114 rfl ?_
      refine r_iload_n hC dL_law_115 rfl ?_
      refine r_iconst hC dL_law_116 ?_
      refine r_ltran hC hfC dL_law_117 ml_L_50 hR7 hX ⟨by omega, by omega⟩ ⟨by omega, by omega⟩ (tr_no ho2 0) (le_b rfl) (by omega) (by omega) ?_
      refine r_if_lt (t := 127) hC dL_law_120 (by rfl) (by first | exact hI.rf _ | exact hI3.rf _ | exact rg_of hI3.rf _ _ | exact rg_mI _ _ _ | exact rg_way hI.rf _ _ | exact rg_of hI.rf _ _ | exact ⟨by omega, by omega⟩ | assumption) (fun h_120 => ?_) (fun h_120 => (by omega))
      refine r_iconst hC dL_law_127 ?_
      refine r_iadd hC dL_law_128 ?_
      refine r_istore_n (lv' := [_, _, _, _]) hC dL_law_129 (lt_b rfl) rfl (lt_b rfl) rfl ?_
      refine r_iinc (lv' := [_, _, _, _]) hC dL_law_130 rfl (lt_b rfl) rfl (lt_b rfl) rfl ?_
      refine r_goto (t := 108) hC dL_law_133 (by rfl) ?_
      rw [h1, hq'] at kk; exact kk
  refine r_iconst hC dL_law_104 ?_
  refine r_istore_n (lv' := [_, _, _, _]) hC dL_law_105 (lt_b rfl) rfl (lt_b rfl) rfl ?_
  refine r_iconst hC dL_law_106 ?_
  refine r_istore_n (lv' := [_, _, _, _]) hC dL_law_107 (lt_b rfl) rfl (lt_b rfl) rfl ?_
  refine opn 0 1 0 0 rfl rfl (by decide) _ _ (by omega) (by omega) (opn 1 2 _ 1 rfl rfl (by decide) _ _ (by omega) (by omega) (opn 2 3 _ 2 rfl rfl (by decide) _ _ (by omega) (by omega) (opn 3 4 _ 3 rfl rfl (by decide) _ _ (by omega) (by omega) ?_)))
  refine r_iload_n hC dL_law_108 rfl ?_
  refine r_iconst hC dL_law_109 ?_
  refine r_icmp_ge (t := 136) hC dL_law_110 (by rfl) (by first | exact hI.rf _ | exact hI3.rf _ | exact rg_of hI3.rf _ _ | exact rg_mI _ _ _ | exact rg_way hI.rf _ _ | exact rg_of hI.rf _ _ | exact ⟨by omega, by omega⟩ | assumption) (by first | exact hI.rf _ | exact hI3.rf _ | exact rg_of hI3.rf _ _ | exact rg_mI _ _ _ | exact rg_way hI.rf _ _ | exact rg_of hI.rf _ _ | exact ⟨by omega, by omega⟩ | assumption) (fun h_110 => ?_) (fun h_110 => (by omega))
  refine r_aload_n hC dL_law_136 rfl ?_
  refine r_bipush hC dL_law_137 (by rfl) ?_
  refine r_lcnt hC hfC dL_law_139 ml_L_9 hR7 hX ⟨by omega, by omega⟩ (show m_countV f s 10 = m_openOnes f from rfl) (le_b rfl) (by omega) (by omega) ?_
  refine r_iload_n hC dL_law_142 rfl ?_
  refine r_icmp_ne (t := 161) hC dL_law_143 (by rfl) (by first | exact hI.rf _ | exact hI3.rf _ | exact rg_of hI3.rf _ _ | exact rg_mI _ _ _ | exact rg_way hI.rf _ _ | exact rg_of hI.rf _ _ | exact ⟨by omega, by omega⟩ | assumption) (by first | exact hI.rf _ | exact hI3.rf _ | exact rg_of hI3.rf _ _ | exact rg_mI _ _ _ | exact rg_way hI.rf _ _ | exact rg_of hI.rf _ _ | exact ⟨by omega, by omega⟩ | assumption) (fun h_143 => (by omega)) (fun h_143 => ?_)
  refine r_aload_n hC dL_law_146 rfl ?_
  refine r_bipush hC dL_law_147 (by rfl) ?_
  refine r_lcnt hC hfC dL_law_149 ml_L_9 hR7 hX ⟨by omega, by omega⟩ (show m_countV f s 11 = s from rfl) (le_b rfl) (by omega) (by omega) ?_
  refine r_bipush hC dL_law_152 (by rfl) ?_
  refine r_icmp_gt (t := 161) hC dL_law_154 (by rfl) (by first | exact hI.rf _ | exact hI3.rf _ | exact rg_of hI3.rf _ _ | exact rg_mI _ _ _ | exact rg_way hI.rf _ _ | exact rg_of hI.rf _ _ | exact ⟨by omega, by omega⟩ | assumption) (by first | exact hI.rf _ | exact hI3.rf _ | exact rg_of hI3.rf _ _ | exact rg_mI _ _ _ | exact rg_way hI.rf _ _ | exact rg_of hI.rf _ _ | exact ⟨by omega, by omega⟩ | assumption) (fun h_154 => (by omega)) (fun h_154 => ?_)
  refine r_iconst hC dL_law_157 ?_
  refine r_goto (t := 162) hC dL_law_158 (by rfl) ?_
  exact hend _ _ _ _ (by omega) (by omega)
set_option maxRecDepth 100000 in
theorem law_loop {C : Cx} (hC : CxOK C cL_law RL room_1 4) (hfC : (cxL C).stackTraces = false) {x sc L : Nat} (hL : L ≤ 260) (hend : ∀ (w : Mem) (lv : LV) (c z : Nat), c ≤ 600130 → z ≤ 7301080 → VW C 162 lv [xI 1] w c z) {K : RW} : ∀ (d k : Nat), k + d = 70 → ∀ (w : Mem) (f : RW) (s : Int) (P : RW) (l3 : Option SV), LI (cxD C) w x sc L k f s P K → VW C 44 [some (xA sc), some (xA x), some (xI (k : Int)), l3] [] w (1000 + 3500 * k) (9000 + 21000 * k) := by
  have hRc : 600130 ≤ room_1.cells := le_b rfl
  have hRz : 7301080 ≤ room_1.slots := le_b rfl
  intro d
  induction d with
  | zero =>
    intro k hk w f s P l3 hLI
    refine r_iload_n hC dL_law_44 rfl ?_
    refine r_bipush hC dL_law_45 (by rfl) ?_
    refine r_icmp_ge (t := 104) hC dL_law_47 (by rfl) (by first | exact hI.rf _ | exact hI3.rf _ | exact rg_of hI3.rf _ _ | exact rg_mI _ _ _ | exact rg_way hI.rf _ _ | exact rg_of hI.rf _ _ | exact ⟨by omega, by omega⟩ | assumption) (by first | exact hI.rf _ | exact hI3.rf _ | exact rg_of hI3.rf _ _ | exact rg_mI _ _ _ | exact rg_way hI.rf _ _ | exact rg_of hI.rf _ _ | exact ⟨by omega, by omega⟩ | assumption) (fun h_47 => ?_) (fun h_47 => (by omega))
    exact law_end hC hfC hend (L := L) hLI.1 (by omega) (by omega) _ _
  | succ d ih =>
    intro k hk w f s P l3 ⟨hX, rP, hE, hst, hsm, hou, hsc⟩
    refine r_iload_n hC dL_law_44 rfl ?_
    refine r_bipush hC dL_law_45 (by rfl) ?_
    refine r_icmp_ge (t := 104) hC dL_law_47 (by rfl) (by first | exact hI.rf _ | exact hI3.rf _ | exact rg_of hI3.rf _ _ | exact rg_mI _ _ _ | exact rg_way hI.rf _ _ | exact rg_of hI.rf _ _ | exact ⟨by omega, by omega⟩ | assumption) (by first | exact hI.rf _ | exact hI3.rf _ | exact rg_of hI3.rf _ _ | exact rg_mI _ _ _ | exact rg_way hI.rf _ _ | exact rg_of hI.rf _ _ | exact ⟨by omega, by omega⟩ | assumption) (fun h_47 => (by omega)) (fun h_47 => ?_)
    refine r_aload_n hC dL_law_50 rfl ?_
    refine r_aload_n hC dL_law_51 rfl ?_
    refine r_iconst hC dL_law_52 ?_
    refine r_iconst hC dL_law_53 ?_
    refine r_iload_n hC dL_law_54 rfl ?_
    refine r_imul hC dL_law_55 ?_
    refine r_iadd hC dL_law_56 ?_
    refine r_callS (as := [xA sc, xI (1 + 2 * (k : Int))]) hC dL_law_57 mi_L_cell ss_L_cell ml_L_86 (rm := rmL_cell) ⟨le_b rfl, le_b rfl⟩ rfl (le_b rfl) (by show _ + 0 ≤ _; omega) (by show _ + 0 ≤ _; omega) (l_cell hfC hsc hL ⟨by omega, by omega⟩) ?_ rfl
    rintro _ _ ⟨⟨v1, rfl⟩, rfl⟩
    refine vw_widen (c' := 1000 + 3500 * k) (z' := 9000 + 21000 * k) (by show _ + 0 ≤ _; omega) (by show _ + 0 ≤ _; omega) ?_
    refine r_aload_n hC dL_law_60 rfl ?_
    refine r_iconst hC dL_law_61 ?_
    refine r_iconst hC dL_law_62 ?_
    refine r_iload_n hC dL_law_63 rfl ?_
    refine r_imul hC dL_law_64 ?_
    refine r_iadd hC dL_law_65 ?_
    refine r_callS (as := [xA sc, xI (2 + 2 * (k : Int))]) hC dL_law_66 mi_L_cell ss_L_cell ml_L_86 (rm := rmL_cell) ⟨le_b rfl, le_b rfl⟩ rfl (le_b rfl) (by show _ + 0 ≤ _; omega) (by show _ + 0 ≤ _; omega) (l_cell hfC hsc hL ⟨by omega, by omega⟩) ?_ rfl
    rintro _ _ ⟨⟨v2, rfl⟩, rfl⟩
    refine vw_widen (c' := 1000 + 3500 * k) (z' := 9000 + 21000 * k) (by show _ + 0 ≤ _; omega) (by show _ + 0 ≤ _; omega) ?_
    refine r_callS (as := [xA x, xI v1, xI v2]) hC dL_law_69 mi_L_act ss_L_act ml_L_93 (rm := rmL_act) ⟨le_b rfl, le_b rfl⟩ rfl (le_b rfl) (by show _ + 1300 ≤ _; omega) (by show _ + 8300 ≤ _; omega) (l_act hfC hX rP hst hsm hE (by omega) ⟨by omega, by omega⟩) ?_ rfl
    rintro _ w1 ⟨rfl, g, s1, P1, hX1, rP1, hE1, hk1⟩
    refine vw_widen (c' := 1000 + 3500 * k + 1300) (z' := 9000 + 21000 * k + 8300) (by show _ + 1300 ≤ _; omega) (by show _ + 8300 ≤ _; omega) ?_
    show VW C _ _ [xI 1] w1 _ _
    refine r_if_eq (t := 96) hC dL_law_72 (by rfl) (by first | exact hI.rf _ | exact hI3.rf _ | exact rg_of hI3.rf _ _ | exact rg_mI _ _ _ | exact rg_way hI.rf _ _ | exact rg_of hI.rf _ _ | exact ⟨by omega, by omega⟩ | assumption) (fun h_72 => (by omega)) (fun h_72 => ?_)
    refine r_aload_n hC dL_law_75 rfl ?_
    refine r_callS (as := [xA x]) hC dL_law_76 mi_L_ways ss_L_ways ml_L_97 (rm := rmL_ways) ⟨le_b rfl, le_b rfl⟩ rfl (le_b rfl) (by show _ + 500 ≤ _; omega) (by show _ + 3000 ≤ _; omega) (l_ways hfC hX1 hE1 (by omega)) ?_ rfl
    rintro _ w2 ⟨rfl, hX2, hk2⟩
    refine vw_widen (c' := 1000 + 3500 * k + 1800) (z' := 9000 + 21000 * k + 11300) (by show _ + 500 ≤ _; omega) (by show _ + 3000 ≤ _; omega) ?_
    show VW C _ _ [xI 1] w2 _ _
    refine r_if_eq (t := 96) hC dL_law_79 (by rfl) (by first | exact hI.rf _ | exact hI3.rf _ | exact rg_of hI3.rf _ _ | exact rg_mI _ _ _ | exact rg_way hI.rf _ _ | exact rg_of hI.rf _ _ | exact ⟨by omega, by omega⟩ | assumption) (fun h_79 => (by omega)) (fun h_79 => ?_)
    refine r_iload_n hC dL_law_82 rfl ?_
    refine r_iconst hC dL_law_83 ?_
    refine r_irem hC ⟨by omega, by omega⟩ ⟨by omega, by omega⟩ (by decide) dL_law_84 ?_
    have K98 : ∀ w3 : Mem, RX w3 x g s1 P1 0 K (99 * (k : Int) + 99) → Kp w2 w3 x → VW C 98 [some (xA sc), some (xA x), some (xI (k : Int)), l3] [] w3 (1000 + 3500 * k + 3400) (9000 + 21000 * k + 20700) := by
      intro w3 hX3 hk3
      have hkk := hk1.trans (hk2.trans hk3)
      obtain ⟨o1, o2, -⟩ := hkk.2 sc hou
      refine r_iinc (lv' := [_, _, _, _]) hC dL_law_98 rfl (lt_b rfl) rfl (lt_b rfl) rfl ?_
      refine r_goto (t := 44) hC dL_law_101 (by rfl) ?_
      rw [show (k : Int) + 1 = ((k + 1 : Nat) : Int) by omega]
      refine vw_widen (by omega) (by omega) (ih (k + 1) (by omega) w3 g s1 P1 l3 ⟨?_, rP1, ?_, hst.kp hX.2.1 hkk, hsm.kp hX.2.1 hkk, o1, o2.trans hsc⟩)
      · rw [show (99 : Int) * ((k + 1 : Nat) : Int) = 99 * (k : Int) + 99 by omega]; exact hX3
      · rw [show (460 : Int) * ((k + 1 : Nat) : Int) = 460 * (k : Int) + 460 by omega]; exact hE1
    have hmod : 0 ≤ (k : Int).tmod 2 ∧ (k : Int).tmod 2 ≤ 1 := by rw [Int.tmod_eq_emod_of_nonneg (by omega)]; omega
    refine r_iconst hC dL_law_85 ?_
    refine r_icmp_ne (t := 98) hC dL_law_86 (by rfl) (by first | exact hI.rf _ | exact hI3.rf _ | exact rg_of hI3.rf _ _ | exact rg_mI _ _ _ | exact rg_way hI.rf _ _ | exact rg_of hI.rf _ _ | exact ⟨by omega, by omega⟩ | assumption) (by first | exact hI.rf _ | exact hI3.rf _ | exact rg_of hI3.rf _ _ | exact rg_mI _ _ _ | exact rg_way hI.rf _ _ | exact rg_of hI.rf _ _ | exact ⟨by omega, by omega⟩ | assumption) (fun h_86 => ?_) (fun h_86 => ?_)
    · skip
      exact vw_widen (by omega) (by omega) (K98 w2 hX2 (Kp.refl w2 x))
    · skip
      refine r_aload_n hC dL_law_89 rfl ?_
      refine r_callS (as := [xA x]) hC dL_law_90 mi_L_rows ss_L_rows ml_L_100 (rm := rmL_rows) ⟨le_b rfl, le_b rfl⟩ rfl (le_b rfl) (by show _ + 1600 ≤ _; omega) (by show _ + 9400 ≤ _; omega) (l_rows hfC hX2 hE1 (by omega)) ?_ rfl
      rintro _ w3 ⟨rfl, hX3, hk3⟩
      refine vw_widen (c' := 1000 + 3500 * k + 3400) (z' := 9000 + 21000 * k + 20700) (by show _ + 1600 ≤ _; omega) (by show _ + 9400 ≤ _; omega) ?_
      show VW C _ _ [xI 1] w3 _ _
      refine r_if_ne (t := 98) hC dL_law_93 (by rfl) (by first | exact hI.rf _ | exact hI3.rf _ | exact rg_of hI3.rf _ _ | exact rg_mI _ _ _ | exact rg_way hI.rf _ _ | exact rg_of hI.rf _ _ | exact ⟨by omega, by omega⟩ | assumption) (fun h_93 => ?_) (fun h_93 => (by omega))
      exact K98 w3 hX3 hk3
set_option maxRecDepth 100000 in
theorem law_in {C : Cx} (hC : CxOK C cL_law RL room_1 4) (hfC : (cxL C).stackTraces = false) {u : Mem} {sc L : Nat} (hL : L ≤ 260) (hsc : mSh u sc = some (.inr (9, L))) (hlt : sc < mN u) (hst : Sta (cxD C) u (mN u)) (hsm : StaM (cxD C) u (mN u)) (hend : ∀ (w : Mem) (lv : LV) (c z : Nat), c ≤ 600130 → z ≤ 7301080 → VW C 162 lv [xI 1] w c z) : VW C 0 [some (xA sc), none, none, none] [] u 0 0 := by
  have hRc : 600130 ≤ room_1.cells := le_b rfl
  have hRz : 7301080 ≤ room_1.slots := le_b rfl
  obtain ⟨x, hx⟩ : ∃ x, x = mN u := ⟨_, rfl⟩
  rw [← hx] at hst hsm hlt
  refine r_new (ci := 7) (r := (RX7, TX7, 6)) hC dL_law_0 rfl cl_L_10 cn_X7 (mi_X7_init).1 (le_b rfl) (le_b rfl) (fun hz0 => ?_)
  rw [← hx]
  refine r_dup hC dL_law_3 rfl ?_
  have b1 : Bel u (nC u (some (.inl 7))) x := (Bel.refl u x).nC (by omega) _
  have hst1 : Sta (cxD C) (nC u (some (.inl 7))) x := by
    obtain ⟨h1, h2, h3⟩ := hst
    exact ⟨h1, by rw [(b1 _ h1).1]; exact h2, fun i hi => by rw [(b1 _ h1).2.1]; exact h3 i hi⟩
  refine r_callI (as := []) (a := x) hC dL_law_4 mi_X7_init si_X7_init rfl ml_L_85 (rm := rmX7_init) ⟨le_b rfl, le_b rfl⟩ rfl (le_b rfl) (le_b rfl) (le_b rfl) (n_Rl hfC (u := nC u (some (.inl 7))) (x := x) (by rw [mN_nC, hx]) (by rw [mSh_nC, if_pos hx]) hst1) ?_ rfl
  rintro _ w ⟨rfl, hX0, b2, hNw, ht0, -⟩
  have bu : Bel u w x := b1.trans b2 (Nat.le_refl _)
  have hX : RX w x m_row0 0 (fun _ => 0) 0 (fun _ => 0) 0 := hX0 _ _ _ (by decide)
  have rP : RF (fun _ => 0) := fun _ => rg_0
  have hst2 : Sta (cxD C) w x := by
    obtain ⟨h1, h2, h3⟩ := hst
    exact ⟨h1, by rw [(bu _ h1).1]; exact h2, fun i hi => by rw [(bu _ h1).2.1]; exact h3 i hi⟩
  have hsm2 : StaM (cxD C) w x := by
    obtain ⟨⟨h1, h2, h3⟩, h4, h5, h6⟩ := hsm
    exact ⟨⟨h1, by rw [(bu _ h1).1]; exact h2, fun i a b => by rw [(bu _ h1).2.1]; exact h3 i a b⟩, h4, by rw [(bu _ h4).1]; exact h5, fun i a b => by rw [(bu _ h4).2.1]; exact h6 i a b⟩
  have hsc2 : mSh w sc = some (.inr (9, L)) := by rw [(bu sc hlt).1]; exact hsc
  have hou : Out w x sc := ⟨by rw [hNw]; omega, by omega, fun i hi a ha => by have := (hX.2.1.2.1 i hi a ha).1; omega⟩
  have hf := row0_few
  refine vw_widen (c' := 200) (z' := 3000) (le_b rfl) (le_b rfl) ?_
  refine r_astore_n (lv' := [_, _, _, _]) hC dL_law_7 (lt_b rfl) rfl (lt_b rfl) rfl ?_
  refine r_aload_n hC dL_law_8 rfl ?_
  refine r_iconst hC dL_law_9 ?_
  refine r_aload_n hC dL_law_10 rfl ?_
  refine r_iconst hC dL_law_11 ?_
  refine r_callS (as := [xA sc, xI 0]) hC dL_law_12 mi_L_cell ss_L_cell ml_L_86 (rm := rmL_cell) ⟨le_b rfl, le_b rfl⟩ rfl (le_b rfl) (le_b rfl) (le_b rfl) (l_cell hfC hsc2 hL ⟨by omega, by omega⟩) ?_ rfl
  rintro _ _ ⟨⟨v1, rfl⟩, rfl⟩
  refine vw_widen (c' := 200) (z' := 3000) (le_b rfl) (le_b rfl) ?_
  refine r_iconst hC dL_law_15 ?_
  refine r_S0 hC dL_law_16 mi_L_low ss_L_low ml_L_47 (rm := rmL_low) rfl rfl rfl ⟨by omega, by omega⟩ (l_low hfC ⟨by decide, by decide⟩) ?_ rfl
  have hlw := low_rg v1 (n := 2) (by decide)
  obtain ⟨t, ht⟩ : ∃ t, t = m_low v1 2 := ⟨_, rfl⟩
  rw [← ht] at hlw ⊢
  refine r_mut hC (as := [xI 0, xI t]) dL_law_19 mi_X7_set se_X7_set ml_L_79 (rm := rmX7_set) ⟨le_b rfl, le_b rfl⟩ hX.1.1 rfl rfl (le_b rfl) (le_b rfl) (le_b rfl) (k_Rl_set hfC hX rP hst2 ⟨by omega, by omega⟩ ⟨by omega, by omega⟩ hsm2) ?_ (fun w3 hX3 hk3 => ?_) rfl
  · unfold q_set
    rw [if_neg (fun z => z (by omega)), if_neg (fun z => z.elim (fun y => y ⟨by unfold s_least; rw [if_pos (by omega)]; omega, by unfold s_most; rw [if_pos (by omega)]; omega⟩) (fun y => by omega)), if_neg (fun z => by have := hf.1.2.2.1; omega)]
  rw [show m_row0 (10 + 0) = 0 from hf.2.1]
  rw [show up m_row0 (10 + 0) t = up m_row0 10 t from rfl] at hX3
  have hE := first_e t
  have rP3 : RF (m_saved (fun _ => 0) m_row0 0) := rf_saved rP hX.2.2.1.2.rf 0
  have f2 : (up m_row0 10 t) 2 = 0 := (up_n _ _ (by decide)).trans hf.1.2.2.1
  have f9 : (up m_row0 10 t) 9 = 0 := (up_n _ _ (by decide)).trans hf.1.2.2.2.2.2.2.2.2
  generalize up m_row0 10 t = f at hX3 hE f2 f9 ⊢
  have hst3 := hst2.kp hX.2.1 hk3
  have hsm3 := hsm2.kp hX.2.1 hk3
  obtain ⟨o1, o2, -⟩ := hk3.2 sc hou
  obtain ⟨hdr, hfar⟩ := drain_0 (b := fun _ => 0) f2 f9
  refine vw_widen (c' := 400) (z' := 6000) (le_b rfl) (le_b rfl) ?_
  refine r_if_ne (t := 40) hC dL_law_22 (by rfl) (by first | exact hI.rf _ | exact hI3.rf _ | exact rg_of hI3.rf _ _ | exact rg_mI _ _ _ | exact rg_way hI.rf _ _ | exact rg_of hI.rf _ _ | exact ⟨by omega, by omega⟩ | assumption) (fun h_22 => (by omega)) (fun h_22 => ?_)
  refine r_aload_n hC dL_law_25 rfl ?_
  refine r_callV (as := []) hC dL_law_26 mi_X7_drainIn se_X7_drainIn ml_L_90 (rm := rmX7_drainIn) ⟨le_b rfl, le_b rfl⟩ hX3.1.1 rfl rfl rfl (le_b rfl) (le_b rfl) (le_b rfl) (k_Rl_drainIn hfC hX3 hst3 (b := fun _ => 0) rP (by decide)) ?_ rfl
  rintro _ w4 ⟨rfl, hX4, hk4, -⟩
  rw [hdr]
  obtain ⟨p1, p2, -⟩ := hk4.2 sc o1
  have hst4 := hst3.kp hX3.2.1 hk4
  have hsm4 := hsm3.kp hX3.2.1 hk4
  refine vw_widen (c' := 600) (z' := 9000) (le_b rfl) (le_b rfl) ?_
  show VW C _ _ [xI 0] w4 _ _
  refine r_if_ne (t := 40) hC dL_law_29 (by rfl) (by first | exact hI.rf _ | exact hI3.rf _ | exact rg_of hI3.rf _ _ | exact rg_mI _ _ _ | exact rg_way hI.rf _ _ | exact rg_of hI.rf _ _ | exact ⟨by omega, by omega⟩ | assumption) (fun h_29 => (by omega)) (fun h_29 => ?_)
  refine r_aload_n hC dL_law_32 rfl ?_
  refine r_V0 hC dL_law_33 mi_X7_slowest se_X7_slowest ml_L_31 (rm := rmX7_slowest) rfl hX4.1.1 rfl rfl rfl rfl ⟨le_b rfl, le_b rfl⟩ (k_Rl_slowest hfC hX4) ?_ rfl
  rw [hfar]
  refine r_iconst hC dL_law_36 ?_
  refine r_icmp_eq (t := 42) hC dL_law_37 (by rfl) (by first | exact hI.rf _ | exact hI3.rf _ | exact rg_of hI3.rf _ _ | exact rg_mI _ _ _ | exact rg_way hI.rf _ _ | exact rg_of hI.rf _ _ | exact ⟨by omega, by omega⟩ | assumption) (by first | exact hI.rf _ | exact hI3.rf _ | exact rg_of hI3.rf _ _ | exact rg_mI _ _ _ | exact rg_way hI.rf _ _ | exact rg_of hI.rf _ _ | exact ⟨by omega, by omega⟩ | assumption) (fun h_37 => ?_) (fun h_37 => (by omega))
  refine r_iconst hC dL_law_42 ?_
  refine r_istore_n (lv' := [_, _, _, _]) hC dL_law_43 (lt_b rfl) rfl (lt_b rfl) rfl ?_
  exact vw_widen (by omega) (by omega) (law_loop hC hfC hL hend 70 0 rfl w4 f _ _ none ⟨hX4, rP3, hE, hst4, hsm4, p1, p2.trans (o2.trans hsc2)⟩)
/-- from the entry, for every script of at most 260 ints, the law comes to its end with true -/
theorem whole_start {p : Program} {e : Env} {s : State} {m : MethodId} {below : List Frame} {meth : Method} {c : Code} (l : Launch) (hflags : l.flags = flags0) {b L : Nat} {xs : Nat → Int32} (hL : L ≤ 260) (C0 : lw_At p s m meth c b L xs) : W p l e room_1 s m #[Value.ref b] below meth c s.heap [] 0 0 (lw_Z below #[Value.ref b] s) (entryFrame m ([Value.ref b] : List Value).toArray 4) := by
  obtain ⟨hx, hb, hr, hml, hown, hts, hX, hbl, hlocks, hgv⟩ := id C0
  obtain ⟨D, u, hD1, hKD, hRel, hN, hsb, hSt⟩ := start_mem hts (flat_of_before _ hgv) hL hX hbl
  have hfl : l.stackTraces = false := by unfold Launch.stackTraces; rw [hflags]; decide +kernel
  have hl := lv_entry ([Value.ref b]) (n := 4) (Nat.le_of_ble_eq_true rfl)
  rw [lg_entry_eq]
  generalize (lg_sl ([Value.ref b]) ++ List.replicate (4 - (lg_sl ([Value.ref b])).length) Slot.unset).toArray = ls at hl ⊢
  have hC : CxOK (p, l, e, room_1, s, m, #[Value.ref b], below, meth, c, lw_Z below #[Value.ref b] s, D) cL_law RL room_1 4 := ⟨hx, hb, hml, hown, fun w hw => hts w (List.mem_filter.mp hw).1, hKD, rfl, by rw [hD1]; exact Nat.le_refl _, hfl, hlocks⟩
  have h := law_in hC hfl hL hsb (by rw [hN]; exact hbl) (hSt _ (by rw [hN]; exact Nat.le_refl _)).1 (hSt _ (by rw [hN]; exact Nat.le_refl _)).2 (fun w lv c' z' hc' hz' H locs ls hu hS hl => by
    refine W.widen hc' hz' ?_
    refine va_forget (fun q hq => by rw [← hD1]; exact hS.2.2 q hq) ?_
    exact lw_ret hx hb hr hlocks dL_law_162)
  exact h s.heap [] ls hRel va_S.rf (by rw [hml]; exact hl)
