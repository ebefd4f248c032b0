/-! ===== the law's cases without a helper ===== -/
theorem r_icmp_same {C : Cx} {cc : ByteArray} {own : String} {R : Room} {nL : Nat} (hC : CxOK C cc own R nL) {pc : Nat} {lv : LV} {st : List SV} {u : Mem} {c z : Nat} {i : Int} {off : Int} {t : Nat} (hd : decode cc pc = .ok (.if_icmp .eq off, 3)) (ht : (pc : Int) + off = (t : Int)) (kt : VW C t lv st u c z) : VW C pc lv (xI i :: xI i :: st) u c z := by
  obtain ⟨p, l, e, R, s, m, args, below, meth, cd, Q, D⟩ := C
  obtain ⟨hx, hb, hml, hown, hts, ⟨hK, hKX⟩, hR, hbs, hfl, hlk⟩ := hC
  intro H locs ls hu hS hl
  exact lv_icmp_eq hx hb hd ht (fun _ => kt H locs ls hu hS hl) (fun q => absurd rfl q)
theorem Dn.f2d {x : UInt32} (h : Fn32 x) : Dn (FP.f2d x) := by
  rcases h with rfl | ⟨E, T, rfl, h1, h2⟩
  · exact Or.inl f2d_0
  · exact Or.inr ⟨E + 896, T * 536870912, f2d_T ⟨by omega, by omega⟩ h2, by omega, by omega⟩
theorem RX.recp {u : Mem} {x : Nat} {f : RW} {s : Int} {P : RW} {kp : Int} {K g : RW} {T : Int} (h : RX u x f s P kp K T) (hg : RF g) : RX u x f s P kp (cp g K 1651) T := by
  obtain ⟨ho, hq, hS, hs, hk⟩ := h
  refine ⟨ho, hq, hS, hs, ?_⟩
  rcases hk with hk | ⟨k1, a, k2, k3, k4⟩
  · exact Or.inl hk
  · exact Or.inr ⟨k1, a, k2, rs_cg k3 k4 (cp_cg g K), inv_cg k4 (cp_cg g K) (rf_cp hg k4.rf _)⟩
set_option maxRecDepth 100000 in
theorem c_sweep {C : Cx} (hC : CxOK C cL_law RL room_1 9) (hfC : (cxL C).stackTraces = false) {v : Mem} {x m o sc L : Nat} {T : Int} (hLI : LI (cxD C) v x m o sc L T) {i : Int} (hi : 0 ≤ i ∧ i + 4 ≤ L) (hT : T + 1700 ≤ 2000000) {c z : Nat} (hc : c + 300 ≤ 601024) (hz : z + 4700 ≤ 7293034) {l5 l6 l7 l8 : Option SV} (kk : ∀ (w : Mem) (l5 l6 l7 l8 : Option SV), LI (cxD C) w x m o sc L (T + 1525) → VW C 1536 [some (xA sc), some (xA x), some (xA m), some (xA o), some (xI i), l5, l6, l7, l8] [] w (c + 300) (z + 4700)) : VW C 572 [some (xA sc), some (xA x), some (xA m), some (xA o), some (xI i), l5, l6, l7, l8] [] v c z := by
  obtain ⟨f, s, P, kp, K, b, n, hX, htx, hn, hRo, hRv, hst, hsm⟩ := hLI
  have hI := hX.2.2.1.2
  have hS := hX.2.2.1.1
  have hs6 := hX.2.2.2.1.2.1
  have rP : RF P := (rrv_rf hRv).2.1
  obtain ⟨og, hO, -⟩ := hS.r.2.2.2.2
  have hcR : c ≤ room_1.cells := by show c ≤ 601024; omega
  have hzR : z ≤ room_1.slots := by show z ≤ 7293034; omega
  refine r_aload_n hC dL_law_572 rfl ?_
  refine r_callV (as := []) hC dL_law_573 mi_X7_sweep se_X7_sweep ml_L_113 (rm := rmX7_sweep) ⟨le_b rfl, le_b rfl⟩ hX.1.1 rfl rfl rfl (le_b rfl) (by show c + 146 ≤ 601024; omega) (by show z + 2320 ≤ 7293034; omega) (k_Rl_sweep hfC hX rP hst) ?_ rfl
  rintro _ w ⟨rfl, hX1, hk1, ht1⟩
  have hccw : c + rmX7_sweep.cells ≤ c + 300 := by show c + 146 ≤ c + 300; omega
  have hzzw : z + rmX7_sweep.slots ≤ z + 4700 := by show z + 2320 ≤ z + 4700; omega
  have hXw := hX1
  have how := (hRo.kp hk1)
  have hvw := (RRv.kp hRo hk1 hRv)
  refine r_aload_n hC dL_law_576 rfl ?_
  refine r_V0p (as := []) (u := w) hC dL_law_577 mi_X8_sweep se_X8_sweep ml_L_116 (rm := rmX8_sweep) rfl how.1.o rfl rfl rfl rfl ⟨Nat.le_trans hccw hc, Nat.le_trans hzzw hz⟩ (e_sweep hfC how.1 hvw hs6 hI.co.1 (fun _ => hX1.2.2.1.2.rf)) ?_ rfl
  rintro _ w2 ⟨hF8, -, a, rfl, hcase⟩
  rcases hcase with ⟨-, rfl, hRv2⟩ | ⟨y1, -⟩
  rotate_left
  · exact absurd (by decide) y1
  refine r_icmp_same (t := 1536) hC dL_law_580 (by rfl) ?_
  exact vw_widen hccw hzzw (kk w2 _ _ _ _ (LI.next hXw (htx.tx ht1) hn how (Sta.kp (w := w) hst hX.2.1 hk1) (StaM.kp (w := w) hsm hX.2.1 hk1) hF8 hRv2 (by omega)))

set_option maxRecDepth 100000 in
theorem c_clearBuffer {C : Cx} (hC : CxOK C cL_law RL room_1 9) (hfC : (cxL C).stackTraces = false) {v : Mem} {x m o sc L : Nat} {T : Int} (hLI : LI (cxD C) v x m o sc L T) {i : Int} (hi : 0 ≤ i ∧ i + 4 ≤ L) (hT : T + 1700 ≤ 2000000) {c z : Nat} (hc : c + 300 ≤ 601024) (hz : z + 4700 ≤ 7293034) {l5 l6 l7 l8 : Option SV} (kk : ∀ (w : Mem) (l5 l6 l7 l8 : Option SV), LI (cxD C) w x m o sc L (T + 1525) → VW C 1536 [some (xA sc), some (xA x), some (xA m), some (xA o), some (xI i), l5, l6, l7, l8] [] w (c + 300) (z + 4700)) : VW C 709 [some (xA sc), some (xA x), some (xA m), some (xA o), some (xI i), l5, l6, l7, l8] [] v c z := by
  obtain ⟨f, s, P, kp, K, b, n, hX, htx, hn, hRo, hRv, hst, hsm⟩ := hLI
  have hI := hX.2.2.1.2
  have hS := hX.2.2.1.1
  have hs6 := hX.2.2.2.1.2.1
  have rP : RF P := (rrv_rf hRv).2.1
  obtain ⟨og, hO, -⟩ := hS.r.2.2.2.2
  have hcR : c ≤ room_1.cells := by show c ≤ 601024; omega
  have hzR : z ≤ room_1.slots := by show z ≤ 7293034; omega
  refine r_aload_n hC dL_law_709 rfl ?_
  refine r_V0p (as := []) (u := v) hC dL_law_710 mi_X7_clearBuffer se_X7_clearBuffer ml_L_123 (rm := rmX7_clearBuffer) rfl hX.1.1 rfl rfl rfl rfl ⟨hcR, hzR⟩ (k_Rl_clear hfC hX htx) ?_ rfl
  rintro _ w ⟨rfl, hX1, hk1, htx1⟩
  have hccw : c ≤ c + 300 := by omega
  have hzzw : z ≤ z + 4700 := by omega
  have hXw := hX1
  have how := (hRo.kp hk1)
  have hvw := (RRv.kp hRo hk1 hRv)
  refine r_aload_n hC dL_law_713 rfl ?_
  refine r_V0p (as := []) (u := w) hC dL_law_714 mi_X8_clearBuffer se_X8_clearBuffer ml_L_126 (rm := rmX8_clearBuffer) rfl how.1.o rfl rfl rfl rfl ⟨Nat.le_trans hccw hc, Nat.le_trans hzzw hz⟩ (e_clear hfC how.1 hvw) ?_ rfl
  rintro _ w2 ⟨hF8, -, a, rfl, hcase⟩
  rcases hcase with ⟨-, rfl, hRv2⟩ | ⟨y1, -⟩
  rotate_left
  · exact absurd (by decide) y1
  refine r_icmp_same (t := 1536) hC dL_law_717 (by rfl) ?_
  exact vw_widen hccw hzzw (kk w2 _ _ _ _ (LI.next hXw htx1 (by decide) how (Sta.kp (w := w) hst hX.2.1 hk1) (StaM.kp (w := w) hsm hX.2.1 hk1) hF8 hRv2 (by omega)))

set_option maxRecDepth 100000 in
theorem c_firstError {C : Cx} (hC : CxOK C cL_law RL room_1 9) (hfC : (cxL C).stackTraces = false) {v : Mem} {x m o sc L : Nat} {T : Int} (hLI : LI (cxD C) v x m o sc L T) {i : Int} (hi : 0 ≤ i ∧ i + 4 ≤ L) (hT : T + 1700 ≤ 2000000) {c z : Nat} (hc : c + 300 ≤ 601024) (hz : z + 4700 ≤ 7293034) {l5 l6 l7 l8 : Option SV} (kk : ∀ (w : Mem) (l5 l6 l7 l8 : Option SV), LI (cxD C) w x m o sc L (T + 1525) → VW C 1536 [some (xA sc), some (xA x), some (xA m), some (xA o), some (xI i), l5, l6, l7, l8] [] w (c + 300) (z + 4700)) : VW C 722 [some (xA sc), some (xA x), some (xA m), some (xA o), some (xI i), l5, l6, l7, l8] [] v c z := by
  obtain ⟨f, s, P, kp, K, b, n, hX, htx, hn, hRo, hRv, hst, hsm⟩ := hLI
  have hI := hX.2.2.1.2
  have hS := hX.2.2.1.1
  have hs6 := hX.2.2.2.1.2.1
  have rP : RF P := (rrv_rf hRv).2.1
  obtain ⟨og, hO, -⟩ := hS.r.2.2.2.2
  have hcR : c ≤ room_1.cells := by show c ≤ 601024; omega
  have hzR : z ≤ room_1.slots := by show z ≤ 7293034; omega
  refine r_aload_n hC dL_law_722 rfl ?_
  refine r_V0 hC dL_law_723 mi_X7_firstError se_X7_firstError ml_L_127 (rm := rmX7_firstError) rfl hX.1.1 rfl rfl rfl rfl ⟨hcR, hzR⟩ (k_Rl_first hfC hX htx hn (N0 := mI v (m + 6))) ?_ rfl
  have hccw : c ≤ c + 300 := by omega
  have hzzw : z ≤ z + 4700 := by omega
  have hXw := hX
  have how := hRo
  have hvw := hRv
  refine r_aload_n hC dL_law_726 rfl ?_
  refine r_V0p (as := []) (u := v) hC dL_law_727 mi_X8_firstError se_X8_firstError ml_L_130 (rm := rmX8_firstError) rfl how.1.o rfl rfl rfl rfl ⟨Nat.le_trans hccw hc, Nat.le_trans hzzw hz⟩ (e_first hfC how.1 hvw ⟨by omega, by omega⟩) ?_ rfl
  rintro _ w2 ⟨hF8, -, a, rfl, hcase⟩
  rcases hcase with ⟨-, rfl, hRv2⟩ | ⟨y1, -⟩
  rotate_left
  · exact absurd (by decide) y1
  refine r_icmp_same (t := 1536) hC dL_law_730 (by rfl) ?_
  exact vw_widen hccw hzzw (kk w2 _ _ _ _ (LI.next hXw htx hn how hst hsm hF8 hRv2 (by omega)))

set_option maxRecDepth 100000 in
theorem c_keep {C : Cx} (hC : CxOK C cL_law RL room_1 9) (hfC : (cxL C).stackTraces = false) {v : Mem} {x m o sc L : Nat} {T : Int} (hLI : LI (cxD C) v x m o sc L T) {i : Int} (hi : 0 ≤ i ∧ i + 4 ≤ L) (hT : T + 1700 ≤ 2000000) {c z : Nat} (hc : c + 300 ≤ 601024) (hz : z + 4700 ≤ 7293034) {l5 l6 l7 l8 : Option SV} (kk : ∀ (w : Mem) (l5 l6 l7 l8 : Option SV), LI (cxD C) w x m o sc L (T + 1525) → VW C 1536 [some (xA sc), some (xA x), some (xA m), some (xA o), some (xI i), l5, l6, l7, l8] [] w (c + 300) (z + 4700)) : VW C 779 [some (xA sc), some (xA x), some (xA m), some (xA o), some (xI i), l5, l6, l7, l8] [] v c z := by
  obtain ⟨f, s, P, kp, K, b, n, hX, htx, hn, hRo, hRv, hst, hsm⟩ := hLI
  have hI := hX.2.2.1.2
  have hS := hX.2.2.1.1
  have hs6 := hX.2.2.2.1.2.1
  have rP : RF P := (rrv_rf hRv).2.1
  obtain ⟨og, hO, -⟩ := hS.r.2.2.2.2
  have hcR : c ≤ room_1.cells := by show c ≤ 601024; omega
  have hzR : z ≤ room_1.slots := by show z ≤ 7293034; omega
  refine r_aload_n hC dL_law_779 rfl ?_
  refine r_callV (as := []) hC dL_law_780 mi_X7_keep se_X7_keep ml_L_134 (rm := rmX7_keep) ⟨le_b rfl, le_b rfl⟩ hX.1.1 rfl rfl rfl (le_b rfl) (by show c + 146 ≤ 601024; omega) (by show z + 2320 ≤ 7293034; omega) (k_Rl_keep hfC hX hst) ?_ rfl
  rintro _ w ⟨rfl, a9, hF9⟩
  have hk1 : Kp v w x := hF9.kp hX.2.1 (by decide)
  have hccw : c + rmX7_keep.cells ≤ c + 300 := by show c + 146 ≤ c + 300; omega
  have hzzw : z + rmX7_keep.slots ≤ z + 4700 := by show z + 2320 ≤ z + 4700; omega
  have hXw := ((hX.kept hF9 hI).recp (rrv_rf hRv).2.2.1)
  have how := (hRo.kp hk1)
  have hvw := (RRv.kp hRo hk1 hRv)
  refine r_aload_n hC dL_law_783 rfl ?_
  refine r_V0p (as := []) (u := w) hC dL_law_784 mi_X8_keep se_X8_keep ml_L_137 (rm := rmX8_keep) rfl how.1.o rfl rfl rfl rfl ⟨Nat.le_trans hccw hc, Nat.le_trans hzzw hz⟩ (e_keep hfC how.1 hvw) ?_ rfl
  rintro _ w2 ⟨hF8, -, a, rfl, hcase⟩
  rcases hcase with ⟨-, rfl, hRv2⟩ | ⟨y1, -⟩
  rotate_left
  · exact absurd (by decide) y1
  refine r_icmp_same (t := 1536) hC dL_law_787 (by rfl) ?_
  exact vw_widen hccw hzzw (kk w2 _ _ _ _ (LI.next hXw (htx.tx (hF9.tx hX.2.1.1)) hn how (Sta.kp (w := w) hst hX.2.1 hk1) (StaM.kp (w := w) hsm hX.2.1 hk1) hF8 hRv2 (by omega)))

set_option maxRecDepth 100000 in
theorem c_drainIn {C : Cx} (hC : CxOK C cL_law RL room_1 9) (hfC : (cxL C).stackTraces = false) {v : Mem} {x m o sc L : Nat} {T : Int} (hLI : LI (cxD C) v x m o sc L T) {i : Int} (hi : 0 ≤ i ∧ i + 4 ≤ L) (hT : T + 1700 ≤ 2000000) {c z : Nat} (hc : c + 300 ≤ 601024) (hz : z + 4700 ≤ 7293034) {l5 l6 l7 l8 : Option SV} (kk : ∀ (w : Mem) (l5 l6 l7 l8 : Option SV), LI (cxD C) w x m o sc L (T + 1525) → VW C 1536 [some (xA sc), some (xA x), some (xA m), some (xA o), some (xI i), l5, l6, l7, l8] [] w (c + 300) (z + 4700)) : VW C 1264 [some (xA sc), some (xA x), some (xA m), some (xA o), some (xI i), l5, l6, l7, l8] [] v c z := by
  obtain ⟨f, s, P, kp, K, b, n, hX, htx, hn, hRo, hRv, hst, hsm⟩ := hLI
  have hI := hX.2.2.1.2
  have hS := hX.2.2.1.1
  have hs6 := hX.2.2.2.1.2.1
  have rP : RF P := (rrv_rf hRv).2.1
  obtain ⟨og, hO, -⟩ := hS.r.2.2.2.2
  have hcR : c ≤ room_1.cells := by show c ≤ 601024; omega
  have hzR : z ≤ room_1.slots := by show z ≤ 7293034; omega
  refine r_aload_n hC dL_law_1264 rfl ?_
  refine r_callV (as := []) hC dL_law_1265 mi_X7_drainIn se_X7_drainIn ml_L_162 (rm := rmX7_drainIn) ⟨le_b rfl, le_b rfl⟩ hX.1.1 rfl rfl rfl (le_b rfl) (by show c + 146 ≤ 601024; omega) (by show z + 2320 ≤ 7293034; omega) (k_Rl_drainIn hfC hX hst (b := mI v (m + 7)) (rf_mI _ _) (by omega)) ?_ rfl
  rintro _ w ⟨rfl, hX1, hk1, ht1⟩
  have hccw : c + rmX7_drainIn.cells ≤ c + 300 := by show c + 146 ≤ c + 300; omega
  have hzzw : z + rmX7_drainIn.slots ≤ z + 4700 := by show z + 2320 ≤ z + 4700; omega
  have hXw := hX1
  have how := (hRo.kp hk1)
  have hvw := (RRv.kp hRo hk1 hRv)
  have h7w : mI w (m + 7) = mI v (m + 7) := (hk1.2 (m + 7) (hRo.2.2.1 (m + 7) (Or.inl ⟨by omega, by omega⟩))).2.2.1
  have hct := e_drainIn (l := cxL C) (D := cxD C) hfC how.1 hvw (pass_ok hI (rf_mI _ _) (by omega)) (fun k hk => (pass_inv hI (rf_mI _ _) k (by omega)).1.co.1) (pass_inv hI (rf_mI _ _) _ (by have := (m_drainK_le f (mI w (m + 7)) 300 0).2; unfold m_drainT; omega)).2.1
  rw [h7w] at hct
  refine r_aload_n hC dL_law_1268 rfl ?_
  refine r_V0p (as := []) (u := w) hC dL_law_1269 mi_X8_drainIn se_X8_drainIn ml_L_165 (rm := rmX8_drainIn) rfl how.1.o rfl rfl rfl rfl ⟨Nat.le_trans hccw hc, Nat.le_trans hzzw hz⟩ hct ?_ rfl
  rintro _ w2 ⟨hF8, -, a, rfl, hcase⟩
  rcases hcase with ⟨-, rfl, hRv2⟩ | ⟨y1, -⟩
  rotate_left
  · exact absurd (by decide) y1
  refine r_icmp_same (t := 1536) hC dL_law_1272 (by rfl) ?_
  exact vw_widen hccw hzzw (kk w2 _ _ _ _ (LI.next hXw (htx.tx ht1) hn how (Sta.kp (w := w) hst hX.2.1 hk1) (StaM.kp (w := w) hsm hX.2.1 hk1) hF8 hRv2 (by omega)))

set_option maxRecDepth 100000 in
theorem c_slowest {C : Cx} (hC : CxOK C cL_law RL room_1 9) (hfC : (cxL C).stackTraces = false) {v : Mem} {x m o sc L : Nat} {T : Int} (hLI : LI (cxD C) v x m o sc L T) {i : Int} (hi : 0 ≤ i ∧ i + 4 ≤ L) (hT : T + 1700 ≤ 2000000) {c z : Nat} (hc : c + 300 ≤ 601024) (hz : z + 4700 ≤ 7293034) {l5 l6 l7 l8 : Option SV} (kk : ∀ (w : Mem) (l5 l6 l7 l8 : Option SV), LI (cxD C) w x m o sc L (T + 1525) → VW C 1536 [some (xA sc), some (xA x), some (xA m), some (xA o), some (xI i), l5, l6, l7, l8] [] w (c + 300) (z + 4700)) : VW C 1425 [some (xA sc), some (xA x), some (xA m), some (xA o), some (xI i), l5, l6, l7, l8] [] v c z := by
  obtain ⟨f, s, P, kp, K, b, n, hX, htx, hn, hRo, hRv, hst, hsm⟩ := hLI
  have hI := hX.2.2.1.2
  have hS := hX.2.2.1.1
  have hs6 := hX.2.2.2.1.2.1
  have rP : RF P := (rrv_rf hRv).2.1
  obtain ⟨og, hO, -⟩ := hS.r.2.2.2.2
  have hcR : c ≤ room_1.cells := by show c ≤ 601024; omega
  have hzR : z ≤ room_1.slots := by show z ≤ 7293034; omega
  refine r_aload_n hC dL_law_1425 rfl ?_
  refine r_V0 hC dL_law_1426 mi_X7_slowest se_X7_slowest ml_L_172 (rm := rmX7_slowest) rfl hX.1.1 rfl rfl rfl rfl ⟨hcR, hzR⟩ (k_Rl_slowest hfC hX) ?_ rfl
  have hccw : c ≤ c + 300 := by omega
  have hzzw : z ≤ z + 4700 := by omega
  have hXw := hX
  have how := hRo
  have hvw := hRv
  refine r_aload_n hC dL_law_1429 rfl ?_
  refine r_V0p (as := []) (u := v) hC dL_law_1430 mi_X8_slowest se_X8_slowest ml_L_175 (rm := rmX8_slowest) rfl how.1.o rfl rfl rfl rfl ⟨Nat.le_trans hccw hc, Nat.le_trans hzzw hz⟩ (e_slowest hfC how.1 hvw hI.co.1) ?_ rfl
  rintro _ w2 ⟨hF8, -, a, rfl, hcase⟩
  rcases hcase with ⟨-, rfl, hRv2⟩ | ⟨y1, -⟩
  rotate_left
  · exact absurd (by decide) y1
  refine r_icmp_same (t := 1536) hC dL_law_1433 (by rfl) ?_
  exact vw_widen hccw hzzw (kk w2 _ _ _ _ (LI.next hXw htx hn how hst hsm hF8 hRv2 (by omega)))

set_option maxRecDepth 100000 in
theorem c_goodShare {C : Cx} (hC : CxOK C cL_law RL room_1 9) (hfC : (cxL C).stackTraces = false) {v : Mem} {x m o sc L : Nat} {T : Int} (hLI : LI (cxD C) v x m o sc L T) {i : Int} (hi : 0 ≤ i ∧ i + 4 ≤ L) (hT : T + 1700 ≤ 2000000) {c z : Nat} (hc : c + 300 ≤ 601024) (hz : z + 4700 ≤ 7293034) {l5 l6 l7 l8 : Option SV} (kk : ∀ (w : Mem) (l5 l6 l7 l8 : Option SV), LI (cxD C) w x m o sc L (T + 1525) → VW C 1536 [some (xA sc), some (xA x), some (xA m), some (xA o), some (xI i), l5, l6, l7, l8] [] w (c + 300) (z + 4700)) : VW C 1438 [some (xA sc), some (xA x), some (xA m), some (xA o), some (xI i), l5, l6, l7, l8] [] v c z := by
  obtain ⟨f, s, P, kp, K, b, n, hX, htx, hn, hRo, hRv, hst, hsm⟩ := hLI
  have hI := hX.2.2.1.2
  have hS := hX.2.2.1.1
  have hs6 := hX.2.2.2.1.2.1
  have rP : RF P := (rrv_rf hRv).2.1
  obtain ⟨og, hO, -⟩ := hS.r.2.2.2.2
  have hcR : c ≤ room_1.cells := by show c ≤ 601024; omega
  have hzR : z ≤ room_1.slots := by show z ≤ 7293034; omega
  refine r_aload_n hC dL_law_1438 rfl ?_
  refine r_V0 hC dL_law_1439 mi_X7_goodShare se_X7_goodShare ml_L_176 (rm := rmX7_goodShare) rfl hX.1.1 rfl rfl rfl rfl ⟨hcR, hzR⟩ (k_Rl_good hfC hX) ?_ rfl
  have hccw : c ≤ c + 300 := by omega
  have hzzw : z ≤ z + 4700 := by omega
  have hXw := hX
  have how := hRo
  have hvw := hRv
  have hD : Dn (m_good f) := good_D hI
  refine r_dstore (lv' := [_, _, _, _, _, _, _, _, _]) hC dL_law_1442 (lt_b rfl) rfl (lt_b rfl) rfl ?_
  refine r_aload_n hC dL_law_1444 rfl ?_
  refine r_V0p (as := []) (u := v) hC dL_law_1445 mi_X8_goodShare se_X8_goodShare ml_L_180 (rm := rmX8_goodShare) rfl how.1.o rfl rfl rfl rfl ⟨hcR, hzR⟩ (e_good hfC how.1 hvw hI) ?_ rfl
  rintro _ w2 ⟨rfl, hF8, hRv2⟩
  refine r_dstore (lv' := [_, _, _, _, _, _, _, _, _]) hC dL_law_1448 (lt_b rfl) rfl (lt_b rfl) rfl ?_
  refine r_dload hC dL_law_1450 rfl ?_
  refine r_dload hC dL_law_1452 rfl ?_
  refine r_dcmp hC dL_law_1454 ?_
  rw [hD.same]
  refine r_if_eq (t := 1476) hC dL_law_1455 (by rfl) (by decide) (fun _ => ?_) (fun h => absurd (by decide) h)
  refine r_goto (t := 1536) hC dL_law_1476 (by rfl) ?_
  exact vw_widen hccw hzzw (kk w2 _ _ _ _ (LI.next hXw htx hn how hst hsm hF8 hRv2 (by omega)))

set_option maxRecDepth 100000 in
theorem c_meanBatch {C : Cx} (hC : CxOK C cL_law RL room_1 9) (hfC : (cxL C).stackTraces = false) {v : Mem} {x m o sc L : Nat} {T : Int} (hLI : LI (cxD C) v x m o sc L T) {i : Int} (hi : 0 ≤ i ∧ i + 4 ≤ L) (hT : T + 1700 ≤ 2000000) {c z : Nat} (hc : c + 300 ≤ 601024) (hz : z + 4700 ≤ 7293034) {l5 l6 l7 l8 : Option SV} (kk : ∀ (w : Mem) (l5 l6 l7 l8 : Option SV), LI (cxD C) w x m o sc L (T + 1525) → VW C 1536 [some (xA sc), some (xA x), some (xA m), some (xA o), some (xI i), l5, l6, l7, l8] [] w (c + 300) (z + 4700)) : VW C 1479 [some (xA sc), some (xA x), some (xA m), some (xA o), some (xI i), l5, l6, l7, l8] [] v c z := by
  obtain ⟨f, s, P, kp, K, b, n, hX, htx, hn, hRo, hRv, hst, hsm⟩ := hLI
  have hI := hX.2.2.1.2
  have hS := hX.2.2.1.1
  have hs6 := hX.2.2.2.1.2.1
  have rP : RF P := (rrv_rf hRv).2.1
  obtain ⟨og, hO, -⟩ := hS.r.2.2.2.2
  have hcR : c ≤ room_1.cells := by show c ≤ 601024; omega
  have hzR : z ≤ room_1.slots := by show z ≤ 7293034; omega
  refine r_aload_n hC dL_law_1479 rfl ?_
  refine r_V0 hC dL_law_1480 mi_X7_meanBatch se_X7_meanBatch ml_L_181 (rm := rmX7_meanBatch) rfl hX.1.1 rfl rfl rfl rfl ⟨hcR, hzR⟩ (k_Rl_mean hfC hX) ?_ rfl
  have hccw : c ≤ c + 300 := by omega
  have hzzw : z ≤ z + 4700 := by omega
  have hXw := hX
  have how := hRo
  have hvw := hRv
  have hD : Dn (FP.f2d (m_mean f)) := Dn.f2d (mean_F hI)
  refine r_f2d hC dL_law_1483 hD.nn ?_
  refine r_dstore (lv' := [_, _, _, _, _, _, _, _, _]) hC dL_law_1484 (lt_b rfl) rfl (lt_b rfl) rfl ?_
  refine r_aload_n hC dL_law_1486 rfl ?_
  refine r_V0p (as := []) (u := v) hC dL_law_1487 mi_X8_meanBatch se_X8_meanBatch ml_L_185 (rm := rmX8_meanBatch) rfl how.1.o rfl rfl rfl rfl ⟨hcR, hzR⟩ (e_mean hfC how.1 hvw hI) ?_ rfl
  rintro _ w2 ⟨rfl, hF8, hRv2⟩
  refine r_f2d hC dL_law_1490 hD.nn ?_
  refine r_dstore (lv' := [_, _, _, _, _, _, _, _, _]) hC dL_law_1491 (lt_b rfl) rfl (lt_b rfl) rfl ?_
  refine r_dload hC dL_law_1493 rfl ?_
  refine r_dload hC dL_law_1495 rfl ?_
  refine r_dcmp hC dL_law_1497 ?_
  rw [hD.same]
  refine r_if_eq (t := 1519) hC dL_law_1498 (by rfl) (by decide) (fun _ => ?_) (fun h => absurd (by decide) h)
  refine r_goto (t := 1536) hC dL_law_1519 (by rfl) ?_
  exact vw_widen hccw hzzw (kk w2 _ _ _ _ (LI.next hXw htx hn how hst hsm hF8 hRv2 (by omega)))

set_option maxRecDepth 100000 in
theorem c_digest {C : Cx} (hC : CxOK C cL_law RL room_1 9) (hfC : (cxL C).stackTraces = false) {v : Mem} {x m o sc L : Nat} {T : Int} (hLI : LI (cxD C) v x m o sc L T) {i : Int} (hi : 0 ≤ i ∧ i + 4 ≤ L) (hT : T + 1700 ≤ 2000000) {c z : Nat} (hc : c + 300 ≤ 601024) (hz : z + 4700 ≤ 7293034) {l5 l6 l7 l8 : Option SV} (kk : ∀ (w : Mem) (l5 l6 l7 l8 : Option SV), LI (cxD C) w x m o sc L (T + 1525) → VW C 1536 [some (xA sc), some (xA x), some (xA m), some (xA o), some (xI i), l5, l6, l7, l8] [] w (c + 300) (z + 4700)) : VW C 1522 [some (xA sc), some (xA x), some (xA m), some (xA o), some (xI i), l5, l6, l7, l8] [] v c z := by
  obtain ⟨f, s, P, kp, K, b, n, hX, htx, hn, hRo, hRv, hst, hsm⟩ := hLI
  have hI := hX.2.2.1.2
  have hS := hX.2.2.1.1
  have hs6 := hX.2.2.2.1.2.1
  have rP : RF P := (rrv_rf hRv).2.1
  obtain ⟨og, hO, -⟩ := hS.r.2.2.2.2
  have hcR : c ≤ room_1.cells := by show c ≤ 601024; omega
  have hzR : z ≤ room_1.slots := by show z ≤ 7293034; omega
  refine r_aload_n hC dL_law_1522 rfl ?_
  refine r_callV (as := []) hC dL_law_1523 mi_X7_digest se_X7_digest ml_L_186 (rm := rmX7_digest) ⟨le_b rfl, le_b rfl⟩ hX.1.1 rfl rfl rfl (le_b rfl) (by show c + 292 ≤ 601024; omega) (by show z + 4640 ≤ 7293034; omega) (k_Rl_digest hfC hX hst (by omega) htx hn) ?_ rfl
  rintro _ w ⟨rfl, hX1, hk1, ht1⟩
  have hccw : c + rmX7_digest.cells ≤ c + 300 := by show c + 292 ≤ c + 300; omega
  have hzzw : z + rmX7_digest.slots ≤ z + 4700 := by show z + 4640 ≤ z + 4700; omega
  have hXw := hX1
  have how := (hRo.kp hk1)
  have hvw := (RRv.kp hRo hk1 hRv)
  refine r_aload_n hC dL_law_1526 rfl ?_
  refine r_V0p (as := []) (u := w) hC dL_law_1527 mi_X8_digest se_X8_digest ml_L_190 (rm := rmX8_digest) rfl how.1.o rfl rfl rfl rfl ⟨Nat.le_trans hccw hc, Nat.le_trans hzzw hz⟩ (e_digest hfC how.1 hvw ⟨by omega, by omega⟩ (dig_ok hS hI (by omega))) ?_ rfl
  rintro _ w2 ⟨rfl, hF8, hRv2⟩
  refine r_lcmp hC dL_law_1530 ?_
  rw [lgc_self]
  refine r_if_eq (t := 1536) hC dL_law_1531 (by rfl) (by decide) (fun _ => ?_) (fun h => absurd rfl h)
  exact vw_widen hccw hzzw (kk w2 _ _ _ _ (LI.next hXw (htx.tx ht1) hn how (Sta.kp (w := w) hst hX.2.1 hk1) (StaM.kp (w := w) hsm hX.2.1 hk1) hF8 hRv2 (by omega)))
