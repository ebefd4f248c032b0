/-! ===== the law: call by call, to the end ===== -/
set_option maxRecDepth 100000 in
theorem law_one {C : Cx} (hC : CxOK C cL_law RL room_1 9) (hfC : (cxL C).stackTraces = false) {v : Mem} {x m o sc L : Nat} {T : Int} (hLI : LI (cxD C) v x m o sc L T) {i : Int} (hi : 0 ≤ i ∧ i + 4 ≤ L) (hT : T + 1700 ≤ 2000000) {c z : Nat} (hc : c + 300 ≤ 601024) (hz : z + 4700 ≤ 7293034) {l5 l6 l7 l8 : Option SV} (kk : ∀ (w : Mem) (l5 l6 l7 l8 : Option SV), LI (cxD C) w x m o sc L (T + 1525) → VW C 1536 [some (xA sc), some (xA x), some (xA m), some (xA o), some (xI i), l5, l6, l7, l8] [] w (c + 300) (z + 4700)) : VW C 32 [some (xA sc), some (xA x), some (xA m), some (xA o), some (xI i), l5, l6, l7, l8] [] v c z := by
  have hsc : mSh v sc = some (Sum.inr (9, L)) := by
    obtain ⟨f, s, P, kp, K, b, n, hX, htx, hn, hRo, -⟩ := hLI
    exact hRo.2.1.2
  refine r_aload_n hC dL_law_32 rfl ?_
  refine r_iload hC dL_law_33 rfl ?_
  refine r_ialdS hC dL_law_35 hsc ⟨by omega, by omega⟩ ?_
  refine r_bipush hC dL_law_36 (by decide) ?_
  refine r_iand hC dL_law_38 ?_
  refine r_tb29 (td := 1536) (t0 := 168) (t1 := 212) (t2 := 292) (t3 := 348) (t4 := 404) (t5 := 472) (t6 := 528) (t7 := 572) (t8 := 585) (t9 := 653) (t10 := 709) (t11 := 722) (t12 := 735) (t13 := 779) (t14 := 792) (t15 := 836) (t16 := 880) (t17 := 948) (t18 := 1016) (t19 := 1084) (t20 := 1152) (t21 := 1208) (t22 := 1264) (t23 := 1277) (t24 := 1357) (t25 := 1425) (t26 := 1438) (t27 := 1479) (t28 := 1522) hC dL_law_39 (by rfl) (rg_and _ _) (by rfl) (by rfl) (by rfl) (by rfl) (by rfl) (by rfl) (by rfl) (by rfl) (by rfl) (by rfl) (by rfl) (by rfl) (by rfl) (by rfl) (by rfl) (by rfl) (by rfl) (by rfl) (by rfl) (by rfl) (by rfl) (by rfl) (by rfl) (by rfl) (by rfl) (by rfl) (by rfl) (by rfl) (by rfl) (by rfl) (fun _ => c_begin hC hfC hLI hi hT hc hz kk) (fun _ => c_write hC hfC hLI hi hT hc hz kk) (fun _ => c_commit hC hfC hLI hi hT hc hz kk) (fun _ => c_drop hC hfC hLI hi hT hc hz kk) (fun _ => c_want hC hfC hLI hi hT hc hz kk) (fun _ => c_pass hC hfC hLI hi hT hc hz kk) (fun _ => c_lose hC hfC hLI hi hT hc hz kk) (fun _ => c_sweep hC hfC hLI hi hT hc hz kk) (fun _ => c_set hC hfC hLI hi hT hc hz kk) (fun _ => c_append hC hfC hLI hi hT hc hz kk) (fun _ => c_clearBuffer hC hfC hLI hi hT hc hz kk) (fun _ => c_firstError hC hfC hLI hi hT hc hz kk) (fun _ => c_obey hC hfC hLI hi hT hc hz kk) (fun _ => c_keep hC hfC hLI hi hT hc hz kk) (fun _ => c_goBack hC hfC hLI hi hT hc hz kk) (fun _ => c_undo hC hfC hLI hi hT hc hz kk) (fun _ => c_row hC hfC hLI hi hT hc hz kk) (fun _ => c_transaction hC hfC hLI hi hT hc hz kk) (fun _ => c_receiver hC hfC hLI hi hT hc hz kk) (fun _ => c_message hC hfC hLI hi hT hc hz kk) (fun _ => c_count hC hfC hLI hi hT hc hz kk) (fun _ => c_setting hC hfC hLI hi hT hc hz kk) (fun _ => c_drainIn hC hfC hLI hi hT hc hz kk) (fun _ => c_ifPassed hC hfC hLI hi hT hc hz kk) (fun _ => c_skips hC hfC hLI hi hT hc hz kk) (fun _ => c_slowest hC hfC hLI hi hT hc hz kk) (fun _ => c_goodShare hC hfC hLI hi hT hc hz kk) (fun _ => c_meanBatch hC hfC hLI hi hT hc hz kk) (fun _ => c_digest hC hfC hLI hi hT hc hz kk) (fun _ => ?_)
  obtain ⟨f, s, P, kp, K, b, n, hX, htx, hn, hRo, hRv, hst, hsm⟩ := hLI
  exact vw_widen (Nat.le_add_right _ _) (Nat.le_add_right _ _) (kk v _ _ _ _ ⟨f, s, P, kp, K, b, n, hX.more (by omega), htx, hn, hRo, hRv, hst, hsm⟩)
set_option maxRecDepth 100000 in
theorem law_all {C : Cx} (hC : CxOK C cL_law RL room_1 9) (hfC : (cxL C).stackTraces = false) {x m o sc L : Nat} (hL : L ≤ 2048) (hend : ∀ (w : Mem) (lv : LV) (c z : Nat), c ≤ 601024 → z ≤ 7293034 → VW C 1543 lv [xI 1] w c z) (c0 z0 : Nat) (hc0 : c0 ≤ 400000) (hz0 : z0 ≤ 4000000) : ∀ (k j : Nat), L ≤ 4 * j + k → 4 * j ≤ L → ∀ (v : Mem) (l5 l6 l7 l8 : Option SV), LI (cxD C) v x m o sc L (1525 * (j : Int)) → VW C 23 [some (xA sc), some (xA x), some (xA m), some (xA o), some (xI (4 * (j : Int))), l5, l6, l7, l8] [] v (c0 + 300 * j) (z0 + 4700 * j) := by
  intro k
  induction k using Nat.strongRecOn with
  | ind k ih =>
    intro j hk hj v l5 l6 l7 l8 hLI
    have hsc : mSh v sc = some (Sum.inr (9, L)) := by
      obtain ⟨f, s, P, kp, K, b, n, hX, htx, hn, hRo, -⟩ := hLI
      exact hRo.2.1.2
    refine r_iload hC dL_law_23 rfl ?_
    refine r_aload_n hC dL_law_25 rfl ?_
    refine r_alenS hC dL_law_26 hsc ?_
    refine r_iconst hC dL_law_27 ?_
    refine r_isub hC dL_law_28 ?_
    refine r_icmp_gt (t := 1542) hC dL_law_29 (by rfl) ⟨by omega, by omega⟩ ⟨by omega, by omega⟩ (fun _ => ?_) (fun hn => ?_)
    · refine r_iconst hC dL_law_1542 ?_
      exact hend _ _ _ _ (by omega) (by omega)
    · refine law_one hC hfC hLI ⟨by omega, by omega⟩ (by omega) (by omega) (by omega) fun w q5 q6 q7 q8 hw => ?_
      refine r_iinc (lv' := [_, _, _, _, _, _, _, _, _]) hC dL_law_1536 rfl (lt_b rfl) rfl (lt_b rfl) rfl ?_
      refine r_goto (t := 23) hC dL_law_1539 (by rfl) ?_
      have h := ih (k - 4) (by omega) (j + 1) (by omega) (by omega) w q5 q6 q7 q8 (by rw [show (1525 : Int) * ((j + 1 : Nat) : Int) = 1525 * (j : Int) + 1525 by omega]; exact hw)
      rw [show (4 : Int) * ((j + 1 : Nat) : Int) = 4 * (j : Int) + 4 by omega, show c0 + 300 * (j + 1) = c0 + 300 * j + 300 by omega, show z0 + 4700 * (j + 1) = z0 + 4700 * j + 4700 by omega] at h
      exact h
