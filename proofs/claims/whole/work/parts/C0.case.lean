/-! ===== the law, case by case ===== -/
theorem lgc_self (j : Int64) : (lg_cmp j j).toInt = 0 := by unfold lg_cmp; simp
theorem sJ_at (u : Mem) (a : Nat) (k : Int) (j : Int64) : mJ (sJ u a k j) a k = j := by rw [mJ_sJ, if_pos ⟨rfl, rfl⟩]
theorem pass_0 {k : Int} (h : q_pass k = 0) : 1 ≤ k ∧ k ≤ 99 := by
  unfold q_pass at h
  by_cases z : 1 ≤ k ∧ k ≤ 99
  · exact z
  · rw [if_pos z] at h; cases h
theorem ifp_0 {k c w : Int} (h : q_ifp k c w = 0) : 1 ≤ k ∧ k ≤ 99 := by
  unfold q_ifp at h
  by_cases z1 : ¬ (0 ≤ c ∧ c ≤ 2)
  · rw [if_pos z1] at h; cases h
  · rw [if_neg z1] at h
    by_cases z : 1 ≤ k ∧ k ≤ 99
    · exact z
    · rw [if_pos (Or.inl z)] at h; cases h
theorem app_0 {n x : Int} (h : q_append n x = 0) : n ≠ 60 := by
  unfold q_append at h
  intro z
  by_cases z1 : ¬ (33 ≤ x ∧ x ≤ 126)
  · rw [if_pos z1] at h; cases h
  · rw [if_neg z1, if_pos z] at h; cases h
set_option maxRecDepth 100000 in
theorem c_begin {C : Cx} (hC : CxOK C cL_law RL room_1 9) (hfC : (cxL C).stackTraces = false) {v : Mem} {x m o sc L : Nat} {T : Int} (hLI : LI (cxD C) v x m o sc L T) {i : Int} (hi : 0 ≤ i ∧ i + 4 ≤ L) (hT : T + 1700 ≤ 2000000) {c z : Nat} (hc : c + 300 ≤ 601024) (hz : z + 4700 ≤ 7293034) {l5 l6 l7 l8 : Option SV} (kk : ∀ (w : Mem) (l5 l6 l7 l8 : Option SV), LI (cxD C) w x m o sc L (T + 1525) → VW C 1536 [some (xA sc), some (xA x), some (xA m), some (xA o), some (xI i), l5, l6, l7, l8] [] w (c + 300) (z + 4700)) : VW C 168 [some (xA sc), some (xA x), some (xA m), some (xA o), some (xI i), l5, l6, l7, l8] [] v c z := by
  obtain ⟨f, s, P, kp, K, b, n, hX, htx, hn, hRo, hRv, hst, hsm⟩ := hLI
  have hI := hX.2.2.1.2
  have hS := hX.2.2.1.1
  have hs6 := hX.2.2.2.1.2.1
  have rP : RF P := (rrv_rf hRv).2.1
  obtain ⟨og, hO, -⟩ := hS.r.2.2.2.2
  have hsc := hRo.2.1.2
  have hrq : rg (q_begin f) := by unfold q_begin; (repeat' split) <;> exact ⟨by decide, by decide⟩
  have tail : ∀ (w : Mem) (g1 : RW) (s1 : Int) (P1 : RW) (kp1 : Int) (K1 b1 : RW) (n1 : Nat) (T1 : Int), RX w x g1 s1 P1 kp1 K1 T1 → RXt w x b1 n1 → n1 ≤ 60 → RRo w x m o sc L → RRv w m f s P kp K b n → Sta (cxD C) w x → StaM (cxD C) w x → T1 ≤ T + 1525 → (∀ q, ((m ≤ q ∧ q < m + 8) ∨ q = o ∨ q = sc) → mI w q = mI v q) → ((q_begin f = 0 ∧ mJ w o 0 = i2j (m_free f) ∧ g1 = m_begins f ∧ s1 = m_savedN s ∧ P1 = m_saved P f s ∧ kp1 = kp ∧ K1 = K ∧ b1 = b ∧ (n1 : Int) = n) ∨ (q_begin f ≠ 0 ∧ g1 = f ∧ s1 = s ∧ P1 = P ∧ kp1 = kp ∧ K1 = K ∧ b1 = b ∧ (n1 : Int) = n)) → VW C 173 [some (xA sc), some (xA x), some (xA m), some (xA o), some (xI i), l5, l6, l7, l8] [xI (q_begin f)] w (c + rmL_begin.cells) (z + rmL_begin.slots) := by
    intro w g1 s1 P1 kp1 K1 b1 n1 T1 hXw htw hn1 how hvw hstw hsmw hT1 hm hq
    have hccw : c + rmL_begin.cells ≤ c + 300 := by show c + 146 ≤ c + 300; omega
    have hzzw : z + rmL_begin.slots ≤ z + 4700 := by show z + 2320 ≤ z + 4700; omega
    have hgq : q_begin f = 0 → RF (m_begins f) := fun z9 => by
      rcases hq with ⟨-, -, e1, -⟩ | ⟨h9, -⟩
      · rw [← e1]; exact hXw.2.2.1.2.rf
      · exact absurd z9 h9
    have hct := e_begin (l := cxL C) (D := cxD C) hfC how.1 hvw hs6 (fun z => hgq z)
    refine r_istore (lv' := [_, _, _, _, _, _, _, _, _]) hC dL_law_173 (lt_b rfl) rfl (lt_b rfl) rfl ?_
    refine r_aload_n hC dL_law_175 rfl ?_
    refine r_V0p (as := []) (u := w) hC dL_law_176 mi_X8_begin se_X8_begin ml_L_88 (rm := rmX8_begin) rfl how.1.o rfl rfl rfl rfl ⟨Nat.le_trans hccw hc, Nat.le_trans hzzw hz⟩ hct ?_ rfl
    rintro _ w2 ⟨hF8, hth, a, rfl, hcase⟩
    have hRv2 : RRv w2 m g1 s1 P1 kp1 K1 b1 n1 := by
      rcases hcase with ⟨z1, -, z2⟩ | ⟨z1, z2⟩
      · rcases hq with ⟨-, -, e1, e2, e3, e4, e5, e6, e7⟩ | ⟨y1, -⟩
        · rw [e1, e2, e3, e4, e5, e6, e7]; exact z2
        · exact absurd z1 y1
      · rcases hq with ⟨y1, -⟩ | ⟨-, e1, e2, e3, e4, e5, e6, e7⟩
        · exact absurd y1 z1
        · rw [e1, e2, e3, e4, e5, e6, e7]; exact z2
    have hLI2 : LI (cxD C) w2 x m o sc L (T + 1525) := LI.next hXw htw hn1 how hstw hsmw hF8 hRv2 hT1
    have how2 := how.fr hF8
    refine r_istore (lv' := [_, _, _, _, _, _, _, _, _]) hC dL_law_179 (lt_b rfl) rfl (lt_b rfl) rfl ?_
    refine r_aload_n hC dL_law_181 rfl ?_
    refine r_V0 hC dL_law_182 mi_X8_thrown se_X8_thrown ml_L_89 (rm := rmX8_thrown) rfl how2.1.o rfl rfl rfl rfl ⟨Nat.le_trans hccw hc, Nat.le_trans hzzw hz⟩ (e_thrown hfC how2.1) ?_ rfl
    rw [hth]
    refine r_iload hC dL_law_185 rfl ?_
    refine r_icmp_eq (t := 192) hC dL_law_187 (by rfl) hrq hrq (fun _ => ?_) (fun h => absurd rfl h)
    refine r_iload hC dL_law_192 rfl ?_
    refine r_if_ne (t := 209) hC dL_law_194 (by rfl) hrq (fun hne => ?_) (fun heq => ?_)
    · refine r_goto (t := 1536) hC dL_law_209 (by rfl) ?_
      exact vw_widen hccw hzzw (kk w2 _ _ _ _ hLI2)
    · have h0 : q_begin f = 0 := heq
      have hJ : mJ w2 o 0 = i2j (m_free f) := by
        rcases hq with ⟨-, e, -⟩ | ⟨y1, -⟩
        · rw [hF8.2.2.1]; exact e
        · exact absurd h0 y1
      have ha : a = m_free f := by
        rcases hcase with ⟨-, e, -⟩ | ⟨y1, -⟩
        · exact e
        · exact absurd h0 y1
      refine r_aload_n hC dL_law_197 rfl ?_
      refine r_iconst hC dL_law_198 ?_
      refine r_lald hC dL_law_199 how2.2.1.1 ⟨by decide, by decide⟩ ?_
      refine r_iload hC dL_law_200 rfl ?_
      refine r_i2l hC dL_law_202 ?_
      rw [hJ, ha]
      refine r_lcmp hC dL_law_203 ?_
      rw [lgc_self]
      refine r_if_eq (t := 209) hC dL_law_204 (by rfl) (by decide) (fun _ => ?_) (fun h => absurd rfl h)
      refine r_goto (t := 1536) hC dL_law_209 (by rfl) ?_
      exact vw_widen hccw hzzw (kk w2 _ _ _ _ hLI2)
  refine r_aload_n hC dL_law_168 rfl ?_
  refine r_aload_n hC dL_law_169 rfl ?_
  refine r_callH (as := [xA x, xA o]) hC dL_law_170 mh_begin sh_begin ml_L_83 (rm := rmL_begin) ⟨le_b rfl, le_b rfl⟩ rfl (le_b rfl) (by show c + 146 ≤ 601024; omega) (by show z + 2320 ≤ 7293034; omega) (h_begin hfC hX.1.1 (k_Rl_begin hfC hX rP hst) (by rintro r w ⟨rfl, h1, h2, h3⟩; exact ⟨⟨_, rfl⟩, by rw [(h2.2 o (hRo.2.2.1 o (Or.inr (Or.inl rfl)))).2.1]; exact hRo.2.1.1⟩)) ?_ rfl
  rintro _ w ⟨rfl, h⟩
  rcases h with ⟨q0, val, w1, hp, rfl⟩ | ⟨q0, n0, hn0, rfl⟩
  · obtain ⟨hv0, hX1, hk1, ht1⟩ := hp
    have hval : val = m_free f := Sum.inl.inj (Option.some.inj hv0)
    exact tail _ (m_begins f) (m_savedN s) (m_saved P f s) (kp) (K) (b) n (T) hX1.sJ (htx.tx ht1) hn (hRo.kp hk1).sJ (RRv.kp hRo hk1 hRv) (Sta.kp (w := w1) hst hX.2.1 hk1) (StaM.kp (w := w1) hsm hX.2.1 hk1) (by omega) (fun q hq => (hk1.2 q (hRo.2.2.1 q hq)).2.2.1) (Or.inl ⟨q0, by rw [hval]; exact sJ_at _ _ _ _, rfl, rfl, rfl, rfl, rfl, rfl, rfl⟩)
  · exact tail _ f s P kp K b n T (hX.wN hn0) htx hn (hRo.wN hn0) hRv hst hsm (by omega) (fun _ _ => rfl) (Or.inr ⟨q0, rfl, rfl, rfl, rfl, rfl, rfl, rfl⟩)
