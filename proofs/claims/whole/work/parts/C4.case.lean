set_option maxRecDepth 100000 in
theorem c_count {C : Cx} (hC : CxOK C cL_law RL room_1 9) (hfC : (cxL C).stackTraces = false) {v : Mem} {x m o sc L : Nat} {T : Int} (hLI : LI (cxD C) v x m o sc L T) {i : Int} (hi : 0 ≤ i ∧ i + 4 ≤ L) (hT : T + 1700 ≤ 2000000) {c z : Nat} (hc : c + 300 ≤ 601024) (hz : z + 4700 ≤ 7293034) {l5 l6 l7 l8 : Option SV} (kk : ∀ (w : Mem) (l5 l6 l7 l8 : Option SV), LI (cxD C) w x m o sc L (T + 1525) → VW C 1536 [some (xA sc), some (xA x), some (xA m), some (xA o), some (xI i), l5, l6, l7, l8] [] w (c + 300) (z + 4700)) : VW C 1152 [some (xA sc), some (xA x), some (xA m), some (xA o), some (xI i), l5, l6, l7, l8] [] v c z := by
  obtain ⟨f, s, P, kp, K, b, n, hX, htx, hn, hRo, hRv, hst, hsm⟩ := hLI
  have hI := hX.2.2.1.2
  have hS := hX.2.2.1.1
  have hs6 := hX.2.2.2.1.2.1
  have rP : RF P := (rrv_rf hRv).2.1
  obtain ⟨og, hO, -⟩ := hS.r.2.2.2.2
  have hsc := hRo.2.1.2
  obtain ⟨a1, ha1⟩ : ∃ a, a = mI v sc (i + 1) := ⟨_, rfl⟩
  have hr1 : rg a1 := by rw [ha1]; exact rg_mI _ _ _
  have hrq : rg (q_count a1) := by unfold q_count; (repeat' split) <;> exact ⟨by decide, by decide⟩
  have tail : ∀ (w : Mem) (g1 : RW) (s1 : Int) (P1 : RW) (kp1 : Int) (K1 b1 : RW) (n1 : Nat) (T1 : Int), RX w x g1 s1 P1 kp1 K1 T1 → RXt w x b1 n1 → n1 ≤ 60 → RRo w x m o sc L → RRv w m f s P kp K b n → Sta (cxD C) w x → StaM (cxD C) w x → T1 ≤ T + 1525 → (∀ q, ((m ≤ q ∧ q < m + 8) ∨ q = o ∨ q = sc) → mI w q = mI v q) → ((q_count a1 = 0 ∧ mJ w o 0 = i2j (m_countV f s a1) ∧ g1 = f ∧ s1 = s ∧ P1 = P ∧ kp1 = kp ∧ K1 = K ∧ b1 = b ∧ (n1 : Int) = n) ∨ (q_count a1 ≠ 0 ∧ g1 = f ∧ s1 = s ∧ P1 = P ∧ kp1 = kp ∧ K1 = K ∧ b1 = b ∧ (n1 : Int) = n)) → VW C 1163 [some (xA sc), some (xA x), some (xA m), some (xA o), some (xI i), l5, l6, l7, l8] [xI (q_count a1)] w (c + rmL_count.cells) (z + rmL_count.slots) := by
    intro w g1 s1 P1 kp1 K1 b1 n1 T1 hXw htw hn1 how hvw hstw hsmw hT1 hm hq
    have hccw : c + rmL_count.cells ≤ c + 300 := by show c + 1 ≤ c + 300; omega
    have hzzw : z + rmL_count.slots ≤ z + 4700 := by show z + 6 ≤ z + 4700; omega
    have hct : CT (cxL C) (cxD C) yX8_count cX8_count 2 (some .int) rmX8_count [xA m, xI a1] w (RT2 w m (q_count a1) (m_countV f s a1) f s P kp K b n f s P kp K b n) := (by have h := e_count (l := cxL C) (D := cxD C) hfC how.1 hvw hr1; rw [hvw.2.1] at h; exact h)
    refine r_istore (lv' := [_, _, _, _, _, _, _, _, _]) hC dL_law_1163 (lt_b rfl) rfl (lt_b rfl) rfl ?_
    refine r_aload_n hC dL_law_1165 rfl ?_
    refine r_aload_n hC dL_law_1166 rfl ?_
    refine r_iload hC dL_law_1167 rfl ?_
    refine r_iconst hC dL_law_1169 ?_
    refine r_iadd hC dL_law_1170 ?_
    refine r_ialdS hC dL_law_1171 how.2.1.2 ⟨by omega, by omega⟩ ?_
    rw [hm sc (Or.inr (Or.inr rfl)), ← ha1]
    refine r_V0p (as := [xI a1]) (u := w) hC dL_law_1172 mi_X8_count se_X8_count ml_L_158 (rm := rmX8_count) rfl how.1.o rfl rfl rfl rfl ⟨Nat.le_trans hccw hc, Nat.le_trans hzzw hz⟩ hct ?_ rfl
    rintro _ w2 ⟨hF8, hth, a, rfl, hcase⟩
    have hRv2 : RRv w2 m g1 s1 P1 kp1 K1 b1 n1 := by
      rcases hcase with ⟨z1, -, z2⟩ | ⟨z1, z2⟩
      · rcases hq with ⟨-, -, e1, e2, e3, e4, e5, e6, e7⟩ | ⟨y1, -⟩
        · rw [e1, e2, e3, e4, e5, e6, e7]; exact z2
        · exact absurd z1 y1
      · rcases hq with ⟨y1, -⟩ | ⟨-, e1, e2, e3, e4, e5, e6, e7⟩
        · exact absurd y1 z1
        · rw [e1, e2, e3, e4, e5, e6, e7]; exact z2
    have hLI2 : LI (cxD C) w2 x m o sc L (T + 1525) := LI.next hXw htw hn1 how hstw hsmw hF8 hRv2 hT1
    have how2 := how.fr hF8
    refine r_istore (lv' := [_, _, _, _, _, _, _, _, _]) hC dL_law_1175 (lt_b rfl) rfl (lt_b rfl) rfl ?_
    refine r_aload_n hC dL_law_1177 rfl ?_
    refine r_V0 hC dL_law_1178 mi_X8_thrown se_X8_thrown ml_L_89 (rm := rmX8_thrown) rfl how2.1.o rfl rfl rfl rfl ⟨Nat.le_trans hccw hc, Nat.le_trans hzzw hz⟩ (e_thrown hfC how2.1) ?_ rfl
    rw [hth]
    refine r_iload hC dL_law_1181 rfl ?_
    refine r_icmp_eq (t := 1188) hC dL_law_1183 (by rfl) hrq hrq (fun _ => ?_) (fun h => absurd rfl h)
    refine r_iload hC dL_law_1188 rfl ?_
    refine r_if_ne (t := 1205) hC dL_law_1190 (by rfl) hrq (fun hne => ?_) (fun heq => ?_)
    · refine r_goto (t := 1536) hC dL_law_1205 (by rfl) ?_
      exact vw_widen hccw hzzw (kk w2 _ _ _ _ hLI2)
    · have h0 : q_count a1 = 0 := heq
      have hJ : mJ w2 o 0 = i2j (m_countV f s a1) := by
        rcases hq with ⟨-, e, -⟩ | ⟨y1, -⟩
        · rw [hF8.2.2.1]; exact e
        · exact absurd h0 y1
      have ha : a = m_countV f s a1 := by
        rcases hcase with ⟨-, e, -⟩ | ⟨y1, -⟩
        · exact e
        · exact absurd h0 y1
      refine r_aload_n hC dL_law_1193 rfl ?_
      refine r_iconst hC dL_law_1194 ?_
      refine r_lald hC dL_law_1195 how2.2.1.1 ⟨by decide, by decide⟩ ?_
      refine r_iload hC dL_law_1196 rfl ?_
      refine r_i2l hC dL_law_1198 ?_
      rw [hJ, ha]
      refine r_lcmp hC dL_law_1199 ?_
      rw [lgc_self]
      refine r_if_eq (t := 1205) hC dL_law_1200 (by rfl) (by decide) (fun _ => ?_) (fun h => absurd rfl h)
      refine r_goto (t := 1536) hC dL_law_1205 (by rfl) ?_
      exact vw_widen hccw hzzw (kk w2 _ _ _ _ hLI2)
  refine r_aload_n hC dL_law_1152 rfl ?_
  refine r_aload_n hC dL_law_1153 rfl ?_
  refine r_iload hC dL_law_1154 rfl ?_
  refine r_iconst hC dL_law_1156 ?_
  refine r_iadd hC dL_law_1157 ?_
  refine r_ialdS hC dL_law_1158 hsc ⟨by omega, by omega⟩ ?_
  rw [← ha1]
  refine r_aload_n hC dL_law_1159 rfl ?_
  refine r_callH (as := [xA x, xI a1, xA o]) hC dL_law_1160 mh_count sh_count ml_L_156 (rm := rmL_count) ⟨le_b rfl, le_b rfl⟩ rfl (le_b rfl) (by show c + 1 ≤ 601024; omega) (by show z + 6 ≤ 7293034; omega) (h_count hfC hX.1.1 (k_Rl_count hfC hX hr1) (by rintro r w ⟨rfl, rfl⟩; exact ⟨⟨_, rfl⟩, hRo.2.1.1⟩)) ?_ rfl
  rintro _ w ⟨rfl, h⟩
  rcases h with ⟨q0, val, w1, hp, rfl⟩ | ⟨q0, n0, hn0, rfl⟩
  · obtain ⟨hv0, rfl⟩ := hp
    have hval : val = m_countV f s a1 := Sum.inl.inj (Option.some.inj hv0)
    exact tail _ f s P kp K b n T hX.sJ htx hn hRo.sJ hRv hst hsm (by omega) (fun _ _ => rfl) (Or.inl ⟨q0, by rw [hval]; exact sJ_at _ _ _ _, rfl, rfl, rfl, rfl, rfl, rfl, rfl⟩)
  · exact tail _ f s P kp K b n T (hX.wN hn0) htx hn (hRo.wN hn0) hRv hst hsm (by omega) (fun _ _ => rfl) (Or.inr ⟨q0, rfl, rfl, rfl, rfl, rfl, rfl, rfl⟩)

set_option maxRecDepth 100000 in
theorem c_setting {C : Cx} (hC : CxOK C cL_law RL room_1 9) (hfC : (cxL C).stackTraces = false) {v : Mem} {x m o sc L : Nat} {T : Int} (hLI : LI (cxD C) v x m o sc L T) {i : Int} (hi : 0 ≤ i ∧ i + 4 ≤ L) (hT : T + 1700 ≤ 2000000) {c z : Nat} (hc : c + 300 ≤ 601024) (hz : z + 4700 ≤ 7293034) {l5 l6 l7 l8 : Option SV} (kk : ∀ (w : Mem) (l5 l6 l7 l8 : Option SV), LI (cxD C) w x m o sc L (T + 1525) → VW C 1536 [some (xA sc), some (xA x), some (xA m), some (xA o), some (xI i), l5, l6, l7, l8] [] w (c + 300) (z + 4700)) : VW C 1208 [some (xA sc), some (xA x), some (xA m), some (xA o), some (xI i), l5, l6, l7, l8] [] v c z := by
  obtain ⟨f, s, P, kp, K, b, n, hX, htx, hn, hRo, hRv, hst, hsm⟩ := hLI
  have hI := hX.2.2.1.2
  have hS := hX.2.2.1.1
  have hs6 := hX.2.2.2.1.2.1
  have rP : RF P := (rrv_rf hRv).2.1
  obtain ⟨og, hO, -⟩ := hS.r.2.2.2.2
  have hsc := hRo.2.1.2
  obtain ⟨a1, ha1⟩ : ∃ a, a = mI v sc (i + 1) := ⟨_, rfl⟩
  have hr1 : rg a1 := by rw [ha1]; exact rg_mI _ _ _
  have hrq : rg (q_sett a1) := by unfold q_sett; (repeat' split) <;> exact ⟨by decide, by decide⟩
  have tail : ∀ (w : Mem) (g1 : RW) (s1 : Int) (P1 : RW) (kp1 : Int) (K1 b1 : RW) (n1 : Nat) (T1 : Int), RX w x g1 s1 P1 kp1 K1 T1 → RXt w x b1 n1 → n1 ≤ 60 → RRo w x m o sc L → RRv w m f s P kp K b n → Sta (cxD C) w x → StaM (cxD C) w x → T1 ≤ T + 1525 → (∀ q, ((m ≤ q ∧ q < m + 8) ∨ q = o ∨ q = sc) → mI w q = mI v q) → ((q_sett a1 = 0 ∧ mJ w o 0 = i2j (f (10 + a1)) ∧ g1 = f ∧ s1 = s ∧ P1 = P ∧ kp1 = kp ∧ K1 = K ∧ b1 = b ∧ (n1 : Int) = n) ∨ (q_sett a1 ≠ 0 ∧ g1 = f ∧ s1 = s ∧ P1 = P ∧ kp1 = kp ∧ K1 = K ∧ b1 = b ∧ (n1 : Int) = n)) → VW C 1219 [some (xA sc), some (xA x), some (xA m), some (xA o), some (xI i), l5, l6, l7, l8] [xI (q_sett a1)] w (c + rmL_setting.cells) (z + rmL_setting.slots) := by
    intro w g1 s1 P1 kp1 K1 b1 n1 T1 hXw htw hn1 how hvw hstw hsmw hT1 hm hq
    have hccw : c + rmL_setting.cells ≤ c + 300 := by show c + 1 ≤ c + 300; omega
    have hzzw : z + rmL_setting.slots ≤ z + 4700 := by show z + 6 ≤ z + 4700; omega
    have hct := e_setting (l := cxL C) (D := cxD C) hfC how.1 hvw hr1
    refine r_istore (lv' := [_, _, _, _, _, _, _, _, _]) hC dL_law_1219 (lt_b rfl) rfl (lt_b rfl) rfl ?_
    refine r_aload_n hC dL_law_1221 rfl ?_
    refine r_aload_n hC dL_law_1222 rfl ?_
    refine r_iload hC dL_law_1223 rfl ?_
    refine r_iconst hC dL_law_1225 ?_
    refine r_iadd hC dL_law_1226 ?_
    refine r_ialdS hC dL_law_1227 how.2.1.2 ⟨by omega, by omega⟩ ?_
    rw [hm sc (Or.inr (Or.inr rfl)), ← ha1]
    refine r_V0p (as := [xI a1]) (u := w) hC dL_law_1228 mi_X8_setting se_X8_setting ml_L_161 (rm := rmX8_setting) rfl how.1.o rfl rfl rfl rfl ⟨Nat.le_trans hccw hc, Nat.le_trans hzzw hz⟩ hct ?_ rfl
    rintro _ w2 ⟨hF8, hth, a, rfl, hcase⟩
    have hRv2 : RRv w2 m g1 s1 P1 kp1 K1 b1 n1 := by
      rcases hcase with ⟨z1, -, z2⟩ | ⟨z1, z2⟩
      · rcases hq with ⟨-, -, e1, e2, e3, e4, e5, e6, e7⟩ | ⟨y1, -⟩
        · rw [e1, e2, e3, e4, e5, e6, e7]; exact z2
        · exact absurd z1 y1
      · rcases hq with ⟨y1, -⟩ | ⟨-, e1, e2, e3, e4, e5, e6, e7⟩
        · exact absurd y1 z1
        · rw [e1, e2, e3, e4, e5, e6, e7]; exact z2
    have hLI2 : LI (cxD C) w2 x m o sc L (T + 1525) := LI.next hXw htw hn1 how hstw hsmw hF8 hRv2 hT1
    have how2 := how.fr hF8
    refine r_istore (lv' := [_, _, _, _, _, _, _, _, _]) hC dL_law_1231 (lt_b rfl) rfl (lt_b rfl) rfl ?_
    refine r_aload_n hC dL_law_1233 rfl ?_
    refine r_V0 hC dL_law_1234 mi_X8_thrown se_X8_thrown ml_L_89 (rm := rmX8_thrown) rfl how2.1.o rfl rfl rfl rfl ⟨Nat.le_trans hccw hc, Nat.le_trans hzzw hz⟩ (e_thrown hfC how2.1) ?_ rfl
    rw [hth]
    refine r_iload hC dL_law_1237 rfl ?_
    refine r_icmp_eq (t := 1244) hC dL_law_1239 (by rfl) hrq hrq (fun _ => ?_) (fun h => absurd rfl h)
    refine r_iload hC dL_law_1244 rfl ?_
    refine r_if_ne (t := 1261) hC dL_law_1246 (by rfl) hrq (fun hne => ?_) (fun heq => ?_)
    · refine r_goto (t := 1536) hC dL_law_1261 (by rfl) ?_
      exact vw_widen hccw hzzw (kk w2 _ _ _ _ hLI2)
    · have h0 : q_sett a1 = 0 := heq
      have hJ : mJ w2 o 0 = i2j (f (10 + a1)) := by
        rcases hq with ⟨-, e, -⟩ | ⟨y1, -⟩
        · rw [hF8.2.2.1]; exact e
        · exact absurd h0 y1
      have ha : a = f (10 + a1) := by
        rcases hcase with ⟨-, e, -⟩ | ⟨y1, -⟩
        · exact e
        · exact absurd h0 y1
      refine r_aload_n hC dL_law_1249 rfl ?_
      refine r_iconst hC dL_law_1250 ?_
      refine r_lald hC dL_law_1251 how2.2.1.1 ⟨by decide, by decide⟩ ?_
      refine r_iload hC dL_law_1252 rfl ?_
      refine r_i2l hC dL_law_1254 ?_
      rw [hJ, ha]
      refine r_lcmp hC dL_law_1255 ?_
      rw [lgc_self]
      refine r_if_eq (t := 1261) hC dL_law_1256 (by rfl) (by decide) (fun _ => ?_) (fun h => absurd rfl h)
      refine r_goto (t := 1536) hC dL_law_1261 (by rfl) ?_
      exact vw_widen hccw hzzw (kk w2 _ _ _ _ hLI2)
  refine r_aload_n hC dL_law_1208 rfl ?_
  refine r_aload_n hC dL_law_1209 rfl ?_
  refine r_iload hC dL_law_1210 rfl ?_
  refine r_iconst hC dL_law_1212 ?_
  refine r_iadd hC dL_law_1213 ?_
  refine r_ialdS hC dL_law_1214 hsc ⟨by omega, by omega⟩ ?_
  rw [← ha1]
  refine r_aload_n hC dL_law_1215 rfl ?_
  refine r_callH (as := [xA x, xI a1, xA o]) hC dL_law_1216 mh_setting sh_setting ml_L_159 (rm := rmL_setting) ⟨le_b rfl, le_b rfl⟩ rfl (le_b rfl) (by show c + 1 ≤ 601024; omega) (by show z + 6 ≤ 7293034; omega) (h_setting hfC hX.1.1 (k_Rl_setting hfC hX hr1) (by rintro r w ⟨rfl, rfl⟩; exact ⟨⟨_, rfl⟩, hRo.2.1.1⟩)) ?_ rfl
  rintro _ w ⟨rfl, h⟩
  rcases h with ⟨q0, val, w1, hp, rfl⟩ | ⟨q0, n0, hn0, rfl⟩
  · obtain ⟨hv0, rfl⟩ := hp
    have hval : val = f (10 + a1) := Sum.inl.inj (Option.some.inj hv0)
    exact tail _ f s P kp K b n T hX.sJ htx hn hRo.sJ hRv hst hsm (by omega) (fun _ _ => rfl) (Or.inl ⟨q0, by rw [hval]; exact sJ_at _ _ _ _, rfl, rfl, rfl, rfl, rfl, rfl, rfl⟩)
  · exact tail _ f s P kp K b n T (hX.wN hn0) htx hn (hRo.wN hn0) hRv hst hsm (by omega) (fun _ _ => rfl) (Or.inr ⟨q0, rfl, rfl, rfl, rfl, rfl, rfl, rfl⟩)

set_option maxRecDepth 100000 in
theorem c_ifPassed {C : Cx} (hC : CxOK C cL_law RL room_1 9) (hfC : (cxL C).stackTraces = false) {v : Mem} {x m o sc L : Nat} {T : Int} (hLI : LI (cxD C) v x m o sc L T) {i : Int} (hi : 0 ≤ i ∧ i + 4 ≤ L) (hT : T + 1700 ≤ 2000000) {c z : Nat} (hc : c + 300 ≤ 601024) (hz : z + 4700 ≤ 7293034) {l5 l6 l7 l8 : Option SV} (kk : ∀ (w : Mem) (l5 l6 l7 l8 : Option SV), LI (cxD C) w x m o sc L (T + 1525) → VW C 1536 [some (xA sc), some (xA x), some (xA m), some (xA o), some (xI i), l5, l6, l7, l8] [] w (c + 300) (z + 4700)) : VW C 1277 [some (xA sc), some (xA x), some (xA m), some (xA o), some (xI i), l5, l6, l7, l8] [] v c z := by
  obtain ⟨f, s, P, kp, K, b, n, hX, htx, hn, hRo, hRv, hst, hsm⟩ := hLI
  have hI := hX.2.2.1.2
  have hS := hX.2.2.1.1
  have hs6 := hX.2.2.2.1.2.1
  have rP : RF P := (rrv_rf hRv).2.1
  obtain ⟨og, hO, -⟩ := hS.r.2.2.2.2
  have hsc := hRo.2.1.2
  obtain ⟨a1, ha1⟩ : ∃ a, a = mI v sc (i + 1) := ⟨_, rfl⟩
  have hr1 : rg a1 := by rw [ha1]; exact rg_mI _ _ _
  obtain ⟨a2, ha2⟩ : ∃ a, a = mI v sc (i + 2) := ⟨_, rfl⟩
  have hr2 : rg a2 := by rw [ha2]; exact rg_mI _ _ _
  obtain ⟨a3, ha3⟩ : ∃ a, a = mI v sc (i + 3) := ⟨_, rfl⟩
  have hr3 : rg a3 := by rw [ha3]; exact rg_mI _ _ _
  have hrq : rg (q_ifp a1 a2 a3) := by unfold q_ifp; (repeat' split) <;> exact ⟨by decide, by decide⟩
  have tail : ∀ (w : Mem) (g1 : RW) (s1 : Int) (P1 : RW) (kp1 : Int) (K1 b1 : RW) (n1 : Nat) (T1 : Int), RX w x g1 s1 P1 kp1 K1 T1 → RXt w x b1 n1 → n1 ≤ 60 → RRo w x m o sc L → RRv w m f s P kp K b n → Sta (cxD C) w x → StaM (cxD C) w x → T1 ≤ T + 1525 → (∀ q, ((m ≤ q ∧ q < m + 8) ∨ q = o ∨ q = sc) → mI w q = mI v q) → ((q_ifp a1 a2 a3 = 0 ∧ mJ w o 0 = i2j (m_afterV f (mI v (m + 7)) a1.toNat a2 a3) ∧ g1 = f ∧ s1 = s ∧ P1 = P ∧ kp1 = kp ∧ K1 = K ∧ b1 = b ∧ (n1 : Int) = n) ∨ (q_ifp a1 a2 a3 ≠ 0 ∧ g1 = f ∧ s1 = s ∧ P1 = P ∧ kp1 = kp ∧ K1 = K ∧ b1 = b ∧ (n1 : Int) = n)) → VW C 1300 [some (xA sc), some (xA x), some (xA m), some (xA o), some (xI i), l5, l6, l7, l8] [xI (q_ifp a1 a2 a3)] w (c + rmL_ifPassed.cells) (z + rmL_ifPassed.slots) := by
    intro w g1 s1 P1 kp1 K1 b1 n1 T1 hXw htw hn1 how hvw hstw hsmw hT1 hm hq
    have hccw : c + rmL_ifPassed.cells ≤ c + 300 := by show c + 147 ≤ c + 300; omega
    have hzzw : z + rmL_ifPassed.slots ≤ z + 4700 := by show z + 2326 ≤ z + 4700; omega
    have h7w := hm (m + 7) (Or.inl ⟨by omega, by omega⟩)
    have hct := e_ifPassed (l := cxL C) (D := cxD C) hfC how.1 hvw hr1 hr2 hr3 (fun h1 h99 => pass_ok hI (rf_mI _ _) (by omega)) (fun z => (pass_inv hI (rf_mI _ _) a1.toNat (by have := ifp_0 z; omega)).2.1)
    rw [h7w] at hct
    refine r_istore (lv' := [_, _, _, _, _, _, _, _, _]) hC dL_law_1300 (lt_b rfl) rfl (lt_b rfl) rfl ?_
    refine r_aload_n hC dL_law_1302 rfl ?_
    refine r_aload_n hC dL_law_1303 rfl ?_
    refine r_iload hC dL_law_1304 rfl ?_
    refine r_iconst hC dL_law_1306 ?_
    refine r_iadd hC dL_law_1307 ?_
    refine r_ialdS hC dL_law_1308 how.2.1.2 ⟨by omega, by omega⟩ ?_
    rw [hm sc (Or.inr (Or.inr rfl)), ← ha1]
    refine r_aload_n hC dL_law_1309 rfl ?_
    refine r_iload hC dL_law_1310 rfl ?_
    refine r_iconst hC dL_law_1312 ?_
    refine r_iadd hC dL_law_1313 ?_
    refine r_ialdS hC dL_law_1314 how.2.1.2 ⟨by omega, by omega⟩ ?_
    rw [hm sc (Or.inr (Or.inr rfl)), ← ha2]
    refine r_aload_n hC dL_law_1315 rfl ?_
    refine r_iload hC dL_law_1316 rfl ?_
    refine r_iconst hC dL_law_1318 ?_
    refine r_iadd hC dL_law_1319 ?_
    refine r_ialdS hC dL_law_1320 how.2.1.2 ⟨by omega, by omega⟩ ?_
    rw [hm sc (Or.inr (Or.inr rfl)), ← ha3]
    refine r_V0p (as := [xI a1, xI a2, xI a3]) (u := w) hC dL_law_1321 mi_X8_ifPassed se_X8_ifPassed ml_L_168 (rm := rmX8_ifPassed) rfl how.1.o rfl rfl rfl rfl ⟨Nat.le_trans hccw hc, Nat.le_trans hzzw hz⟩ hct ?_ rfl
    rintro _ w2 ⟨hF8, hth, a, rfl, hcase⟩
    have hRv2 : RRv w2 m g1 s1 P1 kp1 K1 b1 n1 := by
      rcases hcase with ⟨z1, -, z2⟩ | ⟨z1, z2⟩
      · rcases hq with ⟨-, -, e1, e2, e3, e4, e5, e6, e7⟩ | ⟨y1, -⟩
        · rw [e1, e2, e3, e4, e5, e6, e7]; exact z2
        · exact absurd z1 y1
      · rcases hq with ⟨y1, -⟩ | ⟨-, e1, e2, e3, e4, e5, e6, e7⟩
        · exact absurd y1 z1
        · rw [e1, e2, e3, e4, e5, e6, e7]; exact z2
    have hLI2 : LI (cxD C) w2 x m o sc L (T + 1525) := LI.next hXw htw hn1 how hstw hsmw hF8 hRv2 hT1
    have how2 := how.fr hF8
    refine r_istore (lv' := [_, _, _, _, _, _, _, _, _]) hC dL_law_1324 (lt_b rfl) rfl (lt_b rfl) rfl ?_
    refine r_aload_n hC dL_law_1326 rfl ?_
    refine r_V0 hC dL_law_1327 mi_X8_thrown se_X8_thrown ml_L_89 (rm := rmX8_thrown) rfl how2.1.o rfl rfl rfl rfl ⟨Nat.le_trans hccw hc, Nat.le_trans hzzw hz⟩ (e_thrown hfC how2.1) ?_ rfl
    rw [hth]
    refine r_iload hC dL_law_1330 rfl ?_
    refine r_icmp_eq (t := 1337) hC dL_law_1332 (by rfl) hrq hrq (fun _ => ?_) (fun h => absurd rfl h)
    refine r_iload hC dL_law_1337 rfl ?_
    refine r_if_ne (t := 1354) hC dL_law_1339 (by rfl) hrq (fun hne => ?_) (fun heq => ?_)
    · refine r_goto (t := 1536) hC dL_law_1354 (by rfl) ?_
      exact vw_widen hccw hzzw (kk w2 _ _ _ _ hLI2)
    · have h0 : q_ifp a1 a2 a3 = 0 := heq
      have hJ : mJ w2 o 0 = i2j (m_afterV f (mI v (m + 7)) a1.toNat a2 a3) := by
        rcases hq with ⟨-, e, -⟩ | ⟨y1, -⟩
        · rw [hF8.2.2.1]; exact e
        · exact absurd h0 y1
      have ha : a = m_afterV f (mI v (m + 7)) a1.toNat a2 a3 := by
        rcases hcase with ⟨-, e, -⟩ | ⟨y1, -⟩
        · exact e
        · exact absurd h0 y1
      refine r_aload_n hC dL_law_1342 rfl ?_
      refine r_iconst hC dL_law_1343 ?_
      refine r_lald hC dL_law_1344 how2.2.1.1 ⟨by decide, by decide⟩ ?_
      refine r_iload hC dL_law_1345 rfl ?_
      refine r_i2l hC dL_law_1347 ?_
      rw [hJ, ha]
      refine r_lcmp hC dL_law_1348 ?_
      rw [lgc_self]
      refine r_if_eq (t := 1354) hC dL_law_1349 (by rfl) (by decide) (fun _ => ?_) (fun h => absurd rfl h)
      refine r_goto (t := 1536) hC dL_law_1354 (by rfl) ?_
      exact vw_widen hccw hzzw (kk w2 _ _ _ _ hLI2)
  refine r_aload_n hC dL_law_1277 rfl ?_
  refine r_aload_n hC dL_law_1278 rfl ?_
  refine r_iload hC dL_law_1279 rfl ?_
  refine r_iconst hC dL_law_1281 ?_
  refine r_iadd hC dL_law_1282 ?_
  refine r_ialdS hC dL_law_1283 hsc ⟨by omega, by omega⟩ ?_
  rw [← ha1]
  refine r_aload_n hC dL_law_1284 rfl ?_
  refine r_iload hC dL_law_1285 rfl ?_
  refine r_iconst hC dL_law_1287 ?_
  refine r_iadd hC dL_law_1288 ?_
  refine r_ialdS hC dL_law_1289 hsc ⟨by omega, by omega⟩ ?_
  rw [← ha2]
  refine r_aload_n hC dL_law_1290 rfl ?_
  refine r_iload hC dL_law_1291 rfl ?_
  refine r_iconst hC dL_law_1293 ?_
  refine r_iadd hC dL_law_1294 ?_
  refine r_ialdS hC dL_law_1295 hsc ⟨by omega, by omega⟩ ?_
  rw [← ha3]
  refine r_aload_n hC dL_law_1296 rfl ?_
  refine r_callH (as := [xA x, xI a1, xI a2, xI a3, xA o]) hC dL_law_1297 mh_ifPassed sh_ifPassed ml_L_166 (rm := rmL_ifPassed) ⟨le_b rfl, le_b rfl⟩ rfl (le_b rfl) (by show c + 147 ≤ 601024; omega) (by show z + 2326 ≤ 7293034; omega) (h_ifPassed hfC hX.1.1 (k_Rl_ifPassed hfC hX hst (b := mI v (m + 7)) (rf_mI _ _) (by omega) hr1 hr2 hr3) (by rintro r w ⟨rfl, h1, h2, h3⟩; exact ⟨⟨_, rfl⟩, by rw [(h2.2 o (hRo.2.2.1 o (Or.inr (Or.inl rfl)))).2.1]; exact hRo.2.1.1⟩)) ?_ rfl
  rintro _ w ⟨rfl, h⟩
  rcases h with ⟨q0, val, w1, hp, rfl⟩ | ⟨q0, n0, hn0, rfl⟩
  · obtain ⟨hv0, hX1, hk1, ht1⟩ := hp
    have hval : val = m_afterV f (mI v (m + 7)) a1.toNat a2 a3 := Sum.inl.inj (Option.some.inj hv0)
    exact tail _ (f) (s) (P) (kp) (K) (b) n (T) hX1.sJ (htx.tx ht1) hn (hRo.kp hk1).sJ (RRv.kp hRo hk1 hRv) (Sta.kp (w := w1) hst hX.2.1 hk1) (StaM.kp (w := w1) hsm hX.2.1 hk1) (by omega) (fun q hq => (hk1.2 q (hRo.2.2.1 q hq)).2.2.1) (Or.inl ⟨q0, by rw [hval]; exact sJ_at _ _ _ _, rfl, rfl, rfl, rfl, rfl, rfl, rfl⟩)
  · exact tail _ f s P kp K b n T (hX.wN hn0) htx hn (hRo.wN hn0) hRv hst hsm (by omega) (fun _ _ => rfl) (Or.inr ⟨q0, rfl, rfl, rfl, rfl, rfl, rfl, rfl⟩)

set_option maxRecDepth 100000 in
theorem c_skips {C : Cx} (hC : CxOK C cL_law RL room_1 9) (hfC : (cxL C).stackTraces = false) {v : Mem} {x m o sc L : Nat} {T : Int} (hLI : LI (cxD C) v x m o sc L T) {i : Int} (hi : 0 ≤ i ∧ i + 4 ≤ L) (hT : T + 1700 ≤ 2000000) {c z : Nat} (hc : c + 300 ≤ 601024) (hz : z + 4700 ≤ 7293034) {l5 l6 l7 l8 : Option SV} (kk : ∀ (w : Mem) (l5 l6 l7 l8 : Option SV), LI (cxD C) w x m o sc L (T + 1525) → VW C 1536 [some (xA sc), some (xA x), some (xA m), some (xA o), some (xI i), l5, l6, l7, l8] [] w (c + 300) (z + 4700)) : VW C 1357 [some (xA sc), some (xA x), some (xA m), some (xA o), some (xI i), l5, l6, l7, l8] [] v c z := by
  obtain ⟨f, s, P, kp, K, b, n, hX, htx, hn, hRo, hRv, hst, hsm⟩ := hLI
  have hI := hX.2.2.1.2
  have hS := hX.2.2.1.1
  have hs6 := hX.2.2.2.1.2.1
  have rP : RF P := (rrv_rf hRv).2.1
  obtain ⟨og, hO, -⟩ := hS.r.2.2.2.2
  have hsc := hRo.2.1.2
  obtain ⟨a1, ha1⟩ : ∃ a, a = mI v sc (i + 1) := ⟨_, rfl⟩
  have hr1 : rg a1 := by rw [ha1]; exact rg_mI _ _ _
  obtain ⟨a2, ha2⟩ : ∃ a, a = mI v sc (i + 2) := ⟨_, rfl⟩
  have hr2 : rg a2 := by rw [ha2]; exact rg_mI _ _ _
  have hrq : rg (q_skips a1 a2) := by unfold q_skips; (repeat' split) <;> exact ⟨by decide, by decide⟩
  have tail : ∀ (w : Mem) (g1 : RW) (s1 : Int) (P1 : RW) (kp1 : Int) (K1 b1 : RW) (n1 : Nat) (T1 : Int), RX w x g1 s1 P1 kp1 K1 T1 → RXt w x b1 n1 → n1 ≤ 60 → RRo w x m o sc L → RRv w m f s P kp K b n → Sta (cxD C) w x → StaM (cxD C) w x → T1 ≤ T + 1525 → (∀ q, ((m ≤ q ∧ q < m + 8) ∨ q = o ∨ q = sc) → mI w q = mI v q) → ((q_skips a1 a2 = 0 ∧ mJ w o 0 = i2j (m_skip f a1 a2) ∧ g1 = f ∧ s1 = s ∧ P1 = P ∧ kp1 = kp ∧ K1 = K ∧ b1 = b ∧ (n1 : Int) = n) ∨ (q_skips a1 a2 ≠ 0 ∧ g1 = f ∧ s1 = s ∧ P1 = P ∧ kp1 = kp ∧ K1 = K ∧ b1 = b ∧ (n1 : Int) = n)) → VW C 1374 [some (xA sc), some (xA x), some (xA m), some (xA o), some (xI i), l5, l6, l7, l8] [xI (q_skips a1 a2)] w (c + rmL_skips.cells) (z + rmL_skips.slots) := by
    intro w g1 s1 P1 kp1 K1 b1 n1 T1 hXw htw hn1 how hvw hstw hsmw hT1 hm hq
    have hccw : c + rmL_skips.cells ≤ c + 300 := by show c + 1 ≤ c + 300; omega
    have hzzw : z + rmL_skips.slots ≤ z + 4700 := by show z + 6 ≤ z + 4700; omega
    have hct := e_skips (l := cxL C) (D := cxD C) hfC how.1 hvw hr1 hr2 hI.co.1 (fun z => pl_ok hI _ z)
    refine r_istore (lv' := [_, _, _, _, _, _, _, _, _]) hC dL_law_1374 (lt_b rfl) rfl (lt_b rfl) rfl ?_
    refine r_aload_n hC dL_law_1376 rfl ?_
    refine r_aload_n hC dL_law_1377 rfl ?_
    refine r_iload hC dL_law_1378 rfl ?_
    refine r_iconst hC dL_law_1380 ?_
    refine r_iadd hC dL_law_1381 ?_
    refine r_ialdS hC dL_law_1382 how.2.1.2 ⟨by omega, by omega⟩ ?_
    rw [hm sc (Or.inr (Or.inr rfl)), ← ha1]
    refine r_aload_n hC dL_law_1383 rfl ?_
    refine r_iload hC dL_law_1384 rfl ?_
    refine r_iconst hC dL_law_1386 ?_
    refine r_iadd hC dL_law_1387 ?_
    refine r_ialdS hC dL_law_1388 how.2.1.2 ⟨by omega, by omega⟩ ?_
    rw [hm sc (Or.inr (Or.inr rfl)), ← ha2]
    refine r_V0p (as := [xI a1, xI a2]) (u := w) hC dL_law_1389 mi_X8_skips se_X8_skips ml_L_171 (rm := rmX8_skips) rfl how.1.o rfl rfl rfl rfl ⟨Nat.le_trans hccw hc, Nat.le_trans hzzw hz⟩ hct ?_ rfl
    rintro _ w2 ⟨hF8, hth, a, rfl, hcase⟩
    have hRv2 : RRv w2 m g1 s1 P1 kp1 K1 b1 n1 := by
      rcases hcase with ⟨z1, -, z2⟩ | ⟨z1, z2⟩
      · rcases hq with ⟨-, -, e1, e2, e3, e4, e5, e6, e7⟩ | ⟨y1, -⟩
        · rw [e1, e2, e3, e4, e5, e6, e7]; exact z2
        · exact absurd z1 y1
      · rcases hq with ⟨y1, -⟩ | ⟨-, e1, e2, e3, e4, e5, e6, e7⟩
        · exact absurd y1 z1
        · rw [e1, e2, e3, e4, e5, e6, e7]; exact z2
    have hLI2 : LI (cxD C) w2 x m o sc L (T + 1525) := LI.next hXw htw hn1 how hstw hsmw hF8 hRv2 hT1
    have how2 := how.fr hF8
    refine r_istore (lv' := [_, _, _, _, _, _, _, _, _]) hC dL_law_1392 (lt_b rfl) rfl (lt_b rfl) rfl ?_
    refine r_aload_n hC dL_law_1394 rfl ?_
    refine r_V0 hC dL_law_1395 mi_X8_thrown se_X8_thrown ml_L_89 (rm := rmX8_thrown) rfl how2.1.o rfl rfl rfl rfl ⟨Nat.le_trans hccw hc, Nat.le_trans hzzw hz⟩ (e_thrown hfC how2.1) ?_ rfl
    rw [hth]
    refine r_iload hC dL_law_1398 rfl ?_
    refine r_icmp_eq (t := 1405) hC dL_law_1400 (by rfl) hrq hrq (fun _ => ?_) (fun h => absurd rfl h)
    refine r_iload hC dL_law_1405 rfl ?_
    refine r_if_ne (t := 1422) hC dL_law_1407 (by rfl) hrq (fun hne => ?_) (fun heq => ?_)
    · refine r_goto (t := 1536) hC dL_law_1422 (by rfl) ?_
      exact vw_widen hccw hzzw (kk w2 _ _ _ _ hLI2)
    · have h0 : q_skips a1 a2 = 0 := heq
      have hJ : mJ w2 o 0 = i2j (m_skip f a1 a2) := by
        rcases hq with ⟨-, e, -⟩ | ⟨y1, -⟩
        · rw [hF8.2.2.1]; exact e
        · exact absurd h0 y1
      have ha : a = m_skip f a1 a2 := by
        rcases hcase with ⟨-, e, -⟩ | ⟨y1, -⟩
        · exact e
        · exact absurd h0 y1
      refine r_aload_n hC dL_law_1410 rfl ?_
      refine r_iconst hC dL_law_1411 ?_
      refine r_lald hC dL_law_1412 how2.2.1.1 ⟨by decide, by decide⟩ ?_
      refine r_iload hC dL_law_1413 rfl ?_
      refine r_i2l hC dL_law_1415 ?_
      rw [hJ, ha]
      refine r_lcmp hC dL_law_1416 ?_
      rw [lgc_self]
      refine r_if_eq (t := 1422) hC dL_law_1417 (by rfl) (by decide) (fun _ => ?_) (fun h => absurd rfl h)
      refine r_goto (t := 1536) hC dL_law_1422 (by rfl) ?_
      exact vw_widen hccw hzzw (kk w2 _ _ _ _ hLI2)
  refine r_aload_n hC dL_law_1357 rfl ?_
  refine r_aload_n hC dL_law_1358 rfl ?_
  refine r_iload hC dL_law_1359 rfl ?_
  refine r_iconst hC dL_law_1361 ?_
  refine r_iadd hC dL_law_1362 ?_
  refine r_ialdS hC dL_law_1363 hsc ⟨by omega, by omega⟩ ?_
  rw [← ha1]
  refine r_aload_n hC dL_law_1364 rfl ?_
  refine r_iload hC dL_law_1365 rfl ?_
  refine r_iconst hC dL_law_1367 ?_
  refine r_iadd hC dL_law_1368 ?_
  refine r_ialdS hC dL_law_1369 hsc ⟨by omega, by omega⟩ ?_
  rw [← ha2]
  refine r_aload_n hC dL_law_1370 rfl ?_
  refine r_callH (as := [xA x, xI a1, xI a2, xA o]) hC dL_law_1371 mh_skips sh_skips ml_L_169 (rm := rmL_skips) ⟨le_b rfl, le_b rfl⟩ rfl (le_b rfl) (by show c + 1 ≤ 601024; omega) (by show z + 6 ≤ 7293034; omega) (h_skips hfC hX.1.1 (k_Rl_skips hfC hX hr1 hr2) (by rintro r w ⟨rfl, rfl⟩; exact ⟨⟨_, rfl⟩, hRo.2.1.1⟩)) ?_ rfl
  rintro _ w ⟨rfl, h⟩
  rcases h with ⟨q0, val, w1, hp, rfl⟩ | ⟨q0, n0, hn0, rfl⟩
  · obtain ⟨hv0, rfl⟩ := hp
    have hval : val = m_skip f a1 a2 := Sum.inl.inj (Option.some.inj hv0)
    exact tail _ f s P kp K b n T hX.sJ htx hn hRo.sJ hRv hst hsm (by omega) (fun _ _ => rfl) (Or.inl ⟨q0, by rw [hval]; exact sJ_at _ _ _ _, rfl, rfl, rfl, rfl, rfl, rfl, rfl⟩)
  · exact tail _ f s P kp K b n T (hX.wN hn0) htx hn (hRo.wN hn0) hRv hst hsm (by omega) (fun _ _ => rfl) (Or.inr ⟨q0, rfl, rfl, rfl, rfl, rfl, rfl, rfl⟩)
