set_option maxRecDepth 100000 in
theorem c_write {C : Cx} (hC : CxOK C cL_law RL room_1 9) (hfC : (cxL C).stackTraces = false) {v : Mem} {x m o sc L : Nat} {T : Int} (hLI : LI (cxD C) v x m o sc L T) {i : Int} (hi : 0 ≤ i ∧ i + 4 ≤ L) (hT : T + 1700 ≤ 2000000) {c z : Nat} (hc : c + 300 ≤ 601024) (hz : z + 4700 ≤ 7293034) {l5 l6 l7 l8 : Option SV} (kk : ∀ (w : Mem) (l5 l6 l7 l8 : Option SV), LI (cxD C) w x m o sc L (T + 1525) → VW C 1536 [some (xA sc), some (xA x), some (xA m), some (xA o), some (xI i), l5, l6, l7, l8] [] w (c + 300) (z + 4700)) : VW C 212 [some (xA sc), some (xA x), some (xA m), some (xA o), some (xI i), l5, l6, l7, l8] [] v c z := by
  obtain ⟨f, s, P, kp, K, b, n, hX, htx, hn, hRo, hRv, hst, hsm⟩ := hLI
  have hI := hX.2.2.1.2
  have hS := hX.2.2.1.1
  have hs6 := hX.2.2.2.1.2.1
  have rP : RF P := (rrv_rf hRv).2.1
  obtain ⟨og, hO, -⟩ := hS.r.2.2.2.2
  have hsc := hRo.2.1.2
  obtain ⟨a1, ha1⟩ : ∃ a, a = mI v sc (i + 1) := ⟨_, rfl⟩
  have hr1 : rg a1 := by rw [ha1]; exact rg_mI _ _ _
  obtain ⟨a2, ha2⟩ : ∃ a, a = mI v sc (i + 2) := ⟨_, rfl⟩
  have hr2 : rg a2 := by rw [ha2]; exact rg_mI _ _ _
  obtain ⟨a3, ha3⟩ : ∃ a, a = mI v sc (i + 3) := ⟨_, rfl⟩
  have hr3 : rg a3 := by rw [ha3]; exact rg_mI _ _ _
  have hrq : rg (q_write f a1 a2 a3) := by unfold q_write; (repeat' split) <;> exact ⟨by decide, by decide⟩
  have tail : ∀ (w : Mem) (g1 : RW) (s1 : Int) (P1 : RW) (kp1 : Int) (K1 b1 : RW) (n1 : Nat) (T1 : Int), RX w x g1 s1 P1 kp1 K1 T1 → RXt w x b1 n1 → n1 ≤ 60 → RRo w x m o sc L → RRv w m f s P kp K b n → Sta (cxD C) w x → StaM (cxD C) w x → T1 ≤ T + 1525 → (∀ q, ((m ≤ q ∧ q < m + 8) ∨ q = o ∨ q = sc) → mI w q = mI v q) → ((q_write f a1 a2 a3 = 0 ∧ mJ w o 0 = i2j (m_writesC f a1 a2 a3) ∧ g1 = m_writes f a1 a2 a3 ∧ s1 = m_savedN s ∧ P1 = m_saved P f s ∧ kp1 = kp ∧ K1 = K ∧ b1 = b ∧ (n1 : Int) = n) ∨ (q_write f a1 a2 a3 ≠ 0 ∧ g1 = f ∧ s1 = s ∧ P1 = P ∧ kp1 = kp ∧ K1 = K ∧ b1 = b ∧ (n1 : Int) = n)) → VW C 235 [some (xA sc), some (xA x), some (xA m), some (xA o), some (xI i), l5, l6, l7, l8] [xI (q_write f a1 a2 a3)] w (c + rmL_write.cells) (z + rmL_write.slots) := by
    intro w g1 s1 P1 kp1 K1 b1 n1 T1 hXw htw hn1 how hvw hstw hsmw hT1 hm hq
    have hccw : c + rmL_write.cells ≤ c + 300 := by show c + 146 ≤ c + 300; omega
    have hzzw : z + rmL_write.slots ≤ z + 4700 := by show z + 2320 ≤ z + 4700; omega
    have hgq : q_write f a1 a2 a3 = 0 → RF (m_writes f a1 a2 a3) := fun z9 => by
      rcases hq with ⟨-, -, e1, -⟩ | ⟨h9, -⟩
      · rw [← e1]; exact hXw.2.2.1.2.rf
      · exact absurd z9 h9
    have hct := e_write (l := cxL C) (D := cxD C) hfC how.1 hvw hs6 hr1 hr2 hr3 (fun z => pl_ok hI _ z) (fun z => hgq z)
    refine r_istore (lv' := [_, _, _, _, _, _, _, _, _]) hC dL_law_235 (lt_b rfl) rfl (lt_b rfl) rfl ?_
    refine r_aload_n hC dL_law_237 rfl ?_
    refine r_aload_n hC dL_law_238 rfl ?_
    refine r_iload hC dL_law_239 rfl ?_
    refine r_iconst hC dL_law_241 ?_
    refine r_iadd hC dL_law_242 ?_
    refine r_ialdS hC dL_law_243 how.2.1.2 ⟨by omega, by omega⟩ ?_
    rw [hm sc (Or.inr (Or.inr rfl)), ← ha1]
    refine r_aload_n hC dL_law_244 rfl ?_
    refine r_iload hC dL_law_245 rfl ?_
    refine r_iconst hC dL_law_247 ?_
    refine r_iadd hC dL_law_248 ?_
    refine r_ialdS hC dL_law_249 how.2.1.2 ⟨by omega, by omega⟩ ?_
    rw [hm sc (Or.inr (Or.inr rfl)), ← ha2]
    refine r_aload_n hC dL_law_250 rfl ?_
    refine r_iload hC dL_law_251 rfl ?_
    refine r_iconst hC dL_law_253 ?_
    refine r_iadd hC dL_law_254 ?_
    refine r_ialdS hC dL_law_255 how.2.1.2 ⟨by omega, by omega⟩ ?_
    rw [hm sc (Or.inr (Or.inr rfl)), ← ha3]
    refine r_V0p (as := [xI a1, xI a2, xI a3]) (u := w) hC dL_law_256 mi_X8_write se_X8_write ml_L_95 (rm := rmX8_write) rfl how.1.o rfl rfl rfl rfl ⟨Nat.le_trans hccw hc, Nat.le_trans hzzw hz⟩ hct ?_ rfl
    rintro _ w2 ⟨hF8, hth, a, rfl, hcase⟩
    have hRv2 : RRv w2 m g1 s1 P1 kp1 K1 b1 n1 := by
      rcases hcase with ⟨z1, -, z2⟩ | ⟨z1, z2⟩
      · rcases hq with ⟨-, -, e1, e2, e3, e4, e5, e6, e7⟩ | ⟨y1, -⟩
        · rw [e1, e2, e3, e4, e5, e6, e7]; exact z2
        · exact absurd z1 y1
      · rcases hq with ⟨y1, -⟩ | ⟨-, e1, e2, e3, e4, e5, e6, e7⟩
        · exact absurd y1 z1
        · rw [e1, e2, e3, e4, e5, e6, e7]; exact z2
    have hLI2 : LI (cxD C) w2 x m o sc L (T + 1525) := LI.next hXw htw hn1 how hstw hsmw hF8 hRv2 hT1
    have how2 := how.fr hF8
    refine r_istore (lv' := [_, _, _, _, _, _, _, _, _]) hC dL_law_259 (lt_b rfl) rfl (lt_b rfl) rfl ?_
    refine r_aload_n hC dL_law_261 rfl ?_
    refine r_V0 hC dL_law_262 mi_X8_thrown se_X8_thrown ml_L_89 (rm := rmX8_thrown) rfl how2.1.o rfl rfl rfl rfl ⟨Nat.le_trans hccw hc, Nat.le_trans hzzw hz⟩ (e_thrown hfC how2.1) ?_ rfl
    rw [hth]
    refine r_iload hC dL_law_265 rfl ?_
    refine r_icmp_eq (t := 272) hC dL_law_267 (by rfl) hrq hrq (fun _ => ?_) (fun h => absurd rfl h)
    refine r_iload hC dL_law_272 rfl ?_
    refine r_if_ne (t := 289) hC dL_law_274 (by rfl) hrq (fun hne => ?_) (fun heq => ?_)
    · refine r_goto (t := 1536) hC dL_law_289 (by rfl) ?_
      exact vw_widen hccw hzzw (kk w2 _ _ _ _ hLI2)
    · have h0 : q_write f a1 a2 a3 = 0 := heq
      have hJ : mJ w2 o 0 = i2j (m_writesC f a1 a2 a3) := by
        rcases hq with ⟨-, e, -⟩ | ⟨y1, -⟩
        · rw [hF8.2.2.1]; exact e
        · exact absurd h0 y1
      have ha : a = m_writesC f a1 a2 a3 := by
        rcases hcase with ⟨-, e, -⟩ | ⟨y1, -⟩
        · exact e
        · exact absurd h0 y1
      refine r_aload_n hC dL_law_277 rfl ?_
      refine r_iconst hC dL_law_278 ?_
      refine r_lald hC dL_law_279 how2.2.1.1 ⟨by decide, by decide⟩ ?_
      refine r_iload hC dL_law_280 rfl ?_
      refine r_i2l hC dL_law_282 ?_
      rw [hJ, ha]
      refine r_lcmp hC dL_law_283 ?_
      rw [lgc_self]
      refine r_if_eq (t := 289) hC dL_law_284 (by rfl) (by decide) (fun _ => ?_) (fun h => absurd rfl h)
      refine r_goto (t := 1536) hC dL_law_289 (by rfl) ?_
      exact vw_widen hccw hzzw (kk w2 _ _ _ _ hLI2)
  refine r_aload_n hC dL_law_212 rfl ?_
  refine r_aload_n hC dL_law_213 rfl ?_
  refine r_iload hC dL_law_214 rfl ?_
  refine r_iconst hC dL_law_216 ?_
  refine r_iadd hC dL_law_217 ?_
  refine r_ialdS hC dL_law_218 hsc ⟨by omega, by omega⟩ ?_
  rw [← ha1]
  refine r_aload_n hC dL_law_219 rfl ?_
  refine r_iload hC dL_law_220 rfl ?_
  refine r_iconst hC dL_law_222 ?_
  refine r_iadd hC dL_law_223 ?_
  refine r_ialdS hC dL_law_224 hsc ⟨by omega, by omega⟩ ?_
  rw [← ha2]
  refine r_aload_n hC dL_law_225 rfl ?_
  refine r_iload hC dL_law_226 rfl ?_
  refine r_iconst hC dL_law_228 ?_
  refine r_iadd hC dL_law_229 ?_
  refine r_ialdS hC dL_law_230 hsc ⟨by omega, by omega⟩ ?_
  rw [← ha3]
  refine r_aload_n hC dL_law_231 rfl ?_
  refine r_callH (as := [xA x, xI a1, xI a2, xI a3, xA o]) hC dL_law_232 mh_write sh_write ml_L_92 (rm := rmL_write) ⟨le_b rfl, le_b rfl⟩ rfl (le_b rfl) (by show c + 146 ≤ 601024; omega) (by show z + 2320 ≤ 7293034; omega) (h_write hfC hX.1.1 (k_Rl_write hfC hX rP hst hr1 hr2 hr3 (by omega)) (by rintro r w ⟨rfl, h1, h2, h3⟩; exact ⟨⟨_, rfl⟩, by rw [(h2.2 o (hRo.2.2.1 o (Or.inr (Or.inl rfl)))).2.1]; exact hRo.2.1.1⟩)) ?_ rfl
  rintro _ w ⟨rfl, h⟩
  rcases h with ⟨q0, val, w1, hp, rfl⟩ | ⟨q0, n0, hn0, rfl⟩
  · obtain ⟨hv0, hX1, hk1, ht1⟩ := hp
    have hval : val = m_writesC f a1 a2 a3 := Sum.inl.inj (Option.some.inj hv0)
    exact tail _ (m_writes f a1 a2 a3) (m_savedN s) (m_saved P f s) (kp) (K) (b) n (T + 1) hX1.sJ (htx.tx ht1) hn (hRo.kp hk1).sJ (RRv.kp hRo hk1 hRv) (Sta.kp (w := w1) hst hX.2.1 hk1) (StaM.kp (w := w1) hsm hX.2.1 hk1) (by omega) (fun q hq => (hk1.2 q (hRo.2.2.1 q hq)).2.2.1) (Or.inl ⟨q0, by rw [hval]; exact sJ_at _ _ _ _, rfl, rfl, rfl, rfl, rfl, rfl, rfl⟩)
  · exact tail _ f s P kp K b n T (hX.wN hn0) htx hn (hRo.wN hn0) hRv hst hsm (by omega) (fun _ _ => rfl) (Or.inr ⟨q0, rfl, rfl, rfl, rfl, rfl, rfl, rfl⟩)

set_option maxRecDepth 100000 in
theorem c_commit {C : Cx} (hC : CxOK C cL_law RL room_1 9) (hfC : (cxL C).stackTraces = false) {v : Mem} {x m o sc L : Nat} {T : Int} (hLI : LI (cxD C) v x m o sc L T) {i : Int} (hi : 0 ≤ i ∧ i + 4 ≤ L) (hT : T + 1700 ≤ 2000000) {c z : Nat} (hc : c + 300 ≤ 601024) (hz : z + 4700 ≤ 7293034) {l5 l6 l7 l8 : Option SV} (kk : ∀ (w : Mem) (l5 l6 l7 l8 : Option SV), LI (cxD C) w x m o sc L (T + 1525) → VW C 1536 [some (xA sc), some (xA x), some (xA m), some (xA o), some (xI i), l5, l6, l7, l8] [] w (c + 300) (z + 4700)) : VW C 292 [some (xA sc), some (xA x), some (xA m), some (xA o), some (xI i), l5, l6, l7, l8] [] v c z := by
  obtain ⟨f, s, P, kp, K, b, n, hX, htx, hn, hRo, hRv, hst, hsm⟩ := hLI
  have hI := hX.2.2.1.2
  have hS := hX.2.2.1.1
  have hs6 := hX.2.2.2.1.2.1
  have rP : RF P := (rrv_rf hRv).2.1
  obtain ⟨og, hO, -⟩ := hS.r.2.2.2.2
  have hsc := hRo.2.1.2
  obtain ⟨a1, ha1⟩ : ∃ a, a = mI v sc (i + 1) := ⟨_, rfl⟩
  have hr1 : rg a1 := by rw [ha1]; exact rg_mI _ _ _
  have hrq : rg (q_commit f a1) := by unfold q_commit; (repeat' split) <;> exact ⟨by decide, by decide⟩
  have tail : ∀ (w : Mem) (g1 : RW) (s1 : Int) (P1 : RW) (kp1 : Int) (K1 b1 : RW) (n1 : Nat) (T1 : Int), RX w x g1 s1 P1 kp1 K1 T1 → RXt w x b1 n1 → n1 ≤ 60 → RRo w x m o sc L → RRv w m f s P kp K b n → Sta (cxD C) w x → StaM (cxD C) w x → T1 ≤ T + 1525 → (∀ q, ((m ≤ q ∧ q < m + 8) ∨ q = o ∨ q = sc) → mI w q = mI v q) → ((q_commit f a1 = 0 ∧ mJ w o 0 = i2j (m_commitsC f a1) ∧ g1 = m_commits f a1 ∧ s1 = m_savedN s ∧ P1 = m_saved P f s ∧ kp1 = kp ∧ K1 = K ∧ b1 = b ∧ (n1 : Int) = n) ∨ (q_commit f a1 ≠ 0 ∧ g1 = f ∧ s1 = s ∧ P1 = P ∧ kp1 = kp ∧ K1 = K ∧ b1 = b ∧ (n1 : Int) = n)) → VW C 303 [some (xA sc), some (xA x), some (xA m), some (xA o), some (xI i), l5, l6, l7, l8] [xI (q_commit f a1)] w (c + rmL_commit.cells) (z + rmL_commit.slots) := by
    intro w g1 s1 P1 kp1 K1 b1 n1 T1 hXw htw hn1 how hvw hstw hsmw hT1 hm hq
    have hccw : c + rmL_commit.cells ≤ c + 300 := by show c + 146 ≤ c + 300; omega
    have hzzw : z + rmL_commit.slots ≤ z + 4700 := by show z + 2320 ≤ z + 4700; omega
    have hgq : q_commit f a1 = 0 → RF (m_commits f a1) := fun z9 => by
      rcases hq with ⟨-, -, e1, -⟩ | ⟨h9, -⟩
      · rw [← e1]; exact hXw.2.2.1.2.rf
      · exact absurd z9 h9
    have hct := e_commit (l := cxL C) (D := cxD C) hfC how.1 hvw hs6 hr1 hI.co.1 hI.co.2.1 (fun z => pl_ok hI _ z) (fun z => hgq z)
    refine r_istore (lv' := [_, _, _, _, _, _, _, _, _]) hC dL_law_303 (lt_b rfl) rfl (lt_b rfl) rfl ?_
    refine r_aload_n hC dL_law_305 rfl ?_
    refine r_aload_n hC dL_law_306 rfl ?_
    refine r_iload hC dL_law_307 rfl ?_
    refine r_iconst hC dL_law_309 ?_
    refine r_iadd hC dL_law_310 ?_
    refine r_ialdS hC dL_law_311 how.2.1.2 ⟨by omega, by omega⟩ ?_
    rw [hm sc (Or.inr (Or.inr rfl)), ← ha1]
    refine r_V0p (as := [xI a1]) (u := w) hC dL_law_312 mi_X8_commit se_X8_commit ml_L_99 (rm := rmX8_commit) rfl how.1.o rfl rfl rfl rfl ⟨Nat.le_trans hccw hc, Nat.le_trans hzzw hz⟩ hct ?_ rfl
    rintro _ w2 ⟨hF8, hth, a, rfl, hcase⟩
    have hRv2 : RRv w2 m g1 s1 P1 kp1 K1 b1 n1 := by
      rcases hcase with ⟨z1, -, z2⟩ | ⟨z1, z2⟩
      · rcases hq with ⟨-, -, e1, e2, e3, e4, e5, e6, e7⟩ | ⟨y1, -⟩
        · rw [e1, e2, e3, e4, e5, e6, e7]; exact z2
        · exact absurd z1 y1
      · rcases hq with ⟨y1, -⟩ | ⟨-, e1, e2, e3, e4, e5, e6, e7⟩
        · exact absurd y1 z1
        · rw [e1, e2, e3, e4, e5, e6, e7]; exact z2
    have hLI2 : LI (cxD C) w2 x m o sc L (T + 1525) := LI.next hXw htw hn1 how hstw hsmw hF8 hRv2 hT1
    have how2 := how.fr hF8
    refine r_istore (lv' := [_, _, _, _, _, _, _, _, _]) hC dL_law_315 (lt_b rfl) rfl (lt_b rfl) rfl ?_
    refine r_aload_n hC dL_law_317 rfl ?_
    refine r_V0 hC dL_law_318 mi_X8_thrown se_X8_thrown ml_L_89 (rm := rmX8_thrown) rfl how2.1.o rfl rfl rfl rfl ⟨Nat.le_trans hccw hc, Nat.le_trans hzzw hz⟩ (e_thrown hfC how2.1) ?_ rfl
    rw [hth]
    refine r_iload hC dL_law_321 rfl ?_
    refine r_icmp_eq (t := 328) hC dL_law_323 (by rfl) hrq hrq (fun _ => ?_) (fun h => absurd rfl h)
    refine r_iload hC dL_law_328 rfl ?_
    refine r_if_ne (t := 345) hC dL_law_330 (by rfl) hrq (fun hne => ?_) (fun heq => ?_)
    · refine r_goto (t := 1536) hC dL_law_345 (by rfl) ?_
      exact vw_widen hccw hzzw (kk w2 _ _ _ _ hLI2)
    · have h0 : q_commit f a1 = 0 := heq
      have hJ : mJ w2 o 0 = i2j (m_commitsC f a1) := by
        rcases hq with ⟨-, e, -⟩ | ⟨y1, -⟩
        · rw [hF8.2.2.1]; exact e
        · exact absurd h0 y1
      have ha : a = m_commitsC f a1 := by
        rcases hcase with ⟨-, e, -⟩ | ⟨y1, -⟩
        · exact e
        · exact absurd h0 y1
      refine r_aload_n hC dL_law_333 rfl ?_
      refine r_iconst hC dL_law_334 ?_
      refine r_lald hC dL_law_335 how2.2.1.1 ⟨by decide, by decide⟩ ?_
      refine r_iload hC dL_law_336 rfl ?_
      refine r_i2l hC dL_law_338 ?_
      rw [hJ, ha]
      refine r_lcmp hC dL_law_339 ?_
      rw [lgc_self]
      refine r_if_eq (t := 345) hC dL_law_340 (by rfl) (by decide) (fun _ => ?_) (fun h => absurd rfl h)
      refine r_goto (t := 1536) hC dL_law_345 (by rfl) ?_
      exact vw_widen hccw hzzw (kk w2 _ _ _ _ hLI2)
  refine r_aload_n hC dL_law_292 rfl ?_
  refine r_aload_n hC dL_law_293 rfl ?_
  refine r_iload hC dL_law_294 rfl ?_
  refine r_iconst hC dL_law_296 ?_
  refine r_iadd hC dL_law_297 ?_
  refine r_ialdS hC dL_law_298 hsc ⟨by omega, by omega⟩ ?_
  rw [← ha1]
  refine r_aload_n hC dL_law_299 rfl ?_
  refine r_callH (as := [xA x, xI a1, xA o]) hC dL_law_300 mh_commit sh_commit ml_L_96 (rm := rmL_commit) ⟨le_b rfl, le_b rfl⟩ rfl (le_b rfl) (by show c + 146 ≤ 601024; omega) (by show z + 2320 ≤ 7293034; omega) (h_commit hfC hX.1.1 (k_Rl_commit hfC hX rP hst hr1) (by rintro r w ⟨rfl, h1, h2, h3⟩; exact ⟨⟨_, rfl⟩, by rw [(h2.2 o (hRo.2.2.1 o (Or.inr (Or.inl rfl)))).2.1]; exact hRo.2.1.1⟩)) ?_ rfl
  rintro _ w ⟨rfl, h⟩
  rcases h with ⟨q0, val, w1, hp, rfl⟩ | ⟨q0, n0, hn0, rfl⟩
  · obtain ⟨hv0, hX1, hk1, ht1⟩ := hp
    have hval : val = m_commitsC f a1 := Sum.inl.inj (Option.some.inj hv0)
    exact tail _ (m_commits f a1) (m_savedN s) (m_saved P f s) (kp) (K) (b) n (T) hX1.sJ (htx.tx ht1) hn (hRo.kp hk1).sJ (RRv.kp hRo hk1 hRv) (Sta.kp (w := w1) hst hX.2.1 hk1) (StaM.kp (w := w1) hsm hX.2.1 hk1) (by omega) (fun q hq => (hk1.2 q (hRo.2.2.1 q hq)).2.2.1) (Or.inl ⟨q0, by rw [hval]; exact sJ_at _ _ _ _, rfl, rfl, rfl, rfl, rfl, rfl, rfl⟩)
  · exact tail _ f s P kp K b n T (hX.wN hn0) htx hn (hRo.wN hn0) hRv hst hsm (by omega) (fun _ _ => rfl) (Or.inr ⟨q0, rfl, rfl, rfl, rfl, rfl, rfl, rfl⟩)

set_option maxRecDepth 100000 in
theorem c_drop {C : Cx} (hC : CxOK C cL_law RL room_1 9) (hfC : (cxL C).stackTraces = false) {v : Mem} {x m o sc L : Nat} {T : Int} (hLI : LI (cxD C) v x m o sc L T) {i : Int} (hi : 0 ≤ i ∧ i + 4 ≤ L) (hT : T + 1700 ≤ 2000000) {c z : Nat} (hc : c + 300 ≤ 601024) (hz : z + 4700 ≤ 7293034) {l5 l6 l7 l8 : Option SV} (kk : ∀ (w : Mem) (l5 l6 l7 l8 : Option SV), LI (cxD C) w x m o sc L (T + 1525) → VW C 1536 [some (xA sc), some (xA x), some (xA m), some (xA o), some (xI i), l5, l6, l7, l8] [] w (c + 300) (z + 4700)) : VW C 348 [some (xA sc), some (xA x), some (xA m), some (xA o), some (xI i), l5, l6, l7, l8] [] v c z := by
  obtain ⟨f, s, P, kp, K, b, n, hX, htx, hn, hRo, hRv, hst, hsm⟩ := hLI
  have hI := hX.2.2.1.2
  have hS := hX.2.2.1.1
  have hs6 := hX.2.2.2.1.2.1
  have rP : RF P := (rrv_rf hRv).2.1
  obtain ⟨og, hO, -⟩ := hS.r.2.2.2.2
  have hsc := hRo.2.1.2
  obtain ⟨a1, ha1⟩ : ∃ a, a = mI v sc (i + 1) := ⟨_, rfl⟩
  have hr1 : rg a1 := by rw [ha1]; exact rg_mI _ _ _
  have hrq : rg (q_drop f a1) := by unfold q_drop; (repeat' split) <;> exact ⟨by decide, by decide⟩
  have tail : ∀ (w : Mem) (g1 : RW) (s1 : Int) (P1 : RW) (kp1 : Int) (K1 b1 : RW) (n1 : Nat) (T1 : Int), RX w x g1 s1 P1 kp1 K1 T1 → RXt w x b1 n1 → n1 ≤ 60 → RRo w x m o sc L → RRv w m f s P kp K b n → Sta (cxD C) w x → StaM (cxD C) w x → T1 ≤ T + 1525 → (∀ q, ((m ≤ q ∧ q < m + 8) ∨ q = o ∨ q = sc) → mI w q = mI v q) → ((q_drop f a1 = 0 ∧ mJ w o 0 = i2j (m_dropsC f a1) ∧ g1 = m_drops f a1 ∧ s1 = m_savedN s ∧ P1 = m_saved P f s ∧ kp1 = kp ∧ K1 = K ∧ b1 = b ∧ (n1 : Int) = n) ∨ (q_drop f a1 ≠ 0 ∧ g1 = f ∧ s1 = s ∧ P1 = P ∧ kp1 = kp ∧ K1 = K ∧ b1 = b ∧ (n1 : Int) = n)) → VW C 359 [some (xA sc), some (xA x), some (xA m), some (xA o), some (xI i), l5, l6, l7, l8] [xI (q_drop f a1)] w (c + rmL_drop.cells) (z + rmL_drop.slots) := by
    intro w g1 s1 P1 kp1 K1 b1 n1 T1 hXw htw hn1 how hvw hstw hsmw hT1 hm hq
    have hccw : c + rmL_drop.cells ≤ c + 300 := by show c + 146 ≤ c + 300; omega
    have hzzw : z + rmL_drop.slots ≤ z + 4700 := by show z + 2320 ≤ z + 4700; omega
    have hgq : q_drop f a1 = 0 → RF (m_drops f a1) := fun z9 => by
      rcases hq with ⟨-, -, e1, -⟩ | ⟨h9, -⟩
      · rw [← e1]; exact hXw.2.2.1.2.rf
      · exact absurd z9 h9
    have hct := e_drop (l := cxL C) (D := cxD C) hfC how.1 hvw hs6 hr1 (fun z => hgq z)
    refine r_istore (lv' := [_, _, _, _, _, _, _, _, _]) hC dL_law_359 (lt_b rfl) rfl (lt_b rfl) rfl ?_
    refine r_aload_n hC dL_law_361 rfl ?_
    refine r_aload_n hC dL_law_362 rfl ?_
    refine r_iload hC dL_law_363 rfl ?_
    refine r_iconst hC dL_law_365 ?_
    refine r_iadd hC dL_law_366 ?_
    refine r_ialdS hC dL_law_367 how.2.1.2 ⟨by omega, by omega⟩ ?_
    rw [hm sc (Or.inr (Or.inr rfl)), ← ha1]
    refine r_V0p (as := [xI a1]) (u := w) hC dL_law_368 mi_X8_drop se_X8_drop ml_L_102 (rm := rmX8_drop) rfl how.1.o rfl rfl rfl rfl ⟨Nat.le_trans hccw hc, Nat.le_trans hzzw hz⟩ hct ?_ rfl
    rintro _ w2 ⟨hF8, hth, a, rfl, hcase⟩
    have hRv2 : RRv w2 m g1 s1 P1 kp1 K1 b1 n1 := by
      rcases hcase with ⟨z1, -, z2⟩ | ⟨z1, z2⟩
      · rcases hq with ⟨-, -, e1, e2, e3, e4, e5, e6, e7⟩ | ⟨y1, -⟩
        · rw [e1, e2, e3, e4, e5, e6, e7]; exact z2
        · exact absurd z1 y1
      · rcases hq with ⟨y1, -⟩ | ⟨-, e1, e2, e3, e4, e5, e6, e7⟩
        · exact absurd y1 z1
        · rw [e1, e2, e3, e4, e5, e6, e7]; exact z2
    have hLI2 : LI (cxD C) w2 x m o sc L (T + 1525) := LI.next hXw htw hn1 how hstw hsmw hF8 hRv2 hT1
    have how2 := how.fr hF8
    refine r_istore (lv' := [_, _, _, _, _, _, _, _, _]) hC dL_law_371 (lt_b rfl) rfl (lt_b rfl) rfl ?_
    refine r_aload_n hC dL_law_373 rfl ?_
    refine r_V0 hC dL_law_374 mi_X8_thrown se_X8_thrown ml_L_89 (rm := rmX8_thrown) rfl how2.1.o rfl rfl rfl rfl ⟨Nat.le_trans hccw hc, Nat.le_trans hzzw hz⟩ (e_thrown hfC how2.1) ?_ rfl
    rw [hth]
    refine r_iload hC dL_law_377 rfl ?_
    refine r_icmp_eq (t := 384) hC dL_law_379 (by rfl) hrq hrq (fun _ => ?_) (fun h => absurd rfl h)
    refine r_iload hC dL_law_384 rfl ?_
    refine r_if_ne (t := 401) hC dL_law_386 (by rfl) hrq (fun hne => ?_) (fun heq => ?_)
    · refine r_goto (t := 1536) hC dL_law_401 (by rfl) ?_
      exact vw_widen hccw hzzw (kk w2 _ _ _ _ hLI2)
    · have h0 : q_drop f a1 = 0 := heq
      have hJ : mJ w2 o 0 = i2j (m_dropsC f a1) := by
        rcases hq with ⟨-, e, -⟩ | ⟨y1, -⟩
        · rw [hF8.2.2.1]; exact e
        · exact absurd h0 y1
      have ha : a = m_dropsC f a1 := by
        rcases hcase with ⟨-, e, -⟩ | ⟨y1, -⟩
        · exact e
        · exact absurd h0 y1
      refine r_aload_n hC dL_law_389 rfl ?_
      refine r_iconst hC dL_law_390 ?_
      refine r_lald hC dL_law_391 how2.2.1.1 ⟨by decide, by decide⟩ ?_
      refine r_iload hC dL_law_392 rfl ?_
      refine r_i2l hC dL_law_394 ?_
      rw [hJ, ha]
      refine r_lcmp hC dL_law_395 ?_
      rw [lgc_self]
      refine r_if_eq (t := 401) hC dL_law_396 (by rfl) (by decide) (fun _ => ?_) (fun h => absurd rfl h)
      refine r_goto (t := 1536) hC dL_law_401 (by rfl) ?_
      exact vw_widen hccw hzzw (kk w2 _ _ _ _ hLI2)
  refine r_aload_n hC dL_law_348 rfl ?_
  refine r_aload_n hC dL_law_349 rfl ?_
  refine r_iload hC dL_law_350 rfl ?_
  refine r_iconst hC dL_law_352 ?_
  refine r_iadd hC dL_law_353 ?_
  refine r_ialdS hC dL_law_354 hsc ⟨by omega, by omega⟩ ?_
  rw [← ha1]
  refine r_aload_n hC dL_law_355 rfl ?_
  refine r_callH (as := [xA x, xI a1, xA o]) hC dL_law_356 mh_drop sh_drop ml_L_100 (rm := rmL_drop) ⟨le_b rfl, le_b rfl⟩ rfl (le_b rfl) (by show c + 146 ≤ 601024; omega) (by show z + 2320 ≤ 7293034; omega) (h_drop hfC hX.1.1 (k_Rl_drop hfC hX rP hst hr1) (by rintro r w ⟨rfl, h1, h2, h3⟩; exact ⟨⟨_, rfl⟩, by rw [(h2.2 o (hRo.2.2.1 o (Or.inr (Or.inl rfl)))).2.1]; exact hRo.2.1.1⟩)) ?_ rfl
  rintro _ w ⟨rfl, h⟩
  rcases h with ⟨q0, val, w1, hp, rfl⟩ | ⟨q0, n0, hn0, rfl⟩
  · obtain ⟨hv0, hX1, hk1, ht1⟩ := hp
    have hval : val = m_dropsC f a1 := Sum.inl.inj (Option.some.inj hv0)
    exact tail _ (m_drops f a1) (m_savedN s) (m_saved P f s) (kp) (K) (b) n (T) hX1.sJ (htx.tx ht1) hn (hRo.kp hk1).sJ (RRv.kp hRo hk1 hRv) (Sta.kp (w := w1) hst hX.2.1 hk1) (StaM.kp (w := w1) hsm hX.2.1 hk1) (by omega) (fun q hq => (hk1.2 q (hRo.2.2.1 q hq)).2.2.1) (Or.inl ⟨q0, by rw [hval]; exact sJ_at _ _ _ _, rfl, rfl, rfl, rfl, rfl, rfl, rfl⟩)
  · exact tail _ f s P kp K b n T (hX.wN hn0) htx hn (hRo.wN hn0) hRv hst hsm (by omega) (fun _ _ => rfl) (Or.inr ⟨q0, rfl, rfl, rfl, rfl, rfl, rfl, rfl⟩)

set_option maxRecDepth 100000 in
theorem c_want {C : Cx} (hC : CxOK C cL_law RL room_1 9) (hfC : (cxL C).stackTraces = false) {v : Mem} {x m o sc L : Nat} {T : Int} (hLI : LI (cxD C) v x m o sc L T) {i : Int} (hi : 0 ≤ i ∧ i + 4 ≤ L) (hT : T + 1700 ≤ 2000000) {c z : Nat} (hc : c + 300 ≤ 601024) (hz : z + 4700 ≤ 7293034) {l5 l6 l7 l8 : Option SV} (kk : ∀ (w : Mem) (l5 l6 l7 l8 : Option SV), LI (cxD C) w x m o sc L (T + 1525) → VW C 1536 [some (xA sc), some (xA x), some (xA m), some (xA o), some (xI i), l5, l6, l7, l8] [] w (c + 300) (z + 4700)) : VW C 404 [some (xA sc), some (xA x), some (xA m), some (xA o), some (xI i), l5, l6, l7, l8] [] v c z := by
  obtain ⟨f, s, P, kp, K, b, n, hX, htx, hn, hRo, hRv, hst, hsm⟩ := hLI
  have hI := hX.2.2.1.2
  have hS := hX.2.2.1.1
  have hs6 := hX.2.2.2.1.2.1
  have rP : RF P := (rrv_rf hRv).2.1
  obtain ⟨og, hO, -⟩ := hS.r.2.2.2.2
  have hsc := hRo.2.1.2
  obtain ⟨a1, ha1⟩ : ∃ a, a = mI v sc (i + 1) := ⟨_, rfl⟩
  have hr1 : rg a1 := by rw [ha1]; exact rg_mI _ _ _
  obtain ⟨a2, ha2⟩ : ∃ a, a = mI v sc (i + 2) := ⟨_, rfl⟩
  have hr2 : rg a2 := by rw [ha2]; exact rg_mI _ _ _
  have hrq : rg (q_want a1 a2) := by unfold q_want; (repeat' split) <;> exact ⟨by decide, by decide⟩
  have tail : ∀ (w : Mem) (g1 : RW) (s1 : Int) (P1 : RW) (kp1 : Int) (K1 b1 : RW) (n1 : Nat) (T1 : Int), RX w x g1 s1 P1 kp1 K1 T1 → RXt w x b1 n1 → n1 ≤ 60 → RRo w x m o sc L → RRv w m f s P kp K b n → Sta (cxD C) w x → StaM (cxD C) w x → T1 ≤ T + 1525 → (∀ q, ((m ≤ q ∧ q < m + 8) ∨ q = o ∨ q = sc) → mI w q = mI v q) → ((q_want a1 a2 = 0 ∧ mJ w o 0 = i2j (m_of f a1 0) ∧ g1 = up f (697 + 38 * a1 + 0) a2 ∧ s1 = m_savedN s ∧ P1 = m_saved P f s ∧ kp1 = kp ∧ K1 = K ∧ b1 = b ∧ (n1 : Int) = n) ∨ (q_want a1 a2 ≠ 0 ∧ g1 = f ∧ s1 = s ∧ P1 = P ∧ kp1 = kp ∧ K1 = K ∧ b1 = b ∧ (n1 : Int) = n)) → VW C 421 [some (xA sc), some (xA x), some (xA m), some (xA o), some (xI i), l5, l6, l7, l8] [xI (q_want a1 a2)] w (c + rmL_want.cells) (z + rmL_want.slots) := by
    intro w g1 s1 P1 kp1 K1 b1 n1 T1 hXw htw hn1 how hvw hstw hsmw hT1 hm hq
    have hccw : c + rmL_want.cells ≤ c + 300 := by show c + 146 ≤ c + 300; omega
    have hzzw : z + rmL_want.slots ≤ z + 4700 := by show z + 2320 ≤ z + 4700; omega
    have hgq : q_want a1 a2 = 0 → RF (up f (697 + 38 * a1 + 0) a2) := fun z9 => by
      rcases hq with ⟨-, -, e1, -⟩ | ⟨h9, -⟩
      · rw [← e1]; exact hXw.2.2.1.2.rf
      · exact absurd z9 h9
    have hct := e_want (l := cxL C) (D := cxD C) hfC how.1 hvw hs6 hr1 hr2 (fun z => hgq z)
    refine r_istore (lv' := [_, _, _, _, _, _, _, _, _]) hC dL_law_421 (lt_b rfl) rfl (lt_b rfl) rfl ?_
    refine r_aload_n hC dL_law_423 rfl ?_
    refine r_aload_n hC dL_law_424 rfl ?_
    refine r_iload hC dL_law_425 rfl ?_
    refine r_iconst hC dL_law_427 ?_
    refine r_iadd hC dL_law_428 ?_
    refine r_ialdS hC dL_law_429 how.2.1.2 ⟨by omega, by omega⟩ ?_
    rw [hm sc (Or.inr (Or.inr rfl)), ← ha1]
    refine r_aload_n hC dL_law_430 rfl ?_
    refine r_iload hC dL_law_431 rfl ?_
    refine r_iconst hC dL_law_433 ?_
    refine r_iadd hC dL_law_434 ?_
    refine r_ialdS hC dL_law_435 how.2.1.2 ⟨by omega, by omega⟩ ?_
    rw [hm sc (Or.inr (Or.inr rfl)), ← ha2]
    refine r_V0p (as := [xI a1, xI a2]) (u := w) hC dL_law_436 mi_X8_want se_X8_want ml_L_106 (rm := rmX8_want) rfl how.1.o rfl rfl rfl rfl ⟨Nat.le_trans hccw hc, Nat.le_trans hzzw hz⟩ hct ?_ rfl
    rintro _ w2 ⟨hF8, hth, a, rfl, hcase⟩
    have hRv2 : RRv w2 m g1 s1 P1 kp1 K1 b1 n1 := by
      rcases hcase with ⟨z1, -, z2⟩ | ⟨z1, z2⟩
      · rcases hq with ⟨-, -, e1, e2, e3, e4, e5, e6, e7⟩ | ⟨y1, -⟩
        · rw [e1, e2, e3, e4, e5, e6, e7]; exact z2
        · exact absurd z1 y1
      · rcases hq with ⟨y1, -⟩ | ⟨-, e1, e2, e3, e4, e5, e6, e7⟩
        · exact absurd y1 z1
        · rw [e1, e2, e3, e4, e5, e6, e7]; exact z2
    have hLI2 : LI (cxD C) w2 x m o sc L (T + 1525) := LI.next hXw htw hn1 how hstw hsmw hF8 hRv2 hT1
    have how2 := how.fr hF8
    refine r_istore (lv' := [_, _, _, _, _, _, _, _, _]) hC dL_law_439 (lt_b rfl) rfl (lt_b rfl) rfl ?_
    refine r_aload_n hC dL_law_441 rfl ?_
    refine r_V0 hC dL_law_442 mi_X8_thrown se_X8_thrown ml_L_89 (rm := rmX8_thrown) rfl how2.1.o rfl rfl rfl rfl ⟨Nat.le_trans hccw hc, Nat.le_trans hzzw hz⟩ (e_thrown hfC how2.1) ?_ rfl
    rw [hth]
    refine r_iload hC dL_law_445 rfl ?_
    refine r_icmp_eq (t := 452) hC dL_law_447 (by rfl) hrq hrq (fun _ => ?_) (fun h => absurd rfl h)
    refine r_iload hC dL_law_452 rfl ?_
    refine r_if_ne (t := 469) hC dL_law_454 (by rfl) hrq (fun hne => ?_) (fun heq => ?_)
    · refine r_goto (t := 1536) hC dL_law_469 (by rfl) ?_
      exact vw_widen hccw hzzw (kk w2 _ _ _ _ hLI2)
    · have h0 : q_want a1 a2 = 0 := heq
      have hJ : mJ w2 o 0 = i2j (m_of f a1 0) := by
        rcases hq with ⟨-, e, -⟩ | ⟨y1, -⟩
        · rw [hF8.2.2.1]; exact e
        · exact absurd h0 y1
      have ha : a = m_of f a1 0 := by
        rcases hcase with ⟨-, e, -⟩ | ⟨y1, -⟩
        · exact e
        · exact absurd h0 y1
      refine r_aload_n hC dL_law_457 rfl ?_
      refine r_iconst hC dL_law_458 ?_
      refine r_lald hC dL_law_459 how2.2.1.1 ⟨by decide, by decide⟩ ?_
      refine r_iload hC dL_law_460 rfl ?_
      refine r_i2l hC dL_law_462 ?_
      rw [hJ, ha]
      refine r_lcmp hC dL_law_463 ?_
      rw [lgc_self]
      refine r_if_eq (t := 469) hC dL_law_464 (by rfl) (by decide) (fun _ => ?_) (fun h => absurd rfl h)
      refine r_goto (t := 1536) hC dL_law_469 (by rfl) ?_
      exact vw_widen hccw hzzw (kk w2 _ _ _ _ hLI2)
  refine r_aload_n hC dL_law_404 rfl ?_
  refine r_aload_n hC dL_law_405 rfl ?_
  refine r_iload hC dL_law_406 rfl ?_
  refine r_iconst hC dL_law_408 ?_
  refine r_iadd hC dL_law_409 ?_
  refine r_ialdS hC dL_law_410 hsc ⟨by omega, by omega⟩ ?_
  rw [← ha1]
  refine r_aload_n hC dL_law_411 rfl ?_
  refine r_iload hC dL_law_412 rfl ?_
  refine r_iconst hC dL_law_414 ?_
  refine r_iadd hC dL_law_415 ?_
  refine r_ialdS hC dL_law_416 hsc ⟨by omega, by omega⟩ ?_
  rw [← ha2]
  refine r_aload_n hC dL_law_417 rfl ?_
  refine r_callH (as := [xA x, xI a1, xI a2, xA o]) hC dL_law_418 mh_want sh_want ml_L_103 (rm := rmL_want) ⟨le_b rfl, le_b rfl⟩ rfl (le_b rfl) (by show c + 146 ≤ 601024; omega) (by show z + 2320 ≤ 7293034; omega) (h_want hfC hX.1.1 (k_Rl_want hfC hX rP hst hr1 hr2) (by rintro r w ⟨rfl, h1, h2, h3⟩; exact ⟨⟨_, rfl⟩, by rw [(h2.2 o (hRo.2.2.1 o (Or.inr (Or.inl rfl)))).2.1]; exact hRo.2.1.1⟩)) ?_ rfl
  rintro _ w ⟨rfl, h⟩
  rcases h with ⟨q0, val, w1, hp, rfl⟩ | ⟨q0, n0, hn0, rfl⟩
  · obtain ⟨hv0, hX1, hk1, ht1⟩ := hp
    have hval : val = m_of f a1 0 := Sum.inl.inj (Option.some.inj hv0)
    exact tail _ (up f (697 + 38 * a1 + 0) a2) (m_savedN s) (m_saved P f s) (kp) (K) (b) n (T) hX1.sJ (htx.tx ht1) hn (hRo.kp hk1).sJ (RRv.kp hRo hk1 hRv) (Sta.kp (w := w1) hst hX.2.1 hk1) (StaM.kp (w := w1) hsm hX.2.1 hk1) (by omega) (fun q hq => (hk1.2 q (hRo.2.2.1 q hq)).2.2.1) (Or.inl ⟨q0, by rw [hval]; exact sJ_at _ _ _ _, rfl, rfl, rfl, rfl, rfl, rfl, rfl⟩)
  · exact tail _ f s P kp K b n T (hX.wN hn0) htx hn (hRo.wN hn0) hRv hst hsm (by omega) (fun _ _ => rfl) (Or.inr ⟨q0, rfl, rfl, rfl, rfl, rfl, rfl, rfl⟩)

set_option maxRecDepth 100000 in
theorem c_pass {C : Cx} (hC : CxOK C cL_law RL room_1 9) (hfC : (cxL C).stackTraces = false) {v : Mem} {x m o sc L : Nat} {T : Int} (hLI : LI (cxD C) v x m o sc L T) {i : Int} (hi : 0 ≤ i ∧ i + 4 ≤ L) (hT : T + 1700 ≤ 2000000) {c z : Nat} (hc : c + 300 ≤ 601024) (hz : z + 4700 ≤ 7293034) {l5 l6 l7 l8 : Option SV} (kk : ∀ (w : Mem) (l5 l6 l7 l8 : Option SV), LI (cxD C) w x m o sc L (T + 1525) → VW C 1536 [some (xA sc), some (xA x), some (xA m), some (xA o), some (xI i), l5, l6, l7, l8] [] w (c + 300) (z + 4700)) : VW C 472 [some (xA sc), some (xA x), some (xA m), some (xA o), some (xI i), l5, l6, l7, l8] [] v c z := by
  obtain ⟨f, s, P, kp, K, b, n, hX, htx, hn, hRo, hRv, hst, hsm⟩ := hLI
  have hI := hX.2.2.1.2
  have hS := hX.2.2.1.1
  have hs6 := hX.2.2.2.1.2.1
  have rP : RF P := (rrv_rf hRv).2.1
  obtain ⟨og, hO, -⟩ := hS.r.2.2.2.2
  have hsc := hRo.2.1.2
  obtain ⟨a1, ha1⟩ : ∃ a, a = mI v sc (i + 1) := ⟨_, rfl⟩
  have hr1 : rg a1 := by rw [ha1]; exact rg_mI _ _ _
  have hrq : rg (q_pass a1) := by unfold q_pass; (repeat' split) <;> exact ⟨by decide, by decide⟩
  have tail : ∀ (w : Mem) (g1 : RW) (s1 : Int) (P1 : RW) (kp1 : Int) (K1 b1 : RW) (n1 : Nat) (T1 : Int), RX w x g1 s1 P1 kp1 K1 T1 → RXt w x b1 n1 → n1 ≤ 60 → RRo w x m o sc L → RRv w m f s P kp K b n → Sta (cxD C) w x → StaM (cxD C) w x → T1 ≤ T + 1525 → (∀ q, ((m ≤ q ∧ q < m + 8) ∨ q = o ∨ q = sc) → mI w q = mI v q) → ((q_pass a1 = 0 ∧ mJ w o 0 = i2j (m_eff (m_pass f (mI v (m + 7)) a1.toNat).1 - m_eff f) ∧ g1 = (m_pass f (mI v (m + 7)) a1.toNat).1 ∧ s1 = m_savedN s ∧ P1 = m_saved P f s ∧ kp1 = kp ∧ K1 = K ∧ b1 = b ∧ (n1 : Int) = n) ∨ (q_pass a1 ≠ 0 ∧ g1 = f ∧ s1 = s ∧ P1 = P ∧ kp1 = kp ∧ K1 = K ∧ b1 = b ∧ (n1 : Int) = n)) → VW C 483 [some (xA sc), some (xA x), some (xA m), some (xA o), some (xI i), l5, l6, l7, l8] [xI (q_pass a1)] w (c + rmL_pass.cells) (z + rmL_pass.slots) := by
    intro w g1 s1 P1 kp1 K1 b1 n1 T1 hXw htw hn1 how hvw hstw hsmw hT1 hm hq
    have hccw : c + rmL_pass.cells ≤ c + 300 := by show c + 146 ≤ c + 300; omega
    have hzzw : z + rmL_pass.slots ≤ z + 4700 := by show z + 2320 ≤ z + 4700; omega
    have h7w := hm (m + 7) (Or.inl ⟨by omega, by omega⟩)
    have hgp : q_pass a1 = 0 → RF (m_pass f (mI w (m + 7)) a1.toNat).1 ∧ RF (m_pass f (mI w (m + 7)) a1.toNat).2 := fun z9 => by
      have h19 := pass_0 z9
      have h := pass_inv hI (rf_mI w (m + 7)) a1.toNat (by omega)
      exact ⟨h.1.rf, h.2.1⟩
    have hct := e_pass (l := cxL C) (D := cxD C) hfC how.1 hvw hs6 hr1 (fun h1 h99 => pass_ok hI (rf_mI _ _) (by omega)) (fun z => hgp z)
    rw [h7w] at hct
    refine r_istore (lv' := [_, _, _, _, _, _, _, _, _]) hC dL_law_483 (lt_b rfl) rfl (lt_b rfl) rfl ?_
    refine r_aload_n hC dL_law_485 rfl ?_
    refine r_aload_n hC dL_law_486 rfl ?_
    refine r_iload hC dL_law_487 rfl ?_
    refine r_iconst hC dL_law_489 ?_
    refine r_iadd hC dL_law_490 ?_
    refine r_ialdS hC dL_law_491 how.2.1.2 ⟨by omega, by omega⟩ ?_
    rw [hm sc (Or.inr (Or.inr rfl)), ← ha1]
    refine r_V0p (as := [xI a1]) (u := w) hC dL_law_492 mi_X8_pass se_X8_pass ml_L_109 (rm := rmX8_pass) rfl how.1.o rfl rfl rfl rfl ⟨Nat.le_trans hccw hc, Nat.le_trans hzzw hz⟩ hct ?_ rfl
    rintro _ w2 ⟨hF8, hth, a, rfl, hcase⟩
    have hRv2 : RRv w2 m g1 s1 P1 kp1 K1 b1 n1 := by
      rcases hcase with ⟨z1, -, z2⟩ | ⟨z1, z2⟩
      · rcases hq with ⟨-, -, e1, e2, e3, e4, e5, e6, e7⟩ | ⟨y1, -⟩
        · rw [e1, e2, e3, e4, e5, e6, e7]; exact z2
        · exact absurd z1 y1
      · rcases hq with ⟨y1, -⟩ | ⟨-, e1, e2, e3, e4, e5, e6, e7⟩
        · exact absurd y1 z1
        · rw [e1, e2, e3, e4, e5, e6, e7]; exact z2
    have hLI2 : LI (cxD C) w2 x m o sc L (T + 1525) := LI.next hXw htw hn1 how hstw hsmw hF8 hRv2 hT1
    have how2 := how.fr hF8
    refine r_istore (lv' := [_, _, _, _, _, _, _, _, _]) hC dL_law_495 (lt_b rfl) rfl (lt_b rfl) rfl ?_
    refine r_aload_n hC dL_law_497 rfl ?_
    refine r_V0 hC dL_law_498 mi_X8_thrown se_X8_thrown ml_L_89 (rm := rmX8_thrown) rfl how2.1.o rfl rfl rfl rfl ⟨Nat.le_trans hccw hc, Nat.le_trans hzzw hz⟩ (e_thrown hfC how2.1) ?_ rfl
    rw [hth]
    refine r_iload hC dL_law_501 rfl ?_
    refine r_icmp_eq (t := 508) hC dL_law_503 (by rfl) hrq hrq (fun _ => ?_) (fun h => absurd rfl h)
    refine r_iload hC dL_law_508 rfl ?_
    refine r_if_ne (t := 525) hC dL_law_510 (by rfl) hrq (fun hne => ?_) (fun heq => ?_)
    · refine r_goto (t := 1536) hC dL_law_525 (by rfl) ?_
      exact vw_widen hccw hzzw (kk w2 _ _ _ _ hLI2)
    · have h0 : q_pass a1 = 0 := heq
      have hJ : mJ w2 o 0 = i2j (m_eff (m_pass f (mI v (m + 7)) a1.toNat).1 - m_eff f) := by
        rcases hq with ⟨-, e, -⟩ | ⟨y1, -⟩
        · rw [hF8.2.2.1]; exact e
        · exact absurd h0 y1
      have ha : a = m_eff (m_pass f (mI v (m + 7)) a1.toNat).1 - m_eff f := by
        rcases hcase with ⟨-, e, -⟩ | ⟨y1, -⟩
        · exact e
        · exact absurd h0 y1
      refine r_aload_n hC dL_law_513 rfl ?_
      refine r_iconst hC dL_law_514 ?_
      refine r_lald hC dL_law_515 how2.2.1.1 ⟨by decide, by decide⟩ ?_
      refine r_iload hC dL_law_516 rfl ?_
      refine r_i2l hC dL_law_518 ?_
      rw [hJ, ha]
      refine r_lcmp hC dL_law_519 ?_
      rw [lgc_self]
      refine r_if_eq (t := 525) hC dL_law_520 (by rfl) (by decide) (fun _ => ?_) (fun h => absurd rfl h)
      refine r_goto (t := 1536) hC dL_law_525 (by rfl) ?_
      exact vw_widen hccw hzzw (kk w2 _ _ _ _ hLI2)
  refine r_aload_n hC dL_law_472 rfl ?_
  refine r_aload_n hC dL_law_473 rfl ?_
  refine r_iload hC dL_law_474 rfl ?_
  refine r_iconst hC dL_law_476 ?_
  refine r_iadd hC dL_law_477 ?_
  refine r_ialdS hC dL_law_478 hsc ⟨by omega, by omega⟩ ?_
  rw [← ha1]
  refine r_aload_n hC dL_law_479 rfl ?_
  refine r_callH (as := [xA x, xI a1, xA o]) hC dL_law_480 mh_pass sh_pass ml_L_107 (rm := rmL_pass) ⟨le_b rfl, le_b rfl⟩ rfl (le_b rfl) (by show c + 146 ≤ 601024; omega) (by show z + 2320 ≤ 7293034; omega) (h_pass hfC hX.1.1 (k_Rl_pass hfC hX rP hst hr1 (b := mI v (m + 7)) (rf_mI _ _) (by omega)) (by rintro r w ⟨rfl, h1, h2, h3⟩; exact ⟨⟨_, rfl⟩, by rw [(h2.2 o (hRo.2.2.1 o (Or.inr (Or.inl rfl)))).2.1]; exact hRo.2.1.1⟩)) ?_ rfl
  rintro _ w ⟨rfl, h⟩
  rcases h with ⟨q0, val, w1, hp, rfl⟩ | ⟨q0, n0, hn0, rfl⟩
  · obtain ⟨hv0, hX1, hk1, ht1⟩ := hp
    have hval : val = m_eff (m_pass f (mI v (m + 7)) a1.toNat).1 - m_eff f := Sum.inl.inj (Option.some.inj hv0)
    exact tail _ ((m_pass f (mI v (m + 7)) a1.toNat).1) (m_savedN s) (m_saved P f s) (kp) (K) (b) n (T + 99) hX1.sJ (htx.tx ht1) hn (hRo.kp hk1).sJ (RRv.kp hRo hk1 hRv) (Sta.kp (w := w1) hst hX.2.1 hk1) (StaM.kp (w := w1) hsm hX.2.1 hk1) (by omega) (fun q hq => (hk1.2 q (hRo.2.2.1 q hq)).2.2.1) (Or.inl ⟨q0, by rw [hval]; exact sJ_at _ _ _ _, rfl, rfl, rfl, rfl, rfl, rfl, rfl⟩)
  · exact tail _ f s P kp K b n T (hX.wN hn0) htx hn (hRo.wN hn0) hRv hst hsm (by omega) (fun _ _ => rfl) (Or.inr ⟨q0, rfl, rfl, rfl, rfl, rfl, rfl, rfl⟩)
