set_option maxRecDepth 100000 in
theorem c_lose {C : Cx} (hC : CxOK C cL_law RL room_1 9) (hfC : (cxL C).stackTraces = false) {v : Mem} {x m o sc L : Nat} {T : Int} (hLI : LI (cxD C) v x m o sc L T) {i : Int} (hi : 0 ≤ i ∧ i + 4 ≤ L) (hT : T + 1700 ≤ 2000000) {c z : Nat} (hc : c + 300 ≤ 601024) (hz : z + 4700 ≤ 7293034) {l5 l6 l7 l8 : Option SV} (kk : ∀ (w : Mem) (l5 l6 l7 l8 : Option SV), LI (cxD C) w x m o sc L (T + 1525) → VW C 1536 [some (xA sc), some (xA x), some (xA m), some (xA o), some (xI i), l5, l6, l7, l8] [] w (c + 300) (z + 4700)) : VW C 528 [some (xA sc), some (xA x), some (xA m), some (xA o), some (xI i), l5, l6, l7, l8] [] v c z := by
  obtain ⟨f, s, P, kp, K, b, n, hX, htx, hn, hRo, hRv, hst, hsm⟩ := hLI
  have hI := hX.2.2.1.2
  have hS := hX.2.2.1.1
  have hs6 := hX.2.2.2.1.2.1
  have rP : RF P := (rrv_rf hRv).2.1
  obtain ⟨og, hO, -⟩ := hS.r.2.2.2.2
  have hsc := hRo.2.1.2
  have hrq : rg (q_lose f) := by unfold q_lose; (repeat' split) <;> exact ⟨by decide, by decide⟩
  have tail : ∀ (w : Mem) (g1 : RW) (s1 : Int) (P1 : RW) (kp1 : Int) (K1 b1 : RW) (n1 : Nat) (T1 : Int), RX w x g1 s1 P1 kp1 K1 T1 → RXt w x b1 n1 → n1 ≤ 60 → RRo w x m o sc L → RRv w m f s P kp K b n → Sta (cxD C) w x → StaM (cxD C) w x → T1 ≤ T + 1525 → (∀ q, ((m ≤ q ∧ q < m + 8) ∨ q = o ∨ q = sc) → mI w q = mI v q) → ((q_lose f = 0 ∧ mJ w o 0 = i2j ((m_lose f) 9) ∧ g1 = m_lose f ∧ s1 = m_savedN s ∧ P1 = m_saved P f s ∧ kp1 = kp ∧ K1 = K ∧ b1 = b ∧ (n1 : Int) = n) ∨ (q_lose f ≠ 0 ∧ g1 = f ∧ s1 = s ∧ P1 = P ∧ kp1 = kp ∧ K1 = K ∧ b1 = b ∧ (n1 : Int) = n)) → VW C 533 [some (xA sc), some (xA x), some (xA m), some (xA o), some (xI i), l5, l6, l7, l8] [xI (q_lose f)] w (c + rmL_lose.cells) (z + rmL_lose.slots) := by
    intro w g1 s1 P1 kp1 K1 b1 n1 T1 hXw htw hn1 how hvw hstw hsmw hT1 hm hq
    have hccw : c + rmL_lose.cells ≤ c + 300 := by show c + 146 ≤ c + 300; omega
    have hzzw : z + rmL_lose.slots ≤ z + 4700 := by show z + 2320 ≤ z + 4700; omega
    have hgq : q_lose f = 0 → RF (m_lose f) := fun z9 => by
      rcases hq with ⟨-, -, e1, -⟩ | ⟨h9, -⟩
      · rw [← e1]; exact hXw.2.2.1.2.rf
      · exact absurd z9 h9
    have hct := e_lose (l := cxL C) (D := cxD C) hfC how.1 hvw hs6 ⟨hI.co.2.2.2.1, by have := hI.b.ni; omega⟩ (fun z => rank_ok hS hI 0 (by decide) (by have := hI.co.2.2.2.1; omega)) (fun z => hgq z)
    refine r_istore (lv' := [_, _, _, _, _, _, _, _, _]) hC dL_law_533 (lt_b rfl) rfl (lt_b rfl) rfl ?_
    refine r_aload_n hC dL_law_535 rfl ?_
    refine r_V0p (as := []) (u := w) hC dL_law_536 mi_X8_lose se_X8_lose ml_L_112 (rm := rmX8_lose) rfl how.1.o rfl rfl rfl rfl ⟨Nat.le_trans hccw hc, Nat.le_trans hzzw hz⟩ hct ?_ rfl
    rintro _ w2 ⟨hF8, hth, a, rfl, hcase⟩
    have hRv2 : RRv w2 m g1 s1 P1 kp1 K1 b1 n1 := by
      rcases hcase with ⟨z1, -, z2⟩ | ⟨z1, z2⟩
      · rcases hq with ⟨-, -, e1, e2, e3, e4, e5, e6, e7⟩ | ⟨y1, -⟩
        · rw [e1, e2, e3, e4, e5, e6, e7]; exact z2
        · exact absurd z1 y1
      · rcases hq with ⟨y1, -⟩ | ⟨-, e1, e2, e3, e4, e5, e6, e7⟩
        · exact absurd y1 z1
        · rw [e1, e2, e3, e4, e5, e6, e7]; exact z2
    have hLI2 : LI (cxD C) w2 x m o sc L (T + 1525) := LI.next hXw htw hn1 how hstw hsmw hF8 hRv2 hT1
    have how2 := how.fr hF8
    refine r_istore (lv' := [_, _, _, _, _, _, _, _, _]) hC dL_law_539 (lt_b rfl) rfl (lt_b rfl) rfl ?_
    refine r_aload_n hC dL_law_541 rfl ?_
    refine r_V0 hC dL_law_542 mi_X8_thrown se_X8_thrown ml_L_89 (rm := rmX8_thrown) rfl how2.1.o rfl rfl rfl rfl ⟨Nat.le_trans hccw hc, Nat.le_trans hzzw hz⟩ (e_thrown hfC how2.1) ?_ rfl
    rw [hth]
    refine r_iload hC dL_law_545 rfl ?_
    refine r_icmp_eq (t := 552) hC dL_law_547 (by rfl) hrq hrq (fun _ => ?_) (fun h => absurd rfl h)
    refine r_iload hC dL_law_552 rfl ?_
    refine r_if_ne (t := 569) hC dL_law_554 (by rfl) hrq (fun hne => ?_) (fun heq => ?_)
    · refine r_goto (t := 1536) hC dL_law_569 (by rfl) ?_
      exact vw_widen hccw hzzw (kk w2 _ _ _ _ hLI2)
    · have h0 : q_lose f = 0 := heq
      have hJ : mJ w2 o 0 = i2j ((m_lose f) 9) := by
        rcases hq with ⟨-, e, -⟩ | ⟨y1, -⟩
        · rw [hF8.2.2.1]; exact e
        · exact absurd h0 y1
      have ha : a = (m_lose f) 9 := by
        rcases hcase with ⟨-, e, -⟩ | ⟨y1, -⟩
        · exact e
        · exact absurd h0 y1
      refine r_aload_n hC dL_law_557 rfl ?_
      refine r_iconst hC dL_law_558 ?_
      refine r_lald hC dL_law_559 how2.2.1.1 ⟨by decide, by decide⟩ ?_
      refine r_iload hC dL_law_560 rfl ?_
      refine r_i2l hC dL_law_562 ?_
      rw [hJ, ha]
      refine r_lcmp hC dL_law_563 ?_
      rw [lgc_self]
      refine r_if_eq (t := 569) hC dL_law_564 (by rfl) (by decide) (fun _ => ?_) (fun h => absurd rfl h)
      refine r_goto (t := 1536) hC dL_law_569 (by rfl) ?_
      exact vw_widen hccw hzzw (kk w2 _ _ _ _ hLI2)
  refine r_aload_n hC dL_law_528 rfl ?_
  refine r_aload_n hC dL_law_529 rfl ?_
  refine r_callH (as := [xA x, xA o]) hC dL_law_530 mh_lose sh_lose ml_L_110 (rm := rmL_lose) ⟨le_b rfl, le_b rfl⟩ rfl (le_b rfl) (by show c + 146 ≤ 601024; omega) (by show z + 2320 ≤ 7293034; omega) (h_lose hfC hX.1.1 (k_Rl_lose hfC hX rP hst) (by rintro r w ⟨rfl, h1, h2, h3⟩; exact ⟨⟨_, rfl⟩, by rw [(h2.2 o (hRo.2.2.1 o (Or.inr (Or.inl rfl)))).2.1]; exact hRo.2.1.1⟩)) ?_ rfl
  rintro _ w ⟨rfl, h⟩
  rcases h with ⟨q0, val, w1, hp, rfl⟩ | ⟨q0, n0, hn0, rfl⟩
  · obtain ⟨hv0, hX1, hk1, ht1⟩ := hp
    have hval : val = (m_lose f) 9 := Sum.inl.inj (Option.some.inj hv0)
    exact tail _ (m_lose f) (m_savedN s) (m_saved P f s) (kp) (K) (b) n (T) hX1.sJ (htx.tx ht1) hn (hRo.kp hk1).sJ (RRv.kp hRo hk1 hRv) (Sta.kp (w := w1) hst hX.2.1 hk1) (StaM.kp (w := w1) hsm hX.2.1 hk1) (by omega) (fun q hq => (hk1.2 q (hRo.2.2.1 q hq)).2.2.1) (Or.inl ⟨q0, by rw [hval]; exact sJ_at _ _ _ _, rfl, rfl, rfl, rfl, rfl, rfl, rfl⟩)
  · exact tail _ f s P kp K b n T (hX.wN hn0) htx hn (hRo.wN hn0) hRv hst hsm (by omega) (fun _ _ => rfl) (Or.inr ⟨q0, rfl, rfl, rfl, rfl, rfl, rfl, rfl⟩)

set_option maxRecDepth 100000 in
theorem c_set {C : Cx} (hC : CxOK C cL_law RL room_1 9) (hfC : (cxL C).stackTraces = false) {v : Mem} {x m o sc L : Nat} {T : Int} (hLI : LI (cxD C) v x m o sc L T) {i : Int} (hi : 0 ≤ i ∧ i + 4 ≤ L) (hT : T + 1700 ≤ 2000000) {c z : Nat} (hc : c + 300 ≤ 601024) (hz : z + 4700 ≤ 7293034) {l5 l6 l7 l8 : Option SV} (kk : ∀ (w : Mem) (l5 l6 l7 l8 : Option SV), LI (cxD C) w x m o sc L (T + 1525) → VW C 1536 [some (xA sc), some (xA x), some (xA m), some (xA o), some (xI i), l5, l6, l7, l8] [] w (c + 300) (z + 4700)) : VW C 585 [some (xA sc), some (xA x), some (xA m), some (xA o), some (xI i), l5, l6, l7, l8] [] v c z := by
  obtain ⟨f, s, P, kp, K, b, n, hX, htx, hn, hRo, hRv, hst, hsm⟩ := hLI
  have hI := hX.2.2.1.2
  have hS := hX.2.2.1.1
  have hs6 := hX.2.2.2.1.2.1
  have rP : RF P := (rrv_rf hRv).2.1
  obtain ⟨og, hO, -⟩ := hS.r.2.2.2.2
  have hsc := hRo.2.1.2
  obtain ⟨a1, ha1⟩ : ∃ a, a = mI v sc (i + 1) := ⟨_, rfl⟩
  have hr1 : rg a1 := by rw [ha1]; exact rg_mI _ _ _
  obtain ⟨a2, ha2⟩ : ∃ a, a = mI v sc (i + 2) := ⟨_, rfl⟩
  have hr2 : rg a2 := by rw [ha2]; exact rg_mI _ _ _
  have hrq : rg (q_set f a1 a2) := by unfold q_set; (repeat' split) <;> exact ⟨by decide, by decide⟩
  have tail : ∀ (w : Mem) (g1 : RW) (s1 : Int) (P1 : RW) (kp1 : Int) (K1 b1 : RW) (n1 : Nat) (T1 : Int), RX w x g1 s1 P1 kp1 K1 T1 → RXt w x b1 n1 → n1 ≤ 60 → RRo w x m o sc L → RRv w m f s P kp K b n → Sta (cxD C) w x → StaM (cxD C) w x → T1 ≤ T + 1525 → (∀ q, ((m ≤ q ∧ q < m + 8) ∨ q = o ∨ q = sc) → mI w q = mI v q) → ((q_set f a1 a2 = 0 ∧ mJ w o 0 = i2j (f (10 + a1)) ∧ g1 = up f (10 + a1) a2 ∧ s1 = m_savedN s ∧ P1 = m_saved P f s ∧ kp1 = kp ∧ K1 = K ∧ b1 = b ∧ (n1 : Int) = n) ∨ (q_set f a1 a2 ≠ 0 ∧ g1 = f ∧ s1 = s ∧ P1 = P ∧ kp1 = kp ∧ K1 = K ∧ b1 = b ∧ (n1 : Int) = n)) → VW C 602 [some (xA sc), some (xA x), some (xA m), some (xA o), some (xI i), l5, l6, l7, l8] [xI (q_set f a1 a2)] w (c + rmL_set.cells) (z + rmL_set.slots) := by
    intro w g1 s1 P1 kp1 K1 b1 n1 T1 hXw htw hn1 how hvw hstw hsmw hT1 hm hq
    have hccw : c + rmL_set.cells ≤ c + 300 := by show c + 146 ≤ c + 300; omega
    have hzzw : z + rmL_set.slots ≤ z + 4700 := by show z + 2320 ≤ z + 4700; omega
    have hgq : q_set f a1 a2 = 0 → RF (up f (10 + a1) a2) := fun z9 => by
      rcases hq with ⟨-, -, e1, -⟩ | ⟨h9, -⟩
      · rw [← e1]; exact hXw.2.2.1.2.rf
      · exact absurd z9 h9
    have hct := e_set (l := cxL C) (D := cxD C) hfC how.1 hvw hs6 hr1 hr2 (fun z => hgq z)
    refine r_istore (lv' := [_, _, _, _, _, _, _, _, _]) hC dL_law_602 (lt_b rfl) rfl (lt_b rfl) rfl ?_
    refine r_aload_n hC dL_law_604 rfl ?_
    refine r_aload_n hC dL_law_605 rfl ?_
    refine r_iload hC dL_law_606 rfl ?_
    refine r_iconst hC dL_law_608 ?_
    refine r_iadd hC dL_law_609 ?_
    refine r_ialdS hC dL_law_610 how.2.1.2 ⟨by omega, by omega⟩ ?_
    rw [hm sc (Or.inr (Or.inr rfl)), ← ha1]
    refine r_aload_n hC dL_law_611 rfl ?_
    refine r_iload hC dL_law_612 rfl ?_
    refine r_iconst hC dL_law_614 ?_
    refine r_iadd hC dL_law_615 ?_
    refine r_ialdS hC dL_law_616 how.2.1.2 ⟨by omega, by omega⟩ ?_
    rw [hm sc (Or.inr (Or.inr rfl)), ← ha2]
    refine r_V0p (as := [xI a1, xI a2]) (u := w) hC dL_law_617 mi_X8_set se_X8_set ml_L_119 (rm := rmX8_set) rfl how.1.o rfl rfl rfl rfl ⟨Nat.le_trans hccw hc, Nat.le_trans hzzw hz⟩ hct ?_ rfl
    rintro _ w2 ⟨hF8, hth, a, rfl, hcase⟩
    have hRv2 : RRv w2 m g1 s1 P1 kp1 K1 b1 n1 := by
      rcases hcase with ⟨z1, -, z2⟩ | ⟨z1, z2⟩
      · rcases hq with ⟨-, -, e1, e2, e3, e4, e5, e6, e7⟩ | ⟨y1, -⟩
        · rw [e1, e2, e3, e4, e5, e6, e7]; exact z2
        · exact absurd z1 y1
      · rcases hq with ⟨y1, -⟩ | ⟨-, e1, e2, e3, e4, e5, e6, e7⟩
        · exact absurd y1 z1
        · rw [e1, e2, e3, e4, e5, e6, e7]; exact z2
    have hLI2 : LI (cxD C) w2 x m o sc L (T + 1525) := LI.next hXw htw hn1 how hstw hsmw hF8 hRv2 hT1
    have how2 := how.fr hF8
    refine r_istore (lv' := [_, _, _, _, _, _, _, _, _]) hC dL_law_620 (lt_b rfl) rfl (lt_b rfl) rfl ?_
    refine r_aload_n hC dL_law_622 rfl ?_
    refine r_V0 hC dL_law_623 mi_X8_thrown se_X8_thrown ml_L_89 (rm := rmX8_thrown) rfl how2.1.o rfl rfl rfl rfl ⟨Nat.le_trans hccw hc, Nat.le_trans hzzw hz⟩ (e_thrown hfC how2.1) ?_ rfl
    rw [hth]
    refine r_iload hC dL_law_626 rfl ?_
    refine r_icmp_eq (t := 633) hC dL_law_628 (by rfl) hrq hrq (fun _ => ?_) (fun h => absurd rfl h)
    refine r_iload hC dL_law_633 rfl ?_
    refine r_if_ne (t := 650) hC dL_law_635 (by rfl) hrq (fun hne => ?_) (fun heq => ?_)
    · refine r_goto (t := 1536) hC dL_law_650 (by rfl) ?_
      exact vw_widen hccw hzzw (kk w2 _ _ _ _ hLI2)
    · have h0 : q_set f a1 a2 = 0 := heq
      have hJ : mJ w2 o 0 = i2j (f (10 + a1)) := by
        rcases hq with ⟨-, e, -⟩ | ⟨y1, -⟩
        · rw [hF8.2.2.1]; exact e
        · exact absurd h0 y1
      have ha : a = f (10 + a1) := by
        rcases hcase with ⟨-, e, -⟩ | ⟨y1, -⟩
        · exact e
        · exact absurd h0 y1
      refine r_aload_n hC dL_law_638 rfl ?_
      refine r_iconst hC dL_law_639 ?_
      refine r_lald hC dL_law_640 how2.2.1.1 ⟨by decide, by decide⟩ ?_
      refine r_iload hC dL_law_641 rfl ?_
      refine r_i2l hC dL_law_643 ?_
      rw [hJ, ha]
      refine r_lcmp hC dL_law_644 ?_
      rw [lgc_self]
      refine r_if_eq (t := 650) hC dL_law_645 (by rfl) (by decide) (fun _ => ?_) (fun h => absurd rfl h)
      refine r_goto (t := 1536) hC dL_law_650 (by rfl) ?_
      exact vw_widen hccw hzzw (kk w2 _ _ _ _ hLI2)
  refine r_aload_n hC dL_law_585 rfl ?_
  refine r_aload_n hC dL_law_586 rfl ?_
  refine r_iload hC dL_law_587 rfl ?_
  refine r_iconst hC dL_law_589 ?_
  refine r_iadd hC dL_law_590 ?_
  refine r_ialdS hC dL_law_591 hsc ⟨by omega, by omega⟩ ?_
  rw [← ha1]
  refine r_aload_n hC dL_law_592 rfl ?_
  refine r_iload hC dL_law_593 rfl ?_
  refine r_iconst hC dL_law_595 ?_
  refine r_iadd hC dL_law_596 ?_
  refine r_ialdS hC dL_law_597 hsc ⟨by omega, by omega⟩ ?_
  rw [← ha2]
  refine r_aload_n hC dL_law_598 rfl ?_
  refine r_callH (as := [xA x, xI a1, xI a2, xA o]) hC dL_law_599 mh_set sh_set ml_L_117 (rm := rmL_set) ⟨le_b rfl, le_b rfl⟩ rfl (le_b rfl) (by show c + 146 ≤ 601024; omega) (by show z + 2320 ≤ 7293034; omega) (h_set hfC hX.1.1 (k_Rl_set hfC hX rP hst hr1 hr2 hsm) (by rintro r w ⟨rfl, h1, h2, h3⟩; exact ⟨⟨_, rfl⟩, by rw [(h2.2 o (hRo.2.2.1 o (Or.inr (Or.inl rfl)))).2.1]; exact hRo.2.1.1⟩)) ?_ rfl
  rintro _ w ⟨rfl, h⟩
  rcases h with ⟨q0, val, w1, hp, rfl⟩ | ⟨q0, n0, hn0, rfl⟩
  · obtain ⟨hv0, hX1, hk1, ht1⟩ := hp
    have hval : val = f (10 + a1) := Sum.inl.inj (Option.some.inj hv0)
    exact tail _ (up f (10 + a1) a2) (m_savedN s) (m_saved P f s) (kp) (K) (b) n (T) hX1.sJ (htx.tx ht1) hn (hRo.kp hk1).sJ (RRv.kp hRo hk1 hRv) (Sta.kp (w := w1) hst hX.2.1 hk1) (StaM.kp (w := w1) hsm hX.2.1 hk1) (by omega) (fun q hq => (hk1.2 q (hRo.2.2.1 q hq)).2.2.1) (Or.inl ⟨q0, by rw [hval]; exact sJ_at _ _ _ _, rfl, rfl, rfl, rfl, rfl, rfl, rfl⟩)
  · exact tail _ f s P kp K b n T (hX.wN hn0) htx hn (hRo.wN hn0) hRv hst hsm (by omega) (fun _ _ => rfl) (Or.inr ⟨q0, rfl, rfl, rfl, rfl, rfl, rfl, rfl⟩)

set_option maxRecDepth 100000 in
theorem c_append {C : Cx} (hC : CxOK C cL_law RL room_1 9) (hfC : (cxL C).stackTraces = false) {v : Mem} {x m o sc L : Nat} {T : Int} (hLI : LI (cxD C) v x m o sc L T) {i : Int} (hi : 0 ≤ i ∧ i + 4 ≤ L) (hT : T + 1700 ≤ 2000000) {c z : Nat} (hc : c + 300 ≤ 601024) (hz : z + 4700 ≤ 7293034) {l5 l6 l7 l8 : Option SV} (kk : ∀ (w : Mem) (l5 l6 l7 l8 : Option SV), LI (cxD C) w x m o sc L (T + 1525) → VW C 1536 [some (xA sc), some (xA x), some (xA m), some (xA o), some (xI i), l5, l6, l7, l8] [] w (c + 300) (z + 4700)) : VW C 653 [some (xA sc), some (xA x), some (xA m), some (xA o), some (xI i), l5, l6, l7, l8] [] v c z := by
  obtain ⟨f, s, P, kp, K, b, n, hX, htx, hn, hRo, hRv, hst, hsm⟩ := hLI
  have hI := hX.2.2.1.2
  have hS := hX.2.2.1.1
  have hs6 := hX.2.2.2.1.2.1
  have rP : RF P := (rrv_rf hRv).2.1
  obtain ⟨og, hO, -⟩ := hS.r.2.2.2.2
  have hsc := hRo.2.1.2
  obtain ⟨a1, ha1⟩ : ∃ a, a = mI v sc (i + 1) := ⟨_, rfl⟩
  have hr1 : rg a1 := by rw [ha1]; exact rg_mI _ _ _
  have hrq : rg (q_append n a1) := by unfold q_append; (repeat' split) <;> exact ⟨by decide, by decide⟩
  have tail : ∀ (w : Mem) (g1 : RW) (s1 : Int) (P1 : RW) (kp1 : Int) (K1 b1 : RW) (n1 : Nat) (T1 : Int), RX w x g1 s1 P1 kp1 K1 T1 → RXt w x b1 n1 → n1 ≤ 60 → RRo w x m o sc L → RRv w m f s P kp K b n → Sta (cxD C) w x → StaM (cxD C) w x → T1 ≤ T + 1525 → (∀ q, ((m ≤ q ∧ q < m + 8) ∨ q = o ∨ q = sc) → mI w q = mI v q) → ((q_append n a1 = 0 ∧ mJ w o 0 = i2j ((n : Int) + 1) ∧ g1 = f ∧ s1 = s ∧ P1 = P ∧ kp1 = kp ∧ K1 = K ∧ b1 = up b n a1 ∧ (n1 : Int) = (n : Int) + 1) ∨ (q_append n a1 ≠ 0 ∧ g1 = f ∧ s1 = s ∧ P1 = P ∧ kp1 = kp ∧ K1 = K ∧ b1 = b ∧ (n1 : Int) = n)) → VW C 664 [some (xA sc), some (xA x), some (xA m), some (xA o), some (xI i), l5, l6, l7, l8] [xI (q_append n a1)] w (c + rmL_append.cells) (z + rmL_append.slots) := by
    intro w g1 s1 P1 kp1 K1 b1 n1 T1 hXw htw hn1 how hvw hstw hsmw hT1 hm hq
    have hccw : c + rmL_append.cells ≤ c + 300 := by show c + 1 ≤ c + 300; omega
    have hzzw : z + rmL_append.slots ≤ z + 4700 := by show z + 6 ≤ z + 4700; omega
    have hct := e_append (l := cxL C) (D := cxD C) hfC how.1 hvw ⟨by omega, by omega⟩ hr1
    refine r_istore (lv' := [_, _, _, _, _, _, _, _, _]) hC dL_law_664 (lt_b rfl) rfl (lt_b rfl) rfl ?_
    refine r_aload_n hC dL_law_666 rfl ?_
    refine r_aload_n hC dL_law_667 rfl ?_
    refine r_iload hC dL_law_668 rfl ?_
    refine r_iconst hC dL_law_670 ?_
    refine r_iadd hC dL_law_671 ?_
    refine r_ialdS hC dL_law_672 how.2.1.2 ⟨by omega, by omega⟩ ?_
    rw [hm sc (Or.inr (Or.inr rfl)), ← ha1]
    refine r_V0p (as := [xI a1]) (u := w) hC dL_law_673 mi_X8_append se_X8_append ml_L_122 (rm := rmX8_append) rfl how.1.o rfl rfl rfl rfl ⟨Nat.le_trans hccw hc, Nat.le_trans hzzw hz⟩ hct ?_ rfl
    rintro _ w2 ⟨hF8, hth, a, rfl, hcase⟩
    have hRv2 : RRv w2 m g1 s1 P1 kp1 K1 b1 n1 := by
      rcases hcase with ⟨z1, -, z2⟩ | ⟨z1, z2⟩
      · rcases hq with ⟨-, -, e1, e2, e3, e4, e5, e6, e7⟩ | ⟨y1, -⟩
        · rw [e1, e2, e3, e4, e5, e6, e7]; exact z2
        · exact absurd z1 y1
      · rcases hq with ⟨y1, -⟩ | ⟨-, e1, e2, e3, e4, e5, e6, e7⟩
        · exact absurd y1 z1
        · rw [e1, e2, e3, e4, e5, e6, e7]; exact z2
    have hLI2 : LI (cxD C) w2 x m o sc L (T + 1525) := LI.next hXw htw hn1 how hstw hsmw hF8 hRv2 hT1
    have how2 := how.fr hF8
    refine r_istore (lv' := [_, _, _, _, _, _, _, _, _]) hC dL_law_676 (lt_b rfl) rfl (lt_b rfl) rfl ?_
    refine r_aload_n hC dL_law_678 rfl ?_
    refine r_V0 hC dL_law_679 mi_X8_thrown se_X8_thrown ml_L_89 (rm := rmX8_thrown) rfl how2.1.o rfl rfl rfl rfl ⟨Nat.le_trans hccw hc, Nat.le_trans hzzw hz⟩ (e_thrown hfC how2.1) ?_ rfl
    rw [hth]
    refine r_iload hC dL_law_682 rfl ?_
    refine r_icmp_eq (t := 689) hC dL_law_684 (by rfl) hrq hrq (fun _ => ?_) (fun h => absurd rfl h)
    refine r_iload hC dL_law_689 rfl ?_
    refine r_if_ne (t := 706) hC dL_law_691 (by rfl) hrq (fun hne => ?_) (fun heq => ?_)
    · refine r_goto (t := 1536) hC dL_law_706 (by rfl) ?_
      exact vw_widen hccw hzzw (kk w2 _ _ _ _ hLI2)
    · have h0 : q_append n a1 = 0 := heq
      have hJ : mJ w2 o 0 = i2j ((n : Int) + 1) := by
        rcases hq with ⟨-, e, -⟩ | ⟨y1, -⟩
        · rw [hF8.2.2.1]; exact e
        · exact absurd h0 y1
      have ha : a = (n : Int) + 1 := by
        rcases hcase with ⟨-, e, -⟩ | ⟨y1, -⟩
        · exact e
        · exact absurd h0 y1
      refine r_aload_n hC dL_law_694 rfl ?_
      refine r_iconst hC dL_law_695 ?_
      refine r_lald hC dL_law_696 how2.2.1.1 ⟨by decide, by decide⟩ ?_
      refine r_iload hC dL_law_697 rfl ?_
      refine r_i2l hC dL_law_699 ?_
      rw [hJ, ha]
      refine r_lcmp hC dL_law_700 ?_
      rw [lgc_self]
      refine r_if_eq (t := 706) hC dL_law_701 (by rfl) (by decide) (fun _ => ?_) (fun h => absurd rfl h)
      refine r_goto (t := 1536) hC dL_law_706 (by rfl) ?_
      exact vw_widen hccw hzzw (kk w2 _ _ _ _ hLI2)
  refine r_aload_n hC dL_law_653 rfl ?_
  refine r_aload_n hC dL_law_654 rfl ?_
  refine r_iload hC dL_law_655 rfl ?_
  refine r_iconst hC dL_law_657 ?_
  refine r_iadd hC dL_law_658 ?_
  refine r_ialdS hC dL_law_659 hsc ⟨by omega, by omega⟩ ?_
  rw [← ha1]
  refine r_aload_n hC dL_law_660 rfl ?_
  refine r_callH (as := [xA x, xI a1, xA o]) hC dL_law_661 mh_append sh_append ml_L_120 (rm := rmL_append) ⟨le_b rfl, le_b rfl⟩ rfl (le_b rfl) (by show c + 1 ≤ 601024; omega) (by show z + 6 ≤ 7293034; omega) (h_append hfC hX.1.1 (k_Rl_append hfC hX rP hst htx hr1) (by rintro r w ⟨rfl, h1, h2, h3⟩; exact ⟨⟨_, rfl⟩, by rw [(h2.2 o (hRo.2.2.1 o (Or.inr (Or.inl rfl)))).2.1]; exact hRo.2.1.1⟩)) ?_ rfl
  rintro _ w ⟨rfl, h⟩
  rcases h with ⟨q0, val, w1, hp, rfl⟩ | ⟨q0, n0, hn0, rfl⟩
  · obtain ⟨hv0, hX1, hk1, htx1⟩ := hp
    have hval : val = (n : Int) + 1 := Sum.inl.inj (Option.some.inj hv0)
    exact tail _ (f) (s) (P) (kp) (K) (up b n a1) (n + 1) (T) hX1.sJ htx1 (by have := app_0 q0; omega) (hRo.kp hk1).sJ (RRv.kp hRo hk1 hRv) (Sta.kp (w := w1) hst hX.2.1 hk1) (StaM.kp (w := w1) hsm hX.2.1 hk1) (by omega) (fun q hq => (hk1.2 q (hRo.2.2.1 q hq)).2.2.1) (Or.inl ⟨q0, by rw [hval]; exact sJ_at _ _ _ _, rfl, rfl, rfl, rfl, rfl, rfl, rfl⟩)
  · exact tail _ f s P kp K b n T (hX.wN hn0) htx hn (hRo.wN hn0) hRv hst hsm (by omega) (fun _ _ => rfl) (Or.inr ⟨q0, rfl, rfl, rfl, rfl, rfl, rfl, rfl⟩)

set_option maxRecDepth 100000 in
theorem c_obey {C : Cx} (hC : CxOK C cL_law RL room_1 9) (hfC : (cxL C).stackTraces = false) {v : Mem} {x m o sc L : Nat} {T : Int} (hLI : LI (cxD C) v x m o sc L T) {i : Int} (hi : 0 ≤ i ∧ i + 4 ≤ L) (hT : T + 1700 ≤ 2000000) {c z : Nat} (hc : c + 300 ≤ 601024) (hz : z + 4700 ≤ 7293034) {l5 l6 l7 l8 : Option SV} (kk : ∀ (w : Mem) (l5 l6 l7 l8 : Option SV), LI (cxD C) w x m o sc L (T + 1525) → VW C 1536 [some (xA sc), some (xA x), some (xA m), some (xA o), some (xI i), l5, l6, l7, l8] [] w (c + 300) (z + 4700)) : VW C 735 [some (xA sc), some (xA x), some (xA m), some (xA o), some (xI i), l5, l6, l7, l8] [] v c z := by
  obtain ⟨f, s, P, kp, K, b, n, hX, htx, hn, hRo, hRv, hst, hsm⟩ := hLI
  have hI := hX.2.2.1.2
  have hS := hX.2.2.1.1
  have hs6 := hX.2.2.2.1.2.1
  have rP : RF P := (rrv_rf hRv).2.1
  obtain ⟨og, hO, -⟩ := hS.r.2.2.2.2
  have hsc := hRo.2.1.2
  have hrq : rg ((if (p_well b n (mI v (m + 6))).1 = true then 0 else 1 : Int)) := by split <;> exact ⟨by decide, by decide⟩
  have tail : ∀ (w : Mem) (g1 : RW) (s1 : Int) (P1 : RW) (kp1 : Int) (K1 b1 : RW) (n1 : Nat) (T1 : Int), RX w x g1 s1 P1 kp1 K1 T1 → RXt w x b1 n1 → n1 ≤ 60 → RRo w x m o sc L → RRv w m f s P kp K b n → Sta (cxD C) w x → StaM (cxD C) w x → T1 ≤ T + 1525 → (∀ q, ((m ≤ q ∧ q < m + 8) ∨ q = o ∨ q = sc) → mI w q = mI v q) → ((p_well b n (mI v (m + 6))).1 = true → p_okL b n 61 true 0 (p_well b n (mI v (m + 6))).2.2 (mI v (m + 7)) f) → (((if (p_well b n (mI v (m + 6))).1 = true then 0 else 1 : Int) = 0 ∧ mJ w o 0 = i2j ((p_obeyL b n 61 true 0 0 (p_well b n (mI v (m + 6))).2.2 (mI v (m + 7)) f).1) ∧ g1 = (p_obeyL b n 61 true 0 0 (p_well b n (mI v (m + 6))).2.2 (mI v (m + 7)) f).2.2.2.2 ∧ s1 = m_savedN s ∧ P1 = m_saved P f s ∧ kp1 = kp ∧ K1 = K ∧ b1 = b ∧ (n1 : Int) = 0) ∨ ((if (p_well b n (mI v (m + 6))).1 = true then 0 else 1 : Int) ≠ 0 ∧ g1 = f ∧ s1 = s ∧ P1 = P ∧ kp1 = kp ∧ K1 = K ∧ b1 = b ∧ (n1 : Int) = n)) → VW C 740 [some (xA sc), some (xA x), some (xA m), some (xA o), some (xI i), l5, l6, l7, l8] [xI ((if (p_well b n (mI v (m + 6))).1 = true then 0 else 1 : Int))] w (c + rmL_obey.cells) (z + rmL_obey.slots) := by
    intro w g1 s1 P1 kp1 K1 b1 n1 T1 hXw htw hn1 how hvw hstw hsmw hT1 hm hok hq
    have hccw : c + rmL_obey.cells ≤ c + 300 := by show c + 146 ≤ c + 300; omega
    have hzzw : z + rmL_obey.slots ≤ z + 4700 := by show z + 2320 ≤ z + 4700; omega
    have hgq : (if (p_well b n (mI v (m + 6))).1 = true then 0 else 1 : Int) = 0 → RF ((p_obeyL b n 61 true 0 0 (p_well b n (mI v (m + 6))).2.2 (mI v (m + 7)) f).2.2.2.2) := fun z9 => by
      rcases hq with ⟨-, -, e1, -⟩ | ⟨h9, -⟩
      · rw [← e1]; exact hXw.2.2.1.2.rf
      · exact absurd z9 h9
    have h6w := hm (m + 6) (Or.inl ⟨by omega, by omega⟩)
    have h7w := hm (m + 7) (Or.inl ⟨by omega, by omega⟩)
    have hct := e_obey (l := cxL C) (D := cxD C) hfC how.1 hvw hs6 ⟨by omega, by omega⟩ (by rw [h6w, h7w]; exact hok) (by rw [h6w, h7w]; exact fun z => hgq (if_pos z))
    rw [h6w, h7w] at hct
    refine r_istore (lv' := [_, _, _, _, _, _, _, _, _]) hC dL_law_740 (lt_b rfl) rfl (lt_b rfl) rfl ?_
    refine r_aload_n hC dL_law_742 rfl ?_
    refine r_V0p (as := []) (u := w) hC dL_law_743 mi_X8_obey se_X8_obey ml_L_133 (rm := rmX8_obey) rfl how.1.o rfl rfl rfl rfl ⟨Nat.le_trans hccw hc, Nat.le_trans hzzw hz⟩ hct ?_ rfl
    rintro _ w2 ⟨hF8, hth, a, rfl, hcase⟩
    have hRv2 : RRv w2 m g1 s1 P1 kp1 K1 b1 n1 := by
      rcases hcase with ⟨z1, -, z2⟩ | ⟨z1, z2⟩
      · rcases hq with ⟨-, -, e1, e2, e3, e4, e5, e6, e7⟩ | ⟨y1, -⟩
        · rw [e1, e2, e3, e4, e5, e6, e7]; exact z2
        · exact absurd z1 y1
      · rcases hq with ⟨y1, -⟩ | ⟨-, e1, e2, e3, e4, e5, e6, e7⟩
        · exact absurd y1 z1
        · rw [e1, e2, e3, e4, e5, e6, e7]; exact z2
    have hLI2 : LI (cxD C) w2 x m o sc L (T + 1525) := LI.next hXw htw hn1 how hstw hsmw hF8 hRv2 hT1
    have how2 := how.fr hF8
    refine r_istore (lv' := [_, _, _, _, _, _, _, _, _]) hC dL_law_746 (lt_b rfl) rfl (lt_b rfl) rfl ?_
    refine r_aload_n hC dL_law_748 rfl ?_
    refine r_V0 hC dL_law_749 mi_X8_thrown se_X8_thrown ml_L_89 (rm := rmX8_thrown) rfl how2.1.o rfl rfl rfl rfl ⟨Nat.le_trans hccw hc, Nat.le_trans hzzw hz⟩ (e_thrown hfC how2.1) ?_ rfl
    rw [hth]
    refine r_iload hC dL_law_752 rfl ?_
    refine r_icmp_eq (t := 759) hC dL_law_754 (by rfl) hrq hrq (fun _ => ?_) (fun h => absurd rfl h)
    refine r_iload hC dL_law_759 rfl ?_
    refine r_if_ne (t := 776) hC dL_law_761 (by rfl) hrq (fun hne => ?_) (fun heq => ?_)
    · refine r_goto (t := 1536) hC dL_law_776 (by rfl) ?_
      exact vw_widen hccw hzzw (kk w2 _ _ _ _ hLI2)
    · have h0 : (if (p_well b n (mI v (m + 6))).1 = true then 0 else 1 : Int) = 0 := heq
      have hJ : mJ w2 o 0 = i2j ((p_obeyL b n 61 true 0 0 (p_well b n (mI v (m + 6))).2.2 (mI v (m + 7)) f).1) := by
        rcases hq with ⟨-, e, -⟩ | ⟨y1, -⟩
        · rw [hF8.2.2.1]; exact e
        · exact absurd h0 y1
      have ha : a = (p_obeyL b n 61 true 0 0 (p_well b n (mI v (m + 6))).2.2 (mI v (m + 7)) f).1 := by
        rcases hcase with ⟨-, e, -⟩ | ⟨y1, -⟩
        · exact e
        · exact absurd h0 y1
      refine r_aload_n hC dL_law_764 rfl ?_
      refine r_iconst hC dL_law_765 ?_
      refine r_lald hC dL_law_766 how2.2.1.1 ⟨by decide, by decide⟩ ?_
      refine r_iload hC dL_law_767 rfl ?_
      refine r_i2l hC dL_law_769 ?_
      rw [hJ, ha]
      refine r_lcmp hC dL_law_770 ?_
      rw [lgc_self]
      refine r_if_eq (t := 776) hC dL_law_771 (by rfl) (by decide) (fun _ => ?_) (fun h => absurd rfl h)
      refine r_goto (t := 1536) hC dL_law_776 (by rfl) ?_
      exact vw_widen hccw hzzw (kk w2 _ _ _ _ hLI2)
  refine r_aload_n hC dL_law_735 rfl ?_
  refine r_aload_n hC dL_law_736 rfl ?_
  refine r_callH (as := [xA x, xA o]) hC dL_law_737 mh_obey sh_obey ml_L_131 (rm := rmL_obey) ⟨le_b rfl, le_b rfl⟩ rfl (le_b rfl) (by show c + 146 ≤ 601024; omega) (by show z + 2320 ≤ 7293034; omega) (h_obey hfC hX.1.1 (k_Rl_obey hfC hX rP hst htx hn (B := mI v (m + 7)) (N0 := mI v (m + 6)) (rf_mI _ _) (rf_mI _ _) hT) (by rintro r w ⟨rfl, h1, h2, h3, h4⟩; exact ⟨⟨_, rfl⟩, by rw [(h2.2 o (hRo.2.2.1 o (Or.inr (Or.inl rfl)))).2.1]; exact hRo.2.1.1⟩)) ?_ rfl
  rintro _ w ⟨rfl, h⟩
  rcases h with ⟨q0, val, w1, hp, rfl⟩ | ⟨q0, n0, hn0, rfl⟩
  · obtain ⟨hv0, hX1, hk1, htx1, hok⟩ := hp
    have hval : val = (p_obeyL b n 61 true 0 0 (p_well b n (mI v (m + 6))).2.2 (mI v (m + 7)) f).1 := Sum.inl.inj (Option.some.inj hv0)
    exact tail _ ((p_obeyL b n 61 true 0 0 (p_well b n (mI v (m + 6))).2.2 (mI v (m + 7)) f).2.2.2.2) (m_savedN s) (m_saved P f s) (kp) (K) (b) 0 (T + 1525) hX1.sJ htx1 (by decide) (hRo.kp hk1).sJ (RRv.kp hRo hk1 hRv) (Sta.kp (w := w1) hst hX.2.1 hk1) (StaM.kp (w := w1) hsm hX.2.1 hk1) (by omega) (fun q hq => (hk1.2 q (hRo.2.2.1 q hq)).2.2.1) (fun _ => hok) (Or.inl ⟨q0, by rw [hval]; exact sJ_at _ _ _ _, rfl, rfl, rfl, rfl, rfl, rfl, rfl⟩)
  · exact tail _ f s P kp K b n T (hX.wN hn0) htx hn (hRo.wN hn0) hRv hst hsm (by omega) (fun _ _ => rfl) (fun z9 => absurd (if_pos z9) q0) (Or.inr ⟨q0, rfl, rfl, rfl, rfl, rfl, rfl, rfl⟩)

set_option maxRecDepth 100000 in
theorem c_goBack {C : Cx} (hC : CxOK C cL_law RL room_1 9) (hfC : (cxL C).stackTraces = false) {v : Mem} {x m o sc L : Nat} {T : Int} (hLI : LI (cxD C) v x m o sc L T) {i : Int} (hi : 0 ≤ i ∧ i + 4 ≤ L) (hT : T + 1700 ≤ 2000000) {c z : Nat} (hc : c + 300 ≤ 601024) (hz : z + 4700 ≤ 7293034) {l5 l6 l7 l8 : Option SV} (kk : ∀ (w : Mem) (l5 l6 l7 l8 : Option SV), LI (cxD C) w x m o sc L (T + 1525) → VW C 1536 [some (xA sc), some (xA x), some (xA m), some (xA o), some (xI i), l5, l6, l7, l8] [] w (c + 300) (z + 4700)) : VW C 792 [some (xA sc), some (xA x), some (xA m), some (xA o), some (xI i), l5, l6, l7, l8] [] v c z := by
  obtain ⟨f, s, P, kp, K, b, n, hX, htx, hn, hRo, hRv, hst, hsm⟩ := hLI
  have hI := hX.2.2.1.2
  have hS := hX.2.2.1.1
  have hs6 := hX.2.2.2.1.2.1
  have rP : RF P := (rrv_rf hRv).2.1
  obtain ⟨og, hO, -⟩ := hS.r.2.2.2.2
  have hsc := hRo.2.1.2
  have hrq : rg ((if kp = 0 then 1 else 0 : Int)) := by split <;> exact ⟨by decide, by decide⟩
  have tail : ∀ (w : Mem) (g1 : RW) (s1 : Int) (P1 : RW) (kp1 : Int) (K1 b1 : RW) (n1 : Nat) (T1 : Int), RX w x g1 s1 P1 kp1 K1 T1 → RXt w x b1 n1 → n1 ≤ 60 → RRo w x m o sc L → RRv w m f s P kp K b n → Sta (cxD C) w x → StaM (cxD C) w x → T1 ≤ T + 1525 → (∀ q, ((m ≤ q ∧ q < m + 8) ∨ q = o ∨ q = sc) → mI w q = mI v q) → (((if kp = 0 then 1 else 0 : Int) = 0 ∧ mJ w o 0 = i2j ((cp f K 1651) 0) ∧ g1 = cp f K 1651 ∧ s1 = m_savedN s ∧ P1 = m_saved P f s ∧ kp1 = kp ∧ K1 = K ∧ b1 = b ∧ (n1 : Int) = n) ∨ ((if kp = 0 then 1 else 0 : Int) ≠ 0 ∧ g1 = f ∧ s1 = s ∧ P1 = P ∧ kp1 = kp ∧ K1 = K ∧ b1 = b ∧ (n1 : Int) = n)) → VW C 797 [some (xA sc), some (xA x), some (xA m), some (xA o), some (xI i), l5, l6, l7, l8] [xI ((if kp = 0 then 1 else 0 : Int))] w (c + rmL_goBack.cells) (z + rmL_goBack.slots) := by
    intro w g1 s1 P1 kp1 K1 b1 n1 T1 hXw htw hn1 how hvw hstw hsmw hT1 hm hq
    have hccw : c + rmL_goBack.cells ≤ c + 300 := by show c + 146 ≤ c + 300; omega
    have hzzw : z + rmL_goBack.slots ≤ z + 4700 := by show z + 2320 ≤ z + 4700; omega
    have hct := e_goBack (l := cxL C) (D := cxD C) hfC how.1 hvw hs6
    refine r_istore (lv' := [_, _, _, _, _, _, _, _, _]) hC dL_law_797 (lt_b rfl) rfl (lt_b rfl) rfl ?_
    refine r_aload_n hC dL_law_799 rfl ?_
    refine r_V0p (as := []) (u := w) hC dL_law_800 mi_X8_goBack se_X8_goBack ml_L_140 (rm := rmX8_goBack) rfl how.1.o rfl rfl rfl rfl ⟨Nat.le_trans hccw hc, Nat.le_trans hzzw hz⟩ hct ?_ rfl
    rintro _ w2 ⟨hF8, hth, a, rfl, hcase⟩
    have hRv2 : RRv w2 m g1 s1 P1 kp1 K1 b1 n1 := by
      rcases hcase with ⟨z1, -, z2⟩ | ⟨z1, z2⟩
      · rcases hq with ⟨-, -, e1, e2, e3, e4, e5, e6, e7⟩ | ⟨y1, -⟩
        · rw [e1, e2, e3, e4, e5, e6, e7]; exact z2
        · exact absurd z1 y1
      · rcases hq with ⟨y1, -⟩ | ⟨-, e1, e2, e3, e4, e5, e6, e7⟩
        · exact absurd y1 z1
        · rw [e1, e2, e3, e4, e5, e6, e7]; exact z2
    have hLI2 : LI (cxD C) w2 x m o sc L (T + 1525) := LI.next hXw htw hn1 how hstw hsmw hF8 hRv2 hT1
    have how2 := how.fr hF8
    refine r_istore (lv' := [_, _, _, _, _, _, _, _, _]) hC dL_law_803 (lt_b rfl) rfl (lt_b rfl) rfl ?_
    refine r_aload_n hC dL_law_805 rfl ?_
    refine r_V0 hC dL_law_806 mi_X8_thrown se_X8_thrown ml_L_89 (rm := rmX8_thrown) rfl how2.1.o rfl rfl rfl rfl ⟨Nat.le_trans hccw hc, Nat.le_trans hzzw hz⟩ (e_thrown hfC how2.1) ?_ rfl
    rw [hth]
    refine r_iload hC dL_law_809 rfl ?_
    refine r_icmp_eq (t := 816) hC dL_law_811 (by rfl) hrq hrq (fun _ => ?_) (fun h => absurd rfl h)
    refine r_iload hC dL_law_816 rfl ?_
    refine r_if_ne (t := 833) hC dL_law_818 (by rfl) hrq (fun hne => ?_) (fun heq => ?_)
    · refine r_goto (t := 1536) hC dL_law_833 (by rfl) ?_
      exact vw_widen hccw hzzw (kk w2 _ _ _ _ hLI2)
    · have h0 : (if kp = 0 then 1 else 0 : Int) = 0 := heq
      have hJ : mJ w2 o 0 = i2j ((cp f K 1651) 0) := by
        rcases hq with ⟨-, e, -⟩ | ⟨y1, -⟩
        · rw [hF8.2.2.1]; exact e
        · exact absurd h0 y1
      have ha : a = (cp f K 1651) 0 := by
        rcases hcase with ⟨-, e, -⟩ | ⟨y1, -⟩
        · exact e
        · exact absurd h0 y1
      refine r_aload_n hC dL_law_821 rfl ?_
      refine r_iconst hC dL_law_822 ?_
      refine r_lald hC dL_law_823 how2.2.1.1 ⟨by decide, by decide⟩ ?_
      refine r_iload hC dL_law_824 rfl ?_
      refine r_i2l hC dL_law_826 ?_
      rw [hJ, ha]
      refine r_lcmp hC dL_law_827 ?_
      rw [lgc_self]
      refine r_if_eq (t := 833) hC dL_law_828 (by rfl) (by decide) (fun _ => ?_) (fun h => absurd rfl h)
      refine r_goto (t := 1536) hC dL_law_833 (by rfl) ?_
      exact vw_widen hccw hzzw (kk w2 _ _ _ _ hLI2)
  refine r_aload_n hC dL_law_792 rfl ?_
  refine r_aload_n hC dL_law_793 rfl ?_
  refine r_callH (as := [xA x, xA o]) hC dL_law_794 mh_goBack sh_goBack ml_L_138 (rm := rmL_goBack) ⟨le_b rfl, le_b rfl⟩ rfl (le_b rfl) (by show c + 146 ≤ 601024; omega) (by show z + 2320 ≤ 7293034; omega) (h_goBack hfC hX.1.1 (k_Rl_goBack hfC hX rP hst) (by rintro r w ⟨rfl, h1, h2, h3⟩; exact ⟨⟨_, rfl⟩, by rw [(h2.2 o (hRo.2.2.1 o (Or.inr (Or.inl rfl)))).2.1]; exact hRo.2.1.1⟩)) ?_ rfl
  rintro _ w ⟨rfl, h⟩
  rcases h with ⟨q0, val, w1, hp, rfl⟩ | ⟨q0, n0, hn0, rfl⟩
  · obtain ⟨hv0, hX1, hk1, ht1⟩ := hp
    have hval : val = (cp f K 1651) 0 := Sum.inl.inj (Option.some.inj hv0)
    exact tail _ (cp f K 1651) (m_savedN s) (m_saved P f s) (kp) (K) (b) n (T) hX1.sJ (htx.tx ht1) hn (hRo.kp hk1).sJ (RRv.kp hRo hk1 hRv) (Sta.kp (w := w1) hst hX.2.1 hk1) (StaM.kp (w := w1) hsm hX.2.1 hk1) (by omega) (fun q hq => (hk1.2 q (hRo.2.2.1 q hq)).2.2.1) (Or.inl ⟨q0, by rw [hval]; exact sJ_at _ _ _ _, rfl, rfl, rfl, rfl, rfl, rfl, rfl⟩)
  · exact tail _ f s P kp K b n T (hX.wN hn0) htx hn (hRo.wN hn0) hRv hst hsm (by omega) (fun _ _ => rfl) (Or.inr ⟨q0, rfl, rfl, rfl, rfl, rfl, rfl, rfl⟩)
