set_option maxRecDepth 100000 in
theorem c_undo {C : Cx} (hC : CxOK C cL_law RL room_1 9) (hfC : (cxL C).stackTraces = false) {v : Mem} {x m o sc L : Nat} {T : Int} (hLI : LI (cxD C) v x m o sc L T) {i : Int} (hi : 0 ≤ i ∧ i + 4 ≤ L) (hT : T + 1700 ≤ 2000000) {c z : Nat} (hc : c + 300 ≤ 601024) (hz : z + 4700 ≤ 7293034) {l5 l6 l7 l8 : Option SV} (kk : ∀ (w : Mem) (l5 l6 l7 l8 : Option SV), LI (cxD C) w x m o sc L (T + 1525) → VW C 1536 [some (xA sc), some (xA x), some (xA m), some (xA o), some (xI i), l5, l6, l7, l8] [] w (c + 300) (z + 4700)) : VW C 836 [some (xA sc), some (xA x), some (xA m), some (xA o), some (xI i), l5, l6, l7, l8] [] v c z := by
  obtain ⟨f, s, P, kp, K, b, n, hX, htx, hn, hRo, hRv, hst, hsm⟩ := hLI
  have hI := hX.2.2.1.2
  have hS := hX.2.2.1.1
  have hs6 := hX.2.2.2.1.2.1
  have rP : RF P := (rrv_rf hRv).2.1
  obtain ⟨og, hO, -⟩ := hS.r.2.2.2.2
  have hsc := hRo.2.1.2
  have hrq : rg ((if s = 0 then 1 else 0 : Int)) := by split <;> exact ⟨by decide, by decide⟩
  have tail : ∀ (w : Mem) (g1 : RW) (s1 : Int) (P1 : RW) (kp1 : Int) (K1 b1 : RW) (n1 : Nat) (T1 : Int), RX w x g1 s1 P1 kp1 K1 T1 → RXt w x b1 n1 → n1 ≤ 60 → RRo w x m o sc L → RRv w m f s P kp K b n → Sta (cxD C) w x → StaM (cxD C) w x → T1 ≤ T + 1525 → (∀ q, ((m ≤ q ∧ q < m + 8) ∨ q = o ∨ q = sc) → mI w q = mI v q) → (((if s = 0 then 1 else 0 : Int) = 0 ∧ mJ w o 0 = i2j (s - 1) ∧ g1 = cp f (m_past P (s - 1)) 1651 ∧ s1 = s - 1 ∧ P1 = P ∧ kp1 = kp ∧ K1 = K ∧ b1 = b ∧ (n1 : Int) = n) ∨ ((if s = 0 then 1 else 0 : Int) ≠ 0 ∧ g1 = f ∧ s1 = s ∧ P1 = P ∧ kp1 = kp ∧ K1 = K ∧ b1 = b ∧ (n1 : Int) = n)) → VW C 841 [some (xA sc), some (xA x), some (xA m), some (xA o), some (xI i), l5, l6, l7, l8] [xI ((if s = 0 then 1 else 0 : Int))] w (c + rmL_undo.cells) (z + rmL_undo.slots) := by
    intro w g1 s1 P1 kp1 K1 b1 n1 T1 hXw htw hn1 how hvw hstw hsmw hT1 hm hq
    have hccw : c + rmL_undo.cells ≤ c + 300 := by show c + 1 ≤ c + 300; omega
    have hzzw : z + rmL_undo.slots ≤ z + 4700 := by show z + 6 ≤ z + 4700; omega
    have hct := e_undo (l := cxL C) (D := cxD C) hfC how.1 hvw hs6
    refine r_istore (lv' := [_, _, _, _, _, _, _, _, _]) hC dL_law_841 (lt_b rfl) rfl (lt_b rfl) rfl ?_
    refine r_aload_n hC dL_law_843 rfl ?_
    refine r_V0p (as := []) (u := w) hC dL_law_844 mi_X8_undo se_X8_undo ml_L_143 (rm := rmX8_undo) rfl how.1.o rfl rfl rfl rfl ⟨Nat.le_trans hccw hc, Nat.le_trans hzzw hz⟩ hct ?_ rfl
    rintro _ w2 ⟨hF8, hth, a, rfl, hcase⟩
    have hRv2 : RRv w2 m g1 s1 P1 kp1 K1 b1 n1 := by
      rcases hcase with ⟨z1, -, z2⟩ | ⟨z1, z2⟩
      · rcases hq with ⟨-, -, e1, e2, e3, e4, e5, e6, e7⟩ | ⟨y1, -⟩
        · rw [e1, e2, e3, e4, e5, e6, e7]; exact z2
        · exact absurd z1 y1
      · rcases hq with ⟨y1, -⟩ | ⟨-, e1, e2, e3, e4, e5, e6, e7⟩
        · exact absurd y1 z1
        · rw [e1, e2, e3, e4, e5, e6, e7]; exact z2
    have hLI2 : LI (cxD C) w2 x m o sc L (T + 1525) := LI.next hXw htw hn1 how hstw hsmw hF8 hRv2 hT1
    have how2 := how.fr hF8
    refine r_istore (lv' := [_, _, _, _, _, _, _, _, _]) hC dL_law_847 (lt_b rfl) rfl (lt_b rfl) rfl ?_
    refine r_aload_n hC dL_law_849 rfl ?_
    refine r_V0 hC dL_law_850 mi_X8_thrown se_X8_thrown ml_L_89 (rm := rmX8_thrown) rfl how2.1.o rfl rfl rfl rfl ⟨Nat.le_trans hccw hc, Nat.le_trans hzzw hz⟩ (e_thrown hfC how2.1) ?_ rfl
    rw [hth]
    refine r_iload hC dL_law_853 rfl ?_
    refine r_icmp_eq (t := 860) hC dL_law_855 (by rfl) hrq hrq (fun _ => ?_) (fun h => absurd rfl h)
    refine r_iload hC dL_law_860 rfl ?_
    refine r_if_ne (t := 877) hC dL_law_862 (by rfl) hrq (fun hne => ?_) (fun heq => ?_)
    · refine r_goto (t := 1536) hC dL_law_877 (by rfl) ?_
      exact vw_widen hccw hzzw (kk w2 _ _ _ _ hLI2)
    · have h0 : (if s = 0 then 1 else 0 : Int) = 0 := heq
      have hJ : mJ w2 o 0 = i2j (s - 1) := by
        rcases hq with ⟨-, e, -⟩ | ⟨y1, -⟩
        · rw [hF8.2.2.1]; exact e
        · exact absurd h0 y1
      have ha : a = s - 1 := by
        rcases hcase with ⟨-, e, -⟩ | ⟨y1, -⟩
        · exact e
        · exact absurd h0 y1
      refine r_aload_n hC dL_law_865 rfl ?_
      refine r_iconst hC dL_law_866 ?_
      refine r_lald hC dL_law_867 how2.2.1.1 ⟨by decide, by decide⟩ ?_
      refine r_iload hC dL_law_868 rfl ?_
      refine r_i2l hC dL_law_870 ?_
      rw [hJ, ha]
      refine r_lcmp hC dL_law_871 ?_
      rw [lgc_self]
      refine r_if_eq (t := 877) hC dL_law_872 (by rfl) (by decide) (fun _ => ?_) (fun h => absurd rfl h)
      refine r_goto (t := 1536) hC dL_law_877 (by rfl) ?_
      exact vw_widen hccw hzzw (kk w2 _ _ _ _ hLI2)
  refine r_aload_n hC dL_law_836 rfl ?_
  refine r_aload_n hC dL_law_837 rfl ?_
  refine r_callH (as := [xA x, xA o]) hC dL_law_838 mh_undo sh_undo ml_L_141 (rm := rmL_undo) ⟨le_b rfl, le_b rfl⟩ rfl (le_b rfl) (by show c + 1 ≤ 601024; omega) (by show z + 6 ≤ 7293034; omega) (h_undo hfC hX.1.1 (k_Rl_undo hfC hX rP hst) (by rintro r w ⟨rfl, h1, h2, h3⟩; exact ⟨⟨_, rfl⟩, by rw [(h2.2 o (hRo.2.2.1 o (Or.inr (Or.inl rfl)))).2.1]; exact hRo.2.1.1⟩)) ?_ rfl
  rintro _ w ⟨rfl, h⟩
  rcases h with ⟨q0, val, w1, hp, rfl⟩ | ⟨q0, n0, hn0, rfl⟩
  · obtain ⟨hv0, hX1, hk1, ht1⟩ := hp
    have hval : val = s - 1 := Sum.inl.inj (Option.some.inj hv0)
    exact tail _ (cp f (m_past P (s - 1)) 1651) (s - 1) (P) (kp) (K) (b) n (T) hX1.sJ (htx.tx ht1) hn (hRo.kp hk1).sJ (RRv.kp hRo hk1 hRv) (Sta.kp (w := w1) hst hX.2.1 hk1) (StaM.kp (w := w1) hsm hX.2.1 hk1) (by omega) (fun q hq => (hk1.2 q (hRo.2.2.1 q hq)).2.2.1) (Or.inl ⟨q0, by rw [hval]; exact sJ_at _ _ _ _, rfl, rfl, rfl, rfl, rfl, rfl, rfl⟩)
  · exact tail _ f s P kp K b n T (hX.wN hn0) htx hn (hRo.wN hn0) hRv hst hsm (by omega) (fun _ _ => rfl) (Or.inr ⟨q0, rfl, rfl, rfl, rfl, rfl, rfl, rfl⟩)

set_option maxRecDepth 100000 in
theorem c_row {C : Cx} (hC : CxOK C cL_law RL room_1 9) (hfC : (cxL C).stackTraces = false) {v : Mem} {x m o sc L : Nat} {T : Int} (hLI : LI (cxD C) v x m o sc L T) {i : Int} (hi : 0 ≤ i ∧ i + 4 ≤ L) (hT : T + 1700 ≤ 2000000) {c z : Nat} (hc : c + 300 ≤ 601024) (hz : z + 4700 ≤ 7293034) {l5 l6 l7 l8 : Option SV} (kk : ∀ (w : Mem) (l5 l6 l7 l8 : Option SV), LI (cxD C) w x m o sc L (T + 1525) → VW C 1536 [some (xA sc), some (xA x), some (xA m), some (xA o), some (xI i), l5, l6, l7, l8] [] w (c + 300) (z + 4700)) : VW C 880 [some (xA sc), some (xA x), some (xA m), some (xA o), some (xI i), l5, l6, l7, l8] [] v c z := by
  obtain ⟨f, s, P, kp, K, b, n, hX, htx, hn, hRo, hRv, hst, hsm⟩ := hLI
  have hI := hX.2.2.1.2
  have hS := hX.2.2.1.1
  have hs6 := hX.2.2.2.1.2.1
  have rP : RF P := (rrv_rf hRv).2.1
  obtain ⟨og, hO, -⟩ := hS.r.2.2.2.2
  have hsc := hRo.2.1.2
  obtain ⟨a1, ha1⟩ : ∃ a, a = mI v sc (i + 1) := ⟨_, rfl⟩
  have hr1 : rg a1 := by rw [ha1]; exact rg_mI _ _ _
  obtain ⟨a2, ha2⟩ : ∃ a, a = mI v sc (i + 2) := ⟨_, rfl⟩
  have hr2 : rg a2 := by rw [ha2]; exact rg_mI _ _ _
  have hrq : rg (q_row f a1 a2) := by unfold q_row; (repeat' split) <;> exact ⟨by decide, by decide⟩
  have tail : ∀ (w : Mem) (g1 : RW) (s1 : Int) (P1 : RW) (kp1 : Int) (K1 b1 : RW) (n1 : Nat) (T1 : Int), RX w x g1 s1 P1 kp1 K1 T1 → RXt w x b1 n1 → n1 ≤ 60 → RRo w x m o sc L → RRv w m f s P kp K b n → Sta (cxD C) w x → StaM (cxD C) w x → T1 ≤ T + 1525 → (∀ q, ((m ≤ q ∧ q < m + 8) ∨ q = o ∨ q = sc) → mI w q = mI v q) → ((q_row f a1 a2 = 0 ∧ mJ w o 0 = i2j (m_rowV f (m_keptAt f a1.toNat) a2) ∧ g1 = f ∧ s1 = s ∧ P1 = P ∧ kp1 = kp ∧ K1 = K ∧ b1 = b ∧ (n1 : Int) = n) ∨ (q_row f a1 a2 ≠ 0 ∧ g1 = f ∧ s1 = s ∧ P1 = P ∧ kp1 = kp ∧ K1 = K ∧ b1 = b ∧ (n1 : Int) = n)) → VW C 897 [some (xA sc), some (xA x), some (xA m), some (xA o), some (xI i), l5, l6, l7, l8] [xI (q_row f a1 a2)] w (c + rmL_row.cells) (z + rmL_row.slots) := by
    intro w g1 s1 P1 kp1 K1 b1 n1 T1 hXw htw hn1 how hvw hstw hsmw hT1 hm hq
    have hccw : c + rmL_row.cells ≤ c + 300 := by show c + 1 ≤ c + 300; omega
    have hzzw : z + rmL_row.slots ≤ z + 4700 := by show z + 6 ≤ z + 4700; omega
    have hct := e_row (l := cxL C) (D := cxD C) hfC how.1 hvw hr1 hr2 hI.co.1 hI.co.2.1 (kept_ok hI hO).2.1
    refine r_istore (lv' := [_, _, _, _, _, _, _, _, _]) hC dL_law_897 (lt_b rfl) rfl (lt_b rfl) rfl ?_
    refine r_aload_n hC dL_law_899 rfl ?_
    refine r_aload_n hC dL_law_900 rfl ?_
    refine r_iload hC dL_law_901 rfl ?_
    refine r_iconst hC dL_law_903 ?_
    refine r_iadd hC dL_law_904 ?_
    refine r_ialdS hC dL_law_905 how.2.1.2 ⟨by omega, by omega⟩ ?_
    rw [hm sc (Or.inr (Or.inr rfl)), ← ha1]
    refine r_aload_n hC dL_law_906 rfl ?_
    refine r_iload hC dL_law_907 rfl ?_
    refine r_iconst hC dL_law_909 ?_
    refine r_iadd hC dL_law_910 ?_
    refine r_ialdS hC dL_law_911 how.2.1.2 ⟨by omega, by omega⟩ ?_
    rw [hm sc (Or.inr (Or.inr rfl)), ← ha2]
    refine r_V0p (as := [xI a1, xI a2]) (u := w) hC dL_law_912 mi_X8_row se_X8_row ml_L_146 (rm := rmX8_row) rfl how.1.o rfl rfl rfl rfl ⟨Nat.le_trans hccw hc, Nat.le_trans hzzw hz⟩ hct ?_ rfl
    rintro _ w2 ⟨hF8, hth, a, rfl, hcase⟩
    have hRv2 : RRv w2 m g1 s1 P1 kp1 K1 b1 n1 := by
      rcases hcase with ⟨z1, -, z2⟩ | ⟨z1, z2⟩
      · rcases hq with ⟨-, -, e1, e2, e3, e4, e5, e6, e7⟩ | ⟨y1, -⟩
        · rw [e1, e2, e3, e4, e5, e6, e7]; exact z2
        · exact absurd z1 y1
      · rcases hq with ⟨y1, -⟩ | ⟨-, e1, e2, e3, e4, e5, e6, e7⟩
        · exact absurd y1 z1
        · rw [e1, e2, e3, e4, e5, e6, e7]; exact z2
    have hLI2 : LI (cxD C) w2 x m o sc L (T + 1525) := LI.next hXw htw hn1 how hstw hsmw hF8 hRv2 hT1
    have how2 := how.fr hF8
    refine r_istore (lv' := [_, _, _, _, _, _, _, _, _]) hC dL_law_915 (lt_b rfl) rfl (lt_b rfl) rfl ?_
    refine r_aload_n hC dL_law_917 rfl ?_
    refine r_V0 hC dL_law_918 mi_X8_thrown se_X8_thrown ml_L_89 (rm := rmX8_thrown) rfl how2.1.o rfl rfl rfl rfl ⟨Nat.le_trans hccw hc, Nat.le_trans hzzw hz⟩ (e_thrown hfC how2.1) ?_ rfl
    rw [hth]
    refine r_iload hC dL_law_921 rfl ?_
    refine r_icmp_eq (t := 928) hC dL_law_923 (by rfl) hrq hrq (fun _ => ?_) (fun h => absurd rfl h)
    refine r_iload hC dL_law_928 rfl ?_
    refine r_if_ne (t := 945) hC dL_law_930 (by rfl) hrq (fun hne => ?_) (fun heq => ?_)
    · refine r_goto (t := 1536) hC dL_law_945 (by rfl) ?_
      exact vw_widen hccw hzzw (kk w2 _ _ _ _ hLI2)
    · have h0 : q_row f a1 a2 = 0 := heq
      have hJ : mJ w2 o 0 = i2j (m_rowV f (m_keptAt f a1.toNat) a2) := by
        rcases hq with ⟨-, e, -⟩ | ⟨y1, -⟩
        · rw [hF8.2.2.1]; exact e
        · exact absurd h0 y1
      have ha : a = m_rowV f (m_keptAt f a1.toNat) a2 := by
        rcases hcase with ⟨-, e, -⟩ | ⟨y1, -⟩
        · exact e
        · exact absurd h0 y1
      refine r_aload_n hC dL_law_933 rfl ?_
      refine r_iconst hC dL_law_934 ?_
      refine r_lald hC dL_law_935 how2.2.1.1 ⟨by decide, by decide⟩ ?_
      refine r_iload hC dL_law_936 rfl ?_
      refine r_i2l hC dL_law_938 ?_
      rw [hJ, ha]
      refine r_lcmp hC dL_law_939 ?_
      rw [lgc_self]
      refine r_if_eq (t := 945) hC dL_law_940 (by rfl) (by decide) (fun _ => ?_) (fun h => absurd rfl h)
      refine r_goto (t := 1536) hC dL_law_945 (by rfl) ?_
      exact vw_widen hccw hzzw (kk w2 _ _ _ _ hLI2)
  refine r_aload_n hC dL_law_880 rfl ?_
  refine r_aload_n hC dL_law_881 rfl ?_
  refine r_iload hC dL_law_882 rfl ?_
  refine r_iconst hC dL_law_884 ?_
  refine r_iadd hC dL_law_885 ?_
  refine r_ialdS hC dL_law_886 hsc ⟨by omega, by omega⟩ ?_
  rw [← ha1]
  refine r_aload_n hC dL_law_887 rfl ?_
  refine r_iload hC dL_law_888 rfl ?_
  refine r_iconst hC dL_law_890 ?_
  refine r_iadd hC dL_law_891 ?_
  refine r_ialdS hC dL_law_892 hsc ⟨by omega, by omega⟩ ?_
  rw [← ha2]
  refine r_aload_n hC dL_law_893 rfl ?_
  refine r_callH (as := [xA x, xI a1, xI a2, xA o]) hC dL_law_894 mh_row sh_row ml_L_144 (rm := rmL_row) ⟨le_b rfl, le_b rfl⟩ rfl (le_b rfl) (by show c + 1 ≤ 601024; omega) (by show z + 6 ≤ 7293034; omega) (h_row hfC hX.1.1 (k_Rl_row hfC hX hr1 hr2) (by rintro r w ⟨rfl, rfl⟩; exact ⟨⟨_, rfl⟩, hRo.2.1.1⟩)) ?_ rfl
  rintro _ w ⟨rfl, h⟩
  rcases h with ⟨q0, val, w1, hp, rfl⟩ | ⟨q0, n0, hn0, rfl⟩
  · obtain ⟨hv0, rfl⟩ := hp
    have hval : val = m_rowV f (m_keptAt f a1.toNat) a2 := Sum.inl.inj (Option.some.inj hv0)
    exact tail _ f s P kp K b n T hX.sJ htx hn hRo.sJ hRv hst hsm (by omega) (fun _ _ => rfl) (Or.inl ⟨q0, by rw [hval]; exact sJ_at _ _ _ _, rfl, rfl, rfl, rfl, rfl, rfl, rfl⟩)
  · exact tail _ f s P kp K b n T (hX.wN hn0) htx hn (hRo.wN hn0) hRv hst hsm (by omega) (fun _ _ => rfl) (Or.inr ⟨q0, rfl, rfl, rfl, rfl, rfl, rfl, rfl⟩)

set_option maxRecDepth 100000 in
theorem c_transaction {C : Cx} (hC : CxOK C cL_law RL room_1 9) (hfC : (cxL C).stackTraces = false) {v : Mem} {x m o sc L : Nat} {T : Int} (hLI : LI (cxD C) v x m o sc L T) {i : Int} (hi : 0 ≤ i ∧ i + 4 ≤ L) (hT : T + 1700 ≤ 2000000) {c z : Nat} (hc : c + 300 ≤ 601024) (hz : z + 4700 ≤ 7293034) {l5 l6 l7 l8 : Option SV} (kk : ∀ (w : Mem) (l5 l6 l7 l8 : Option SV), LI (cxD C) w x m o sc L (T + 1525) → VW C 1536 [some (xA sc), some (xA x), some (xA m), some (xA o), some (xI i), l5, l6, l7, l8] [] w (c + 300) (z + 4700)) : VW C 948 [some (xA sc), some (xA x), some (xA m), some (xA o), some (xI i), l5, l6, l7, l8] [] v c z := by
  obtain ⟨f, s, P, kp, K, b, n, hX, htx, hn, hRo, hRv, hst, hsm⟩ := hLI
  have hI := hX.2.2.1.2
  have hS := hX.2.2.1.1
  have hs6 := hX.2.2.2.1.2.1
  have rP : RF P := (rrv_rf hRv).2.1
  obtain ⟨og, hO, -⟩ := hS.r.2.2.2.2
  have hsc := hRo.2.1.2
  obtain ⟨a1, ha1⟩ : ∃ a, a = mI v sc (i + 1) := ⟨_, rfl⟩
  have hr1 : rg a1 := by rw [ha1]; exact rg_mI _ _ _
  obtain ⟨a2, ha2⟩ : ∃ a, a = mI v sc (i + 2) := ⟨_, rfl⟩
  have hr2 : rg a2 := by rw [ha2]; exact rg_mI _ _ _
  have hrq : rg (q_trans a1 a2) := by unfold q_trans; (repeat' split) <;> exact ⟨by decide, by decide⟩
  have tail : ∀ (w : Mem) (g1 : RW) (s1 : Int) (P1 : RW) (kp1 : Int) (K1 b1 : RW) (n1 : Nat) (T1 : Int), RX w x g1 s1 P1 kp1 K1 T1 → RXt w x b1 n1 → n1 ≤ 60 → RRo w x m o sc L → RRv w m f s P kp K b n → Sta (cxD C) w x → StaM (cxD C) w x → T1 ≤ T + 1525 → (∀ q, ((m ≤ q ∧ q < m + 8) ∨ q = o ∨ q = sc) → mI w q = mI v q) → ((q_trans a1 a2 = 0 ∧ mJ w o 0 = i2j (m_transV f a1 a2) ∧ g1 = f ∧ s1 = s ∧ P1 = P ∧ kp1 = kp ∧ K1 = K ∧ b1 = b ∧ (n1 : Int) = n) ∨ (q_trans a1 a2 ≠ 0 ∧ g1 = f ∧ s1 = s ∧ P1 = P ∧ kp1 = kp ∧ K1 = K ∧ b1 = b ∧ (n1 : Int) = n)) → VW C 965 [some (xA sc), some (xA x), some (xA m), some (xA o), some (xI i), l5, l6, l7, l8] [xI (q_trans a1 a2)] w (c + rmL_transaction.cells) (z + rmL_transaction.slots) := by
    intro w g1 s1 P1 kp1 K1 b1 n1 T1 hXw htw hn1 how hvw hstw hsmw hT1 hm hq
    have hccw : c + rmL_transaction.cells ≤ c + 300 := by show c + 1 ≤ c + 300; omega
    have hzzw : z + rmL_transaction.slots ≤ z + 4700 := by show z + 6 ≤ z + 4700; omega
    have hct := e_transaction (l := cxL C) (D := cxD C) hfC how.1 hvw hr1 hr2 (fun z => pl_ok hI _ z)
    refine r_istore (lv' := [_, _, _, _, _, _, _, _, _]) hC dL_law_965 (lt_b rfl) rfl (lt_b rfl) rfl ?_
    refine r_aload_n hC dL_law_967 rfl ?_
    refine r_aload_n hC dL_law_968 rfl ?_
    refine r_iload hC dL_law_969 rfl ?_
    refine r_iconst hC dL_law_971 ?_
    refine r_iadd hC dL_law_972 ?_
    refine r_ialdS hC dL_law_973 how.2.1.2 ⟨by omega, by omega⟩ ?_
    rw [hm sc (Or.inr (Or.inr rfl)), ← ha1]
    refine r_aload_n hC dL_law_974 rfl ?_
    refine r_iload hC dL_law_975 rfl ?_
    refine r_iconst hC dL_law_977 ?_
    refine r_iadd hC dL_law_978 ?_
    refine r_ialdS hC dL_law_979 how.2.1.2 ⟨by omega, by omega⟩ ?_
    rw [hm sc (Or.inr (Or.inr rfl)), ← ha2]
    refine r_V0p (as := [xI a1, xI a2]) (u := w) hC dL_law_980 mi_X8_transaction se_X8_transaction ml_L_149 (rm := rmX8_transaction) rfl how.1.o rfl rfl rfl rfl ⟨Nat.le_trans hccw hc, Nat.le_trans hzzw hz⟩ hct ?_ rfl
    rintro _ w2 ⟨hF8, hth, a, rfl, hcase⟩
    have hRv2 : RRv w2 m g1 s1 P1 kp1 K1 b1 n1 := by
      rcases hcase with ⟨z1, -, z2⟩ | ⟨z1, z2⟩
      · rcases hq with ⟨-, -, e1, e2, e3, e4, e5, e6, e7⟩ | ⟨y1, -⟩
        · rw [e1, e2, e3, e4, e5, e6, e7]; exact z2
        · exact absurd z1 y1
      · rcases hq with ⟨y1, -⟩ | ⟨-, e1, e2, e3, e4, e5, e6, e7⟩
        · exact absurd y1 z1
        · rw [e1, e2, e3, e4, e5, e6, e7]; exact z2
    have hLI2 : LI (cxD C) w2 x m o sc L (T + 1525) := LI.next hXw htw hn1 how hstw hsmw hF8 hRv2 hT1
    have how2 := how.fr hF8
    refine r_istore (lv' := [_, _, _, _, _, _, _, _, _]) hC dL_law_983 (lt_b rfl) rfl (lt_b rfl) rfl ?_
    refine r_aload_n hC dL_law_985 rfl ?_
    refine r_V0 hC dL_law_986 mi_X8_thrown se_X8_thrown ml_L_89 (rm := rmX8_thrown) rfl how2.1.o rfl rfl rfl rfl ⟨Nat.le_trans hccw hc, Nat.le_trans hzzw hz⟩ (e_thrown hfC how2.1) ?_ rfl
    rw [hth]
    refine r_iload hC dL_law_989 rfl ?_
    refine r_icmp_eq (t := 996) hC dL_law_991 (by rfl) hrq hrq (fun _ => ?_) (fun h => absurd rfl h)
    refine r_iload hC dL_law_996 rfl ?_
    refine r_if_ne (t := 1013) hC dL_law_998 (by rfl) hrq (fun hne => ?_) (fun heq => ?_)
    · refine r_goto (t := 1536) hC dL_law_1013 (by rfl) ?_
      exact vw_widen hccw hzzw (kk w2 _ _ _ _ hLI2)
    · have h0 : q_trans a1 a2 = 0 := heq
      have hJ : mJ w2 o 0 = i2j (m_transV f a1 a2) := by
        rcases hq with ⟨-, e, -⟩ | ⟨y1, -⟩
        · rw [hF8.2.2.1]; exact e
        · exact absurd h0 y1
      have ha : a = m_transV f a1 a2 := by
        rcases hcase with ⟨-, e, -⟩ | ⟨y1, -⟩
        · exact e
        · exact absurd h0 y1
      refine r_aload_n hC dL_law_1001 rfl ?_
      refine r_iconst hC dL_law_1002 ?_
      refine r_lald hC dL_law_1003 how2.2.1.1 ⟨by decide, by decide⟩ ?_
      refine r_iload hC dL_law_1004 rfl ?_
      refine r_i2l hC dL_law_1006 ?_
      rw [hJ, ha]
      refine r_lcmp hC dL_law_1007 ?_
      rw [lgc_self]
      refine r_if_eq (t := 1013) hC dL_law_1008 (by rfl) (by decide) (fun _ => ?_) (fun h => absurd rfl h)
      refine r_goto (t := 1536) hC dL_law_1013 (by rfl) ?_
      exact vw_widen hccw hzzw (kk w2 _ _ _ _ hLI2)
  refine r_aload_n hC dL_law_948 rfl ?_
  refine r_aload_n hC dL_law_949 rfl ?_
  refine r_iload hC dL_law_950 rfl ?_
  refine r_iconst hC dL_law_952 ?_
  refine r_iadd hC dL_law_953 ?_
  refine r_ialdS hC dL_law_954 hsc ⟨by omega, by omega⟩ ?_
  rw [← ha1]
  refine r_aload_n hC dL_law_955 rfl ?_
  refine r_iload hC dL_law_956 rfl ?_
  refine r_iconst hC dL_law_958 ?_
  refine r_iadd hC dL_law_959 ?_
  refine r_ialdS hC dL_law_960 hsc ⟨by omega, by omega⟩ ?_
  rw [← ha2]
  refine r_aload_n hC dL_law_961 rfl ?_
  refine r_callH (as := [xA x, xI a1, xI a2, xA o]) hC dL_law_962 mh_transaction sh_transaction ml_L_147 (rm := rmL_transaction) ⟨le_b rfl, le_b rfl⟩ rfl (le_b rfl) (by show c + 1 ≤ 601024; omega) (by show z + 6 ≤ 7293034; omega) (h_transaction hfC hX.1.1 (k_Rl_transaction hfC hX hr1 hr2) (by rintro r w ⟨rfl, rfl⟩; exact ⟨⟨_, rfl⟩, hRo.2.1.1⟩)) ?_ rfl
  rintro _ w ⟨rfl, h⟩
  rcases h with ⟨q0, val, w1, hp, rfl⟩ | ⟨q0, n0, hn0, rfl⟩
  · obtain ⟨hv0, rfl⟩ := hp
    have hval : val = m_transV f a1 a2 := Sum.inl.inj (Option.some.inj hv0)
    exact tail _ f s P kp K b n T hX.sJ htx hn hRo.sJ hRv hst hsm (by omega) (fun _ _ => rfl) (Or.inl ⟨q0, by rw [hval]; exact sJ_at _ _ _ _, rfl, rfl, rfl, rfl, rfl, rfl, rfl⟩)
  · exact tail _ f s P kp K b n T (hX.wN hn0) htx hn (hRo.wN hn0) hRv hst hsm (by omega) (fun _ _ => rfl) (Or.inr ⟨q0, rfl, rfl, rfl, rfl, rfl, rfl, rfl⟩)

set_option maxRecDepth 100000 in
theorem c_receiver {C : Cx} (hC : CxOK C cL_law RL room_1 9) (hfC : (cxL C).stackTraces = false) {v : Mem} {x m o sc L : Nat} {T : Int} (hLI : LI (cxD C) v x m o sc L T) {i : Int} (hi : 0 ≤ i ∧ i + 4 ≤ L) (hT : T + 1700 ≤ 2000000) {c z : Nat} (hc : c + 300 ≤ 601024) (hz : z + 4700 ≤ 7293034) {l5 l6 l7 l8 : Option SV} (kk : ∀ (w : Mem) (l5 l6 l7 l8 : Option SV), LI (cxD C) w x m o sc L (T + 1525) → VW C 1536 [some (xA sc), some (xA x), some (xA m), some (xA o), some (xI i), l5, l6, l7, l8] [] w (c + 300) (z + 4700)) : VW C 1016 [some (xA sc), some (xA x), some (xA m), some (xA o), some (xI i), l5, l6, l7, l8] [] v c z := by
  obtain ⟨f, s, P, kp, K, b, n, hX, htx, hn, hRo, hRv, hst, hsm⟩ := hLI
  have hI := hX.2.2.1.2
  have hS := hX.2.2.1.1
  have hs6 := hX.2.2.2.1.2.1
  have rP : RF P := (rrv_rf hRv).2.1
  obtain ⟨og, hO, -⟩ := hS.r.2.2.2.2
  have hsc := hRo.2.1.2
  obtain ⟨a1, ha1⟩ : ∃ a, a = mI v sc (i + 1) := ⟨_, rfl⟩
  have hr1 : rg a1 := by rw [ha1]; exact rg_mI _ _ _
  obtain ⟨a2, ha2⟩ : ∃ a, a = mI v sc (i + 2) := ⟨_, rfl⟩
  have hr2 : rg a2 := by rw [ha2]; exact rg_mI _ _ _
  have hrq : rg (q_recv a1 a2) := by unfold q_recv; (repeat' split) <;> exact ⟨by decide, by decide⟩
  have tail : ∀ (w : Mem) (g1 : RW) (s1 : Int) (P1 : RW) (kp1 : Int) (K1 b1 : RW) (n1 : Nat) (T1 : Int), RX w x g1 s1 P1 kp1 K1 T1 → RXt w x b1 n1 → n1 ≤ 60 → RRo w x m o sc L → RRv w m f s P kp K b n → Sta (cxD C) w x → StaM (cxD C) w x → T1 ≤ T + 1525 → (∀ q, ((m ≤ q ∧ q < m + 8) ∨ q = o ∨ q = sc) → mI w q = mI v q) → ((q_recv a1 a2 = 0 ∧ mJ w o 0 = i2j (m_recvV f a1 a2) ∧ g1 = f ∧ s1 = s ∧ P1 = P ∧ kp1 = kp ∧ K1 = K ∧ b1 = b ∧ (n1 : Int) = n) ∨ (q_recv a1 a2 ≠ 0 ∧ g1 = f ∧ s1 = s ∧ P1 = P ∧ kp1 = kp ∧ K1 = K ∧ b1 = b ∧ (n1 : Int) = n)) → VW C 1033 [some (xA sc), some (xA x), some (xA m), some (xA o), some (xI i), l5, l6, l7, l8] [xI (q_recv a1 a2)] w (c + rmL_receiver.cells) (z + rmL_receiver.slots) := by
    intro w g1 s1 P1 kp1 K1 b1 n1 T1 hXw htw hn1 how hvw hstw hsmw hT1 hm hq
    have hccw : c + rmL_receiver.cells ≤ c + 300 := by show c + 1 ≤ c + 300; omega
    have hzzw : z + rmL_receiver.slots ≤ z + 4700 := by show z + 6 ≤ z + 4700; omega
    have hct := e_receiver (l := cxL C) (D := cxD C) hfC how.1 hvw hr1 hr2 hI.co.1 ⟨hI.co.2.2.2.1, by have := hI.b.ni; omega⟩
    refine r_istore (lv' := [_, _, _, _, _, _, _, _, _]) hC dL_law_1033 (lt_b rfl) rfl (lt_b rfl) rfl ?_
    refine r_aload_n hC dL_law_1035 rfl ?_
    refine r_aload_n hC dL_law_1036 rfl ?_
    refine r_iload hC dL_law_1037 rfl ?_
    refine r_iconst hC dL_law_1039 ?_
    refine r_iadd hC dL_law_1040 ?_
    refine r_ialdS hC dL_law_1041 how.2.1.2 ⟨by omega, by omega⟩ ?_
    rw [hm sc (Or.inr (Or.inr rfl)), ← ha1]
    refine r_aload_n hC dL_law_1042 rfl ?_
    refine r_iload hC dL_law_1043 rfl ?_
    refine r_iconst hC dL_law_1045 ?_
    refine r_iadd hC dL_law_1046 ?_
    refine r_ialdS hC dL_law_1047 how.2.1.2 ⟨by omega, by omega⟩ ?_
    rw [hm sc (Or.inr (Or.inr rfl)), ← ha2]
    refine r_V0p (as := [xI a1, xI a2]) (u := w) hC dL_law_1048 mi_X8_receiver se_X8_receiver ml_L_152 (rm := rmX8_receiver) rfl how.1.o rfl rfl rfl rfl ⟨Nat.le_trans hccw hc, Nat.le_trans hzzw hz⟩ hct ?_ rfl
    rintro _ w2 ⟨hF8, hth, a, rfl, hcase⟩
    have hRv2 : RRv w2 m g1 s1 P1 kp1 K1 b1 n1 := by
      rcases hcase with ⟨z1, -, z2⟩ | ⟨z1, z2⟩
      · rcases hq with ⟨-, -, e1, e2, e3, e4, e5, e6, e7⟩ | ⟨y1, -⟩
        · rw [e1, e2, e3, e4, e5, e6, e7]; exact z2
        · exact absurd z1 y1
      · rcases hq with ⟨y1, -⟩ | ⟨-, e1, e2, e3, e4, e5, e6, e7⟩
        · exact absurd y1 z1
        · rw [e1, e2, e3, e4, e5, e6, e7]; exact z2
    have hLI2 : LI (cxD C) w2 x m o sc L (T + 1525) := LI.next hXw htw hn1 how hstw hsmw hF8 hRv2 hT1
    have how2 := how.fr hF8
    refine r_istore (lv' := [_, _, _, _, _, _, _, _, _]) hC dL_law_1051 (lt_b rfl) rfl (lt_b rfl) rfl ?_
    refine r_aload_n hC dL_law_1053 rfl ?_
    refine r_V0 hC dL_law_1054 mi_X8_thrown se_X8_thrown ml_L_89 (rm := rmX8_thrown) rfl how2.1.o rfl rfl rfl rfl ⟨Nat.le_trans hccw hc, Nat.le_trans hzzw hz⟩ (e_thrown hfC how2.1) ?_ rfl
    rw [hth]
    refine r_iload hC dL_law_1057 rfl ?_
    refine r_icmp_eq (t := 1064) hC dL_law_1059 (by rfl) hrq hrq (fun _ => ?_) (fun h => absurd rfl h)
    refine r_iload hC dL_law_1064 rfl ?_
    refine r_if_ne (t := 1081) hC dL_law_1066 (by rfl) hrq (fun hne => ?_) (fun heq => ?_)
    · refine r_goto (t := 1536) hC dL_law_1081 (by rfl) ?_
      exact vw_widen hccw hzzw (kk w2 _ _ _ _ hLI2)
    · have h0 : q_recv a1 a2 = 0 := heq
      have hJ : mJ w2 o 0 = i2j (m_recvV f a1 a2) := by
        rcases hq with ⟨-, e, -⟩ | ⟨y1, -⟩
        · rw [hF8.2.2.1]; exact e
        · exact absurd h0 y1
      have ha : a = m_recvV f a1 a2 := by
        rcases hcase with ⟨-, e, -⟩ | ⟨y1, -⟩
        · exact e
        · exact absurd h0 y1
      refine r_aload_n hC dL_law_1069 rfl ?_
      refine r_iconst hC dL_law_1070 ?_
      refine r_lald hC dL_law_1071 how2.2.1.1 ⟨by decide, by decide⟩ ?_
      refine r_iload hC dL_law_1072 rfl ?_
      refine r_i2l hC dL_law_1074 ?_
      rw [hJ, ha]
      refine r_lcmp hC dL_law_1075 ?_
      rw [lgc_self]
      refine r_if_eq (t := 1081) hC dL_law_1076 (by rfl) (by decide) (fun _ => ?_) (fun h => absurd rfl h)
      refine r_goto (t := 1536) hC dL_law_1081 (by rfl) ?_
      exact vw_widen hccw hzzw (kk w2 _ _ _ _ hLI2)
  refine r_aload_n hC dL_law_1016 rfl ?_
  refine r_aload_n hC dL_law_1017 rfl ?_
  refine r_iload hC dL_law_1018 rfl ?_
  refine r_iconst hC dL_law_1020 ?_
  refine r_iadd hC dL_law_1021 ?_
  refine r_ialdS hC dL_law_1022 hsc ⟨by omega, by omega⟩ ?_
  rw [← ha1]
  refine r_aload_n hC dL_law_1023 rfl ?_
  refine r_iload hC dL_law_1024 rfl ?_
  refine r_iconst hC dL_law_1026 ?_
  refine r_iadd hC dL_law_1027 ?_
  refine r_ialdS hC dL_law_1028 hsc ⟨by omega, by omega⟩ ?_
  rw [← ha2]
  refine r_aload_n hC dL_law_1029 rfl ?_
  refine r_callH (as := [xA x, xI a1, xI a2, xA o]) hC dL_law_1030 mh_receiver sh_receiver ml_L_150 (rm := rmL_receiver) ⟨le_b rfl, le_b rfl⟩ rfl (le_b rfl) (by show c + 1 ≤ 601024; omega) (by show z + 6 ≤ 7293034; omega) (h_receiver hfC hX.1.1 (k_Rl_receiver hfC hX hr1 hr2) (by rintro r w ⟨rfl, rfl⟩; exact ⟨⟨_, rfl⟩, hRo.2.1.1⟩)) ?_ rfl
  rintro _ w ⟨rfl, h⟩
  rcases h with ⟨q0, val, w1, hp, rfl⟩ | ⟨q0, n0, hn0, rfl⟩
  · obtain ⟨hv0, rfl⟩ := hp
    have hval : val = m_recvV f a1 a2 := Sum.inl.inj (Option.some.inj hv0)
    exact tail _ f s P kp K b n T hX.sJ htx hn hRo.sJ hRv hst hsm (by omega) (fun _ _ => rfl) (Or.inl ⟨q0, by rw [hval]; exact sJ_at _ _ _ _, rfl, rfl, rfl, rfl, rfl, rfl, rfl⟩)
  · exact tail _ f s P kp K b n T (hX.wN hn0) htx hn (hRo.wN hn0) hRv hst hsm (by omega) (fun _ _ => rfl) (Or.inr ⟨q0, rfl, rfl, rfl, rfl, rfl, rfl, rfl⟩)

set_option maxRecDepth 100000 in
theorem c_message {C : Cx} (hC : CxOK C cL_law RL room_1 9) (hfC : (cxL C).stackTraces = false) {v : Mem} {x m o sc L : Nat} {T : Int} (hLI : LI (cxD C) v x m o sc L T) {i : Int} (hi : 0 ≤ i ∧ i + 4 ≤ L) (hT : T + 1700 ≤ 2000000) {c z : Nat} (hc : c + 300 ≤ 601024) (hz : z + 4700 ≤ 7293034) {l5 l6 l7 l8 : Option SV} (kk : ∀ (w : Mem) (l5 l6 l7 l8 : Option SV), LI (cxD C) w x m o sc L (T + 1525) → VW C 1536 [some (xA sc), some (xA x), some (xA m), some (xA o), some (xI i), l5, l6, l7, l8] [] w (c + 300) (z + 4700)) : VW C 1084 [some (xA sc), some (xA x), some (xA m), some (xA o), some (xI i), l5, l6, l7, l8] [] v c z := by
  obtain ⟨f, s, P, kp, K, b, n, hX, htx, hn, hRo, hRv, hst, hsm⟩ := hLI
  have hI := hX.2.2.1.2
  have hS := hX.2.2.1.1
  have hs6 := hX.2.2.2.1.2.1
  have rP : RF P := (rrv_rf hRv).2.1
  obtain ⟨og, hO, -⟩ := hS.r.2.2.2.2
  have hsc := hRo.2.1.2
  obtain ⟨a1, ha1⟩ : ∃ a, a = mI v sc (i + 1) := ⟨_, rfl⟩
  have hr1 : rg a1 := by rw [ha1]; exact rg_mI _ _ _
  obtain ⟨a2, ha2⟩ : ∃ a, a = mI v sc (i + 2) := ⟨_, rfl⟩
  have hr2 : rg a2 := by rw [ha2]; exact rg_mI _ _ _
  have hrq : rg (q_msg f a1 a2) := by unfold q_msg; (repeat' split) <;> exact ⟨by decide, by decide⟩
  have tail : ∀ (w : Mem) (g1 : RW) (s1 : Int) (P1 : RW) (kp1 : Int) (K1 b1 : RW) (n1 : Nat) (T1 : Int), RX w x g1 s1 P1 kp1 K1 T1 → RXt w x b1 n1 → n1 ≤ 60 → RRo w x m o sc L → RRv w m f s P kp K b n → Sta (cxD C) w x → StaM (cxD C) w x → T1 ≤ T + 1525 → (∀ q, ((m ≤ q ∧ q < m + 8) ∨ q = o ∨ q = sc) → mI w q = mI v q) → ((q_msg f a1 a2 = 0 ∧ mJ w o 0 = i2j (m_msgV f (m_ranked f a1) a2) ∧ g1 = f ∧ s1 = s ∧ P1 = P ∧ kp1 = kp ∧ K1 = K ∧ b1 = b ∧ (n1 : Int) = n) ∨ (q_msg f a1 a2 ≠ 0 ∧ g1 = f ∧ s1 = s ∧ P1 = P ∧ kp1 = kp ∧ K1 = K ∧ b1 = b ∧ (n1 : Int) = n)) → VW C 1101 [some (xA sc), some (xA x), some (xA m), some (xA o), some (xI i), l5, l6, l7, l8] [xI (q_msg f a1 a2)] w (c + rmL_message.cells) (z + rmL_message.slots) := by
    intro w g1 s1 P1 kp1 K1 b1 n1 T1 hXw htw hn1 how hvw hstw hsmw hT1 hm hq
    have hccw : c + rmL_message.cells ≤ c + 300 := by show c + 1 ≤ c + 300; omega
    have hzzw : z + rmL_message.slots ≤ z + 4700 := by show z + 6 ≤ z + 4700; omega
    have hct := e_message (l := cxL C) (D := cxD C) hfC how.1 hvw hr1 hr2 ⟨hI.co.2.2.2.1, by have := hI.b.ni; omega⟩ (rank_ok hS hI a1)
    refine r_istore (lv' := [_, _, _, _, _, _, _, _, _]) hC dL_law_1101 (lt_b rfl) rfl (lt_b rfl) rfl ?_
    refine r_aload_n hC dL_law_1103 rfl ?_
    refine r_aload_n hC dL_law_1104 rfl ?_
    refine r_iload hC dL_law_1105 rfl ?_
    refine r_iconst hC dL_law_1107 ?_
    refine r_iadd hC dL_law_1108 ?_
    refine r_ialdS hC dL_law_1109 how.2.1.2 ⟨by omega, by omega⟩ ?_
    rw [hm sc (Or.inr (Or.inr rfl)), ← ha1]
    refine r_aload_n hC dL_law_1110 rfl ?_
    refine r_iload hC dL_law_1111 rfl ?_
    refine r_iconst hC dL_law_1113 ?_
    refine r_iadd hC dL_law_1114 ?_
    refine r_ialdS hC dL_law_1115 how.2.1.2 ⟨by omega, by omega⟩ ?_
    rw [hm sc (Or.inr (Or.inr rfl)), ← ha2]
    refine r_V0p (as := [xI a1, xI a2]) (u := w) hC dL_law_1116 mi_X8_message se_X8_message ml_L_155 (rm := rmX8_message) rfl how.1.o rfl rfl rfl rfl ⟨Nat.le_trans hccw hc, Nat.le_trans hzzw hz⟩ hct ?_ rfl
    rintro _ w2 ⟨hF8, hth, a, rfl, hcase⟩
    have hRv2 : RRv w2 m g1 s1 P1 kp1 K1 b1 n1 := by
      rcases hcase with ⟨z1, -, z2⟩ | ⟨z1, z2⟩
      · rcases hq with ⟨-, -, e1, e2, e3, e4, e5, e6, e7⟩ | ⟨y1, -⟩
        · rw [e1, e2, e3, e4, e5, e6, e7]; exact z2
        · exact absurd z1 y1
      · rcases hq with ⟨y1, -⟩ | ⟨-, e1, e2, e3, e4, e5, e6, e7⟩
        · exact absurd y1 z1
        · rw [e1, e2, e3, e4, e5, e6, e7]; exact z2
    have hLI2 : LI (cxD C) w2 x m o sc L (T + 1525) := LI.next hXw htw hn1 how hstw hsmw hF8 hRv2 hT1
    have how2 := how.fr hF8
    refine r_istore (lv' := [_, _, _, _, _, _, _, _, _]) hC dL_law_1119 (lt_b rfl) rfl (lt_b rfl) rfl ?_
    refine r_aload_n hC dL_law_1121 rfl ?_
    refine r_V0 hC dL_law_1122 mi_X8_thrown se_X8_thrown ml_L_89 (rm := rmX8_thrown) rfl how2.1.o rfl rfl rfl rfl ⟨Nat.le_trans hccw hc, Nat.le_trans hzzw hz⟩ (e_thrown hfC how2.1) ?_ rfl
    rw [hth]
    refine r_iload hC dL_law_1125 rfl ?_
    refine r_icmp_eq (t := 1132) hC dL_law_1127 (by rfl) hrq hrq (fun _ => ?_) (fun h => absurd rfl h)
    refine r_iload hC dL_law_1132 rfl ?_
    refine r_if_ne (t := 1149) hC dL_law_1134 (by rfl) hrq (fun hne => ?_) (fun heq => ?_)
    · refine r_goto (t := 1536) hC dL_law_1149 (by rfl) ?_
      exact vw_widen hccw hzzw (kk w2 _ _ _ _ hLI2)
    · have h0 : q_msg f a1 a2 = 0 := heq
      have hJ : mJ w2 o 0 = i2j (m_msgV f (m_ranked f a1) a2) := by
        rcases hq with ⟨-, e, -⟩ | ⟨y1, -⟩
        · rw [hF8.2.2.1]; exact e
        · exact absurd h0 y1
      have ha : a = m_msgV f (m_ranked f a1) a2 := by
        rcases hcase with ⟨-, e, -⟩ | ⟨y1, -⟩
        · exact e
        · exact absurd h0 y1
      refine r_aload_n hC dL_law_1137 rfl ?_
      refine r_iconst hC dL_law_1138 ?_
      refine r_lald hC dL_law_1139 how2.2.1.1 ⟨by decide, by decide⟩ ?_
      refine r_iload hC dL_law_1140 rfl ?_
      refine r_i2l hC dL_law_1142 ?_
      rw [hJ, ha]
      refine r_lcmp hC dL_law_1143 ?_
      rw [lgc_self]
      refine r_if_eq (t := 1149) hC dL_law_1144 (by rfl) (by decide) (fun _ => ?_) (fun h => absurd rfl h)
      refine r_goto (t := 1536) hC dL_law_1149 (by rfl) ?_
      exact vw_widen hccw hzzw (kk w2 _ _ _ _ hLI2)
  refine r_aload_n hC dL_law_1084 rfl ?_
  refine r_aload_n hC dL_law_1085 rfl ?_
  refine r_iload hC dL_law_1086 rfl ?_
  refine r_iconst hC dL_law_1088 ?_
  refine r_iadd hC dL_law_1089 ?_
  refine r_ialdS hC dL_law_1090 hsc ⟨by omega, by omega⟩ ?_
  rw [← ha1]
  refine r_aload_n hC dL_law_1091 rfl ?_
  refine r_iload hC dL_law_1092 rfl ?_
  refine r_iconst hC dL_law_1094 ?_
  refine r_iadd hC dL_law_1095 ?_
  refine r_ialdS hC dL_law_1096 hsc ⟨by omega, by omega⟩ ?_
  rw [← ha2]
  refine r_aload_n hC dL_law_1097 rfl ?_
  refine r_callH (as := [xA x, xI a1, xI a2, xA o]) hC dL_law_1098 mh_message sh_message ml_L_153 (rm := rmL_message) ⟨le_b rfl, le_b rfl⟩ rfl (le_b rfl) (by show c + 1 ≤ 601024; omega) (by show z + 6 ≤ 7293034; omega) (h_message hfC hX.1.1 (k_Rl_message hfC hX hr1 hr2) (by rintro r w ⟨rfl, rfl⟩; exact ⟨⟨_, rfl⟩, hRo.2.1.1⟩)) ?_ rfl
  rintro _ w ⟨rfl, h⟩
  rcases h with ⟨q0, val, w1, hp, rfl⟩ | ⟨q0, n0, hn0, rfl⟩
  · obtain ⟨hv0, rfl⟩ := hp
    have hval : val = m_msgV f (m_ranked f a1) a2 := Sum.inl.inj (Option.some.inj hv0)
    exact tail _ f s P kp K b n T hX.sJ htx hn hRo.sJ hRv hst hsm (by omega) (fun _ _ => rfl) (Or.inl ⟨q0, by rw [hval]; exact sJ_at _ _ _ _, rfl, rfl, rfl, rfl, rfl, rfl, rfl⟩)
  · exact tail _ f s P kp K b n T (hX.wN hn0) htx hn (hRo.wN hn0) hRv hst hsm (by omega) (fun _ _ => rfl) (Or.inr ⟨q0, rfl, rfl, rfl, rfl, rfl, rfl, rfl⟩)
