/-! a new relay -/
abbrev rmX7_init : Room := { frames := 4, cells := 149, slots := 2388, locals := 74 }
set_option maxRecDepth 100000 in
theorem n_Rl {l : Launch} {D : DD} (hfl : l.stackTraces = false) {u : Mem} {x : Nat} (hNu : mN u = x + 1) (hsu : mSh u x = some (.inl 7)) (hst : Sta D u x) : CT l D yX7_init cX7_init 1 none rmX7_init [xA x] u (fun o w => o = none ∧ (∀ (P K : RW) (T : Int), 0 ≤ T → RX w x m_row0 0 P 0 K T) ∧ Bel u w x ∧ mN w = x + 150 ∧ mI w (x + 148) 1 = 0 ∧ ∀ j : Int, j ≠ 3 → mI w x j = mI u x j) := by
  refine CT.of hfl (by decide) (le_b rfl) ?_
  intro C hC hR hL hDD hN
  have hfC : (cxL C).stackTraces = false := by rw [hL]; exact hfl
  show VW C 0 [some (xA x)] [] u 0 0
  refine r_aload_n hC dX7_init_0 rfl ?_
  refine r_objInit hC dX7_init_1 ml_X7_1 si_obj co_obj ⟨le_b rfl, le_b rfl⟩ ?_
  refine r_aload_n hC dX7_init_4 rfl ?_
  refine r_new (ci := 5) hC dX7_init_5 rfl cl_X7_7 cn_X5 cz_X5 (le_b rfl) (le_b rfl) (fun _ => ?_)
  rw [hNu]
  refine r_dup hC dX7_init_8 rfl ?_
  refine r_callI (as := []) (a := x + 1) hC dX7_init_9 mi_X5_init si_X5_init rfl ml_X7_9 (rm := rmX5_init) ⟨le_b rfl, le_b rfl⟩ rfl (le_b rfl) (le_b rfl) (le_b rfl) (n_St hfC (u := nC u (some (.inl 5))) (b := x + 1) (sa := D.2.2.2.2 0) (by rw [mN_nC, hNu]) (by rw [mSh_nC, if_pos hNu.symm]) (by funext j; rw [mI_nC, if_pos hNu.symm]) (by rw [hDD]) (by rw [mSh_nC, if_neg (by have := hst.1; omega)]; exact hst.2.1) (fun i hi => by rw [mI_nC, if_neg (by have := hst.1; omega)]; exact hst.2.2 i hi)) ?_ rfl
  rintro _ w1 ⟨rfl, m1, m2, m3⟩
  have hx1 := m2 x (by omega)
  have hsx1 : mSh w1 x = some (.inl 7) := by rw [hx1.1, mSh_nC, if_neg (by omega)]; exact hsu
  refine r_putR (j := 0) (ci := 7) hC dX7_init_12 fl_X7_10 rfl hsx1 (Or.inr ⟨by rintro _ ⟨⟩; exact ⟨rfl, rfl⟩, hN⟩) rfl ?_
  obtain ⟨v1, hv1⟩ : ∃ v, v = sP w1 x 0 (some (x + 1)) := ⟨_, rfl⟩
  rw [← hv1]
  have n1 : mN v1 = x + 147 := by rw [hv1, mN_sP]; omega
  have s1 : mSh v1 x = some (.inl 7) := by rw [hv1]; exact hsx1
  have p1 : mP v1 x 0 = some (x + 1) := by rw [hv1, mP_sP_s]
  refine r_aload_n hC dX7_init_15 rfl ?_
  refine r_bipush hC dX7_init_16 (by rfl) ?_
  refine r_anewarr (n := 6) (ty := 2) (nm := RX5) hC dX7_init_18 (le_b rfl) (lt_b rfl) rfl rfl (le_b rfl) (le_b rfl) (le_b rfl) cl_X7_7 (by simp) (fun _ => ?_)
  refine r_putR (j := 1) (ci := 7) hC dX7_init_21 fl_X7_16 rfl (by rw [mSh_nC, if_neg (by omega)]; exact s1) (Or.inr ⟨by rintro _ ⟨⟩; exact ⟨rfl, rfl⟩, hN⟩) rfl ?_
  have E2 := ext_arr v1 (some (.inr (2, 6))) x 1 (some (mN v1))
  obtain ⟨v2, hv2⟩ : ∃ v, v = sP (nC v1 (some (.inr (2, 6)))) x 1 (some (mN v1)) := ⟨_, rfl⟩
  rw [← hv2] at E2 ⊢
  have n2 : mN v2 = x + 148 := by rw [hv2, mN_sP, mN_nC]; omega
  have s2 : mSh v2 x = some (.inl 7) := (E2 x (by omega)).1.trans s1
  have p2 : mP v2 x 1 = some (x + 147) := by rw [hv2, mP_sP_s, n1]
  have q2 : mSh v2 (x + 147) = some (.inr (2, 6)) := by rw [hv2, mSh_sP, mSh_nC, if_pos n1.symm]
  have o2 : ∀ k : Int, mP v2 (x + 147) k = none := fun k => by rw [hv2, mP_sP_a _ _ _ _ (by omega), mP_nC, if_pos n1.symm]
  refine r_aload_n hC dX7_init_24 rfl ?_
  refine r_new (ci := 2) hC dX7_init_25 rfl cl_X7_20 cn_X2 cz_X2 (le_b rfl) (le_b rfl) (fun _ => ?_)
  rw [n2]
  refine r_dup hC dX7_init_28 rfl ?_
  refine r_callI (as := []) (a := x + 148) hC dX7_init_29 mi_X2_init si_X2_init rfl ml_X7_22 (rm := rmX2_init) ⟨le_b rfl, le_b rfl⟩ rfl (le_b rfl) (le_b rfl) (le_b rfl) (n_Te hfC (u := nC v2 (some (.inl 2))) (b := x + 148) (by rw [mN_nC, n2]) (by rw [mSh_nC, if_pos n2.symm]) (by funext j; rw [mI_nC, if_pos n2.symm])) ?_ rfl
  rintro _ w3 ⟨rfl, t1, t2, t3, t4, -⟩
  have t2' : Bel (nC v2 (some (.inl 2))) w3 (mN v2) := by rw [n2]; exact t2
  have E3 := ext_obj t2' x 2 (some (x + 148))
  refine r_putR (j := 2) (ci := 7) hC dX7_init_32 fl_X7_23 rfl (by rw [(t2 x (by omega)).1, mSh_nC, if_neg (by omega)]; exact s2) (Or.inr ⟨by rintro _ ⟨⟩; exact ⟨rfl, rfl⟩, hN⟩) rfl ?_
  obtain ⟨v3, hv3⟩ : ∃ v, v = sP w3 x 2 (some (x + 148)) := ⟨_, rfl⟩
  rw [← hv3] at E3 ⊢
  have s3 : mSh v3 x = some (.inl 7) := (E3 x (by omega)).1.trans s2
  refine r_aload_n hC dX7_init_35 rfl ?_
  refine r_iconst hC dX7_init_36 ?_
  refine r_putI (j := 3) hC dX7_init_37 fl_X7_27 rfl s3 (by rintro _ ⟨⟩; rfl) (Or.inl rfl) ?_
  refine r_aload_n hC dX7_init_40 rfl ?_
  refine r_null hC dX7_init_41 ?_
  refine r_putR (j := 4) (ci := 7) hC dX7_init_42 fl_X7_31 rfl s3 (Or.inl (by rintro _ ⟨⟩; rfl)) rfl ?_
  refine r_aload_n hC dX7_init_45 rfl ?_
  refine r_null hC dX7_init_46 ?_
  refine r_putR (j := 5) (ci := 7) hC dX7_init_47 fl_X7_34 rfl s3 (Or.inl (by rintro _ ⟨⟩; rfl)) rfl ?_
  refine r_vret hC hR dX7_init_50 (le_b rfl) (le_b rfl) ?_
  obtain ⟨G, hG⟩ : ∃ G, G = sP (sP (sI v3 x 3 0) x 4 none) x 5 none := ⟨_, rfl⟩
  have gS : mSh G = mSh v3 := by rw [hG]; rfl
  have gN : mN G = x + 150 := by rw [hG, hv3]; exact t1
  have gI : ∀ q, q ≠ x → mI G q = mI v3 q := fun q hq => by rw [hG]; exact up_mI_n _ _ _ hq
  have gx : mI G x 3 = 0 := by rw [hG, mI_sP, mI_sP, mI_sI_s]; rfl
  have gP : ∀ q, q ≠ x → mP G q = mP v3 q := fun q hq => by
    funext j; rw [hG, mP_sP_a _ _ _ _ hq, mP_sP_a _ _ _ _ hq]; rfl
  have gPx : ∀ j : Int, j ≠ 4 → j ≠ 5 → mP G x j = mP v3 x j := fun j h4 h5 => by
    rw [hG, mP_sP_k _ _ _ _ h5, mP_sP_k _ _ _ _ h4]; rfl
  have g4 : mP G x 4 = none := by rw [hG, mP_sP_k _ _ _ _ (by decide), mP_sP_s]
  have g5 : mP G x 5 = none := by rw [hG, mP_sP_s]
  rw [← hG]
  have hnone : ∀ i, i < 8 → qS G x i = none := fun i hi => by
    unfold qS qR qK
    by_cases z : i < 6
    · rw [if_pos z, if_pos z, gP _ (by omega), (E3 (x + 147) (by omega)).2.2 _ (Or.inl (by omega))]; exact o2 _
    · rw [if_neg z, if_neg z]
      rcases (show i = 6 ∨ i = 7 by omega) with y | y <;> subst y
      · exact g4
      · exact g5
  have hte : TeO G (x + 148) := ⟨by rw [gS, hv3]; exact t3.1, by rw [gP _ (by omega), hv3, mP_sP_a _ _ _ _ (by omega)]; exact t3.2.1, by rw [gS, hv3]; exact t3.2.2⟩
  have hrs : RS G (x + 1) m_row0 := m3.loc inv_row0.b (fun q h1 h2 => by
    have e3 := E3 q (by omega)
    have e2 := E2 q (by omega)
    refine ⟨by rw [gS, e3.1, e2.1, hv1]; rfl, by rw [gI q (by omega), e3.2.1, e2.2.1, hv1]; rfl, ?_⟩
    rw [gP q (by omega)]
    funext j
    rw [e3.2.2 j (Or.inl (by omega)), e2.2.2 j (Or.inl (by omega)), hv1, mP_sP_a _ _ _ _ (by omega)])
  have hbel : Bel u G x := fun q hq => by
    have a1 := m2 q (by omega)
    have e3 := E3 q (by omega)
    have e2 := E2 q (by omega)
    refine ⟨?_, ?_, ?_, ?_⟩
    · rw [gS, e3.1, e2.1, hv1, mSh_sP, a1.1, mSh_nC, if_neg (by omega)]
    · rw [gI q (by omega), e3.2.1, e2.2.1, hv1, mI_sP, a1.2.1]; funext j; rw [mI_nC, if_neg (by omega)]
    · rw [gP q (by omega)]; funext j
      rw [e3.2.2 j (Or.inl (by omega)), e2.2.2 j (Or.inl (by omega)), hv1, mP_sP_a _ _ _ _ (by omega), a1.2.2.1, mP_nC, if_neg (by omega)]
    · have j3 : mJ G q = mJ w3 q := by rw [hG, hv3]; rfl
      rw [j3, (t2 q (by omega)).2.2.2]
      funext j
      rw [mJ_nC, if_neg (by omega), hv2, mJ_sP, mJ_nC, if_neg (by omega), hv1, mJ_sP, a1.2.2.2, mJ_nC, if_neg (by omega)]
  refine ⟨rfl, fun P K T hT => ⟨⟨by rw [gS]; exact s3, ?_, ⟨?_, by rw [gS]; exact (E3 (x + 147) (by omega)).1.trans q2⟩, ?_, hte⟩, ⟨by omega, fun i hi a ha => by rw [hnone i hi] at ha; exact absurd ha (by simp), fun i j hi hj _ a b ha _ => by rw [hnone i hi] at ha; exact absurd ha (by simp)⟩, ⟨hrs, inv_row0.more hT⟩, ⟨gx, by omega, fun k hk => by omega⟩, Or.inl ⟨rfl, hnone 6 (by decide)⟩⟩, hbel, gN, ?_, fun j hj => ?_⟩
  · rw [gPx 0 (by decide) (by decide), (E3 x (by omega)).2.2 0 (Or.inr (by decide)), (E2 x (by omega)).2.2 0 (Or.inr (by decide))]; exact p1
  · rw [gPx 1 (by decide) (by decide), (E3 x (by omega)).2.2 1 (Or.inr (by decide))]; exact p2
  · rw [gPx 2 (by decide) (by decide), hv3, mP_sP_s]
  · rw [gI _ (by omega), hv3, mI_sP, t4]; rfl
  · have : mI G x j = mI v3 x j := by rw [hG, mI_sP, mI_sP, mI_sI_k _ _ _ _ hj]
    rw [this, (E3 x (by omega)).2.1, (E2 x (by omega)).2.1, hv1, mI_sP, hx1.2.1, mI_nC, if_neg (by omega)]
