/-! ===== the law's entry ===== -/
theorem RX.bel0 {u w : Mem} {x : Nat} {f P K : RW} {T : Int} (h : RX u x f 0 P 0 K T) (hN : mN u = x + 150) (hb : Bel u w (x + 150)) (hn : x + 150 ≤ mN w) : RX w x f 0 P 0 K T ∧ ∀ i, i < 8 → qS w x i = none := by
  obtain ⟨ho, hq, ⟨hR, hI⟩, ⟨s1, s2, s3⟩, hk⟩ := h
  have g : ∀ q, q < x + 150 → mSh w q = mSh u q ∧ mI w q = mI u q ∧ mP w q = mP u q := fun q h => ⟨(hb q h).1, (hb q h).2.1, (hb q h).2.2.1⟩
  have e0 : ∀ i, i < 8 → qS u x i = none := fun i hi => by
    cases h9 : qS u x i with
    | none => rfl
    | some a => have := (hq.2.1 i hi a h9).1; omega
  have e1 : ∀ i, i < 8 → qS w x i = none := fun i hi => by
    rw [← e0 i hi]; unfold qS; rw [(g (qR x i) (by unfold qR; split <;> omega)).2.2]
  refine ⟨⟨?_, ⟨hn, fun i hi a ha => ?_, fun i j hi hj hne a b ha => ?_⟩, ⟨hR.loc hI.b (fun q h1 h2 => g q (by omega)), hI⟩, ⟨by rw [(g x (by omega)).2.1]; exact s1, s2, fun k hk' => ?_⟩, Or.inl ⟨rfl, e1 6 (by decide)⟩⟩, e1⟩
  · unfold RXo TeO at *
    rw [(g x (by omega)).1, (g x (by omega)).2.2, (g (x + 147) (by omega)).1, (g (x + 148) (by omega)).1, (g (x + 148) (by omega)).2.2, (g (x + 148 + 1) (by omega)).1]
    exact ho
  · rw [e1 i hi] at ha; cases ha
  · rw [e1 i hi] at ha; cases ha
  · omega
set_option maxRecDepth 100000 in
theorem law_in {C : Cx} (hC : CxOK C cL_law RL room_1 9) (hfC : (cxL C).stackTraces = false) {u : Mem} {sc L : Nat} (hL : L ≤ 2048) (hsc : mSh u sc = some (.inr (9, L))) (hlt : sc < mN u) (hst : Sta (cxD C) u (mN u)) (hsm : StaM (cxD C) u (mN u)) (hend : ∀ (w : Mem) (lv : LV) (c z : Nat), c ≤ 601024 → z ≤ 7293034 → VW C 1543 lv [xI 1] w c z) : VW C 0 [some (xA sc), none, none, none, none, none, none, none, none] [] u 0 0 := by
  obtain ⟨x, hx⟩ : ∃ x, x = mN u := ⟨_, rfl⟩
  rw [← hx] at hst hsm hlt
  refine r_new (ci := 7) (r := (RX7, TX7, 6)) hC dL_law_0 rfl cl_L_8 cn_X7 (mi_X7_init).1 (le_b rfl) (le_b rfl) (fun hz0 => ?_)
  rw [← hx]
  refine r_dup hC dL_law_3 rfl ?_
  have b1 : Bel u (nC u (some (.inl 7))) x := (Bel.refl u x).nC (by omega) _
  have hst1 : Sta (cxD C) (nC u (some (.inl 7))) x := by
    obtain ⟨h1, h2, h3⟩ := hst
    exact ⟨h1, by rw [(b1 _ h1).1]; exact h2, fun i hi => by rw [(b1 _ h1).2.1]; exact h3 i hi⟩
  refine r_callI (as := []) (a := x) hC dL_law_4 mi_X7_init si_X7_init rfl ml_L_79 (rm := rmX7_init) ⟨le_b rfl, le_b rfl⟩ rfl (le_b rfl) (le_b rfl) (le_b rfl) (n_Rl hfC (u := nC u (some (.inl 7))) (x := x) (by rw [mN_nC, hx]) (by rw [mSh_nC, if_pos hx]) hst1) ?_ rfl
  rintro _ w ⟨rfl, hX, b2, hNw, ht0, -⟩
  refine r_astore_n (lv' := [_, _, _, _, _, _, _, _, _]) hC dL_law_7 (lt_b rfl) rfl (lt_b rfl) rfl ?_
  refine r_new (ci := 8) (r := (RX8, TX8, 12)) hC dL_law_8 rfl cl_L_80 cn_X8 (mi_X8_init).1 (le_b rfl) (le_b rfl) (fun hz1 => ?_)
  obtain ⟨m, hm⟩ : ∃ m, m = mN w := ⟨_, rfl⟩
  rw [← hm]
  refine r_dup hC dL_law_11 rfl ?_
  refine r_callI (as := []) (a := m) hC dL_law_12 mi_X8_init si_X8_init rfl ml_L_82 (rm := rmX8_init) ⟨le_b rfl, le_b rfl⟩ rfl (le_b rfl) (le_b rfl) (le_b rfl) (k_init hfC (u := nC w (some (.inl 8))) (m := m) (by rw [mN_nC, hm]) (by rw [mSh_nC, if_pos hm]) (by funext j; rw [mI_nC, if_pos hm])) ?_ rfl
  rintro _ _ ⟨rfl, w2, rfl, hMO, hN2, b3, hz2⟩
  refine r_astore_n (lv' := [_, _, _, _, _, _, _, _, _]) hC dL_law_15 (lt_b rfl) rfl (lt_b rfl) rfl ?_
  refine r_iconst hC dL_law_16 ?_
  refine r_newarr (n := 1) (ty := 1) hC dL_law_17 (Or.inr ⟨rfl, rfl⟩) rfl (le_b rfl) (le_b rfl) (le_b rfl) ka_long (fun hz3 => ?_)
  obtain ⟨o, ho⟩ : ∃ o, o = mN (sA w2 (m + 1) m_row0) := ⟨_, rfl⟩
  have ho8 : o = m + 8 := by rw [ho]; exact hN2
  rw [← ho]
  refine r_astore_n (lv' := [_, _, _, _, _, _, _, _, _]) hC dL_law_19 (lt_b rfl) rfl (lt_b rfl) rfl ?_
  refine r_iconst hC dL_law_20 ?_
  refine r_istore (lv' := [_, _, _, _, _, _, _, _, _]) hC dL_law_21 (lt_b rfl) rfl (lt_b rfl) rfl ?_
  obtain ⟨v, hv⟩ : ∃ v, v = nC (sA w2 (m + 1) m_row0) (some (.inr (1, 1))) := ⟨_, rfl⟩
  rw [← hv]
  have hmx : m = x + 150 := by rw [hm, hNw]
  have bw2 : Bel w w2 m := (((Bel.refl w m).nC (by omega) _).trans b3 (Nat.le_refl _))
  have bv : Bel w v m := by rw [hv]; exact (bw2.sA (by omega) _).nC (by rw [← ho]; omega) _
  have bu : Bel u v x := b1.trans (b2.trans bv (by omega)) (Nat.le_refl _)
  have hNv : mN v = m + 9 := by rw [hv, mN_nC, ← ho, ho8]
  have hX0 : RX w x m_row0 0 (mI v (m + 2)) 0 (mI v (m + 3)) (1525 * ((0 : Nat) : Int)) := hX _ _ _ (by decide)
  obtain ⟨hXv, hsl⟩ := hX0.bel0 hNw (by rw [← hmx]; exact bv) (by omega)
  have hIm : ∀ q, m ≤ q → q < m + 8 → q ≠ m + 1 → mI v q = fun _ => 0 := fun q h1 h2 h3 => by
    funext j
    rw [hv, mI_nC, if_neg (by rw [← ho]; omega), mI_sA_n _ _ h3, hz2 q h1 (by omega)]
  have hI1 : mI v (m + 1) = m_row0 := by
    funext j
    rw [hv, mI_nC, if_neg (by rw [← ho]; omega), mI_sA_f _ _ rf_row0]
  have hShv : ∀ q, q < m + 8 → mSh v q = mSh w2 q := fun q h => by
    rw [hv, mSh_nC, if_neg (by rw [← ho]; omega)]; rfl
  have hPv : ∀ q, q < m + 8 → mP v q = mP w2 q := fun q h => by
    funext j
    rw [hv, mP_nC, if_neg (by rw [← ho]; omega)]; rfl
  have hMv : MO v m := by
    unfold MO at *
    rw [hShv m (by omega), hPv m (by omega), hShv (m + 1) (by omega), hShv (m + 2) (by omega), hShv (m + 3) (by omega), hShv (m + 4) (by omega), hShv (m + 5) (by omega), hShv (m + 6) (by omega), hShv (m + 7) (by omega)]
    exact hMO
  have hRo : RRo v x m o sc L := ⟨hMv, ⟨by rw [hv, mSh_nC, if_pos ho], by rw [(bu sc hlt).1]; exact hsc⟩, fun q hq => ⟨by omega, by omega, fun i hi a ha => by rw [hsl i hi] at ha; cases ha⟩, by omega⟩
  have hRv : RRv v m m_row0 0 (mI v (m + 2)) 0 (mI v (m + 3)) (mI v (m + 5)) ((0 : Nat) : Int) := ⟨⟨hI1, rfl, rfl, rfl⟩, by rw [hIm m (by omega) (by omega) (by omega)], by rw [hIm m (by omega) (by omega) (by omega)], by rw [hIm m (by omega) (by omega) (by omega)]; rfl⟩
  have htx : RXt v x (mI v (m + 5)) ((0 : Nat) : Int) := ⟨by rw [(bv (x + 148) (by omega)).2.1]; exact ht0, ⟨by decide, by decide⟩, fun k hk => by omega⟩
  have hst2 : Sta (cxD C) v x := by
    obtain ⟨h1, h2, h3⟩ := hst
    exact ⟨h1, by rw [(bu _ h1).1]; exact h2, fun i hi => by rw [(bu _ h1).2.1]; exact h3 i hi⟩
  have hsm2 : StaM (cxD C) v x := by
    obtain ⟨⟨h1, h2, h3⟩, h4, h5, h6⟩ := hsm
    exact ⟨⟨h1, by rw [(bu _ h1).1]; exact h2, fun i a b => by rw [(bu _ h1).2.1]; exact h3 i a b⟩, h4, by rw [(bu _ h4).1]; exact h5, fun i a b => by rw [(bu _ h4).2.1]; exact h6 i a b⟩
  exact vw_widen (le_b rfl) (le_b rfl) (law_all hC hfC hL hend 159 17337 (le_b rfl) (le_b rfl) L 0 (by omega) (by omega) v none none none none ⟨m_row0, 0, _, 0, _, _, 0, hXv, htx, by decide, hRo, hRv, hst2, hsm2⟩)
/-- from the entry, for every script of at most 2048 ints, the law comes to its end with true -/
theorem whole_start {p : Program} {e : Env} {s : State} {m : MethodId} {below : List Frame} {meth : Method} {c : Code} (l : Launch) (hflags : l.flags = flags0) {b L : Nat} {xs : Nat → Int32} (hL : L ≤ 2048) (C0 : lw_At p s m meth c b L xs) : W p l e room_1 s m #[Value.ref b] below meth c s.heap [] 0 0 (lw_Z below #[Value.ref b] s) (entryFrame m ([Value.ref b] : List Value).toArray 9) := by
  obtain ⟨hx, hb, hr, hml, hown, hts, hX, hbl, hlocks, hgv⟩ := id C0
  obtain ⟨D, u, hD1, hKD, hRel, hN, hsb, hSt⟩ := start_mem hts (flat_of_before _ hgv) hL hX hbl
  have hfl : l.stackTraces = false := by unfold Launch.stackTraces; rw [hflags]; decide +kernel
  have hl := lv_entry ([Value.ref b]) (n := 9) (Nat.le_of_ble_eq_true rfl)
  rw [lg_entry_eq]
  generalize (lg_sl ([Value.ref b]) ++ List.replicate (9 - (lg_sl ([Value.ref b])).length) Slot.unset).toArray = ls at hl ⊢
  have hC : CxOK (p, l, e, room_1, s, m, #[Value.ref b], below, meth, c, lw_Z below #[Value.ref b] s, D) cL_law RL room_1 9 := ⟨hx, hb, hml, hown, fun w hw => hts w (List.mem_filter.mp hw).1, hKD, rfl, by rw [hD1]; exact Nat.le_refl _, hfl, hlocks⟩
  have h := law_in hC hfl hL hsb (by rw [hN]; exact hbl) (hSt _ (by rw [hN]; exact Nat.le_refl _)).1 (hSt _ (by rw [hN]; exact Nat.le_refl _)).2 (fun w lv c' z' hc' hz' H locs ls hu hS hl => by
    refine W.widen hc' hz' ?_
    refine va_forget (fun q hq => by rw [← hD1]; exact hS.2.2 q hq) ?_
    exact lw_ret (d0 := s.drawn) (Drawn.sameBut.refl s.drawn lw_cs) hx hb hr hlocks dL_law_1543)
  exact h s.heap [] ls hRel va_S.rf (by rw [hml]; exact hl)
