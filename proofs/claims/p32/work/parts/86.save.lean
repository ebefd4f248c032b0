/-! the relay saves -/
theorem Sta.kp {D : DD} {u w : Mem} {x : Nat} (h : Sta D u x) (hq : RXq u x) (k : Kp u w x) : Sta D w x := by
  obtain ⟨h1, h2, h3⟩ := h
  have hn := hq.1
  obtain ⟨-, e1, e2, -⟩ := k.2 (D.2.2.2.2 0) ⟨by omega, by omega, fun i hi a ha => by have := (hq.2.1 i hi a ha).1; omega⟩
  exact ⟨h1, e1.trans h2, fun i hi => by rw [e2]; exact h3 i hi⟩
theorem Kp.sI {u w : Mem} {x : Nat} (h : Kp u w x) (k v : Int) : Kp u (sI w x k v) x := h.trans ⟨Nat.le_refl _, fun q hq => ⟨⟨hq.1, hq.2.1, hq.2.2⟩, rfl, up_mI_n _ _ _ (by have := hq.2.1; omega), rfl, rfl⟩⟩
def TxS (u w : Mem) (x : Nat) : Prop := ∀ q, x + 148 ≤ q → q < x + 150 → mI w q = mI u q
abbrev rmX7_save : Room := { frames := 4, cells := 146, slots := 2320, locals := 105 }
set_option maxRecDepth 100000 in
theorem k_Rl_save {l : Launch} {D : DD} (hfl : l.stackTraces = false) {u : Mem} {x : Nat} {f : RW} {s : Int} {P : RW} {kp : Int} {K : RW} {T : Int} (hX : RX u x f s P kp K T) (rP : RF P) (hst : Sta D u x) : CT l D yX7_save cX7_save 3 none rmX7_save [xA x] u (fun o w => o = none ∧ RX w x f (m_savedN s) (m_saved P f s) kp K T ∧ Kp u w x ∧ TxS u w x) := by
  have hI := hX.2.2.1.2
  refine CT.of hfl (by decide) (le_b rfl) ?_
  intro C hC hR hL hDD hN
  have hfC : (cxL C).stackTraces = false := by rw [hL]; exact hfl
  have k56 : ∀ (v : Mem) (s' : Nat) (P' : RW) (l1 l2 : Option SV), s' < 6 → RX v x f s' P' kp K T → RF P' → Sta D v x → (∀ w, RX w x f ((s' : Int) + 1) (m_put P' f s' 1651) kp K T → Kp v w x → TxS v w x → (fun o w => o = none ∧ RX w x f (m_savedN s) (m_saved P f s) kp K T ∧ Kp u w x ∧ TxS u w x) (none : Option SV) w) → VW C 56 [some (xA x), l1, l2] [] v 0 0 := by
    intro v s' P' l1 l2 hs6 hXv rP' hstv hfin
    obtain ⟨ho, hqv, ⟨hSv, -⟩, ⟨hX3, -, -⟩, -⟩ := id hXv
    have hnv := hqv.1
    have k84 : ∀ (w : Mem) (a c z : Nat), c ≤ 146 → z ≤ 2320 → mSh w x = some (.inl 7) → mP w x 0 = some (x + 1) → mP w x 1 = some (x + 147) → mSh w (x + 147) = some (.inr (2, 6)) → mP w (x + 147) s' = some a → mI w x 3 = s' → StO w a → RS w (x + 1) f → x + 147 ≤ a → (∀ w' : Mem, Fr w w' (fun q => a ≤ q ∧ q < a + 146) (fun _ => False) → RS w' a f → Fill v w' x s' a f) → VW C 84 [some (xA x), l1, l2] [] w c z := by
      intro w a c z hc hz hsx hp0 hp1 hsq hps hI3 hOa hSn hxa hfl'
      refine r_aload_n hC dX7_save_84 rfl ?_
      refine r_getR (j := 1) hC dX7_save_85 fl_X7_16 rfl rfl hsx hp1 ?_
      refine r_aload_n hC dX7_save_88 rfl ?_
      refine r_getIv (j := 3) (v := s') hC dX7_save_89 fl_X7_27 rfl rfl hsx hI3 ?_
      refine r_aald hC dX7_save_92 hsq (le_b rfl) (lt_b rfl) ⟨by omega, by omega⟩ hps ?_
      refine r_aload_n hC dX7_save_93 rfl ?_
      refine r_getR (j := 0) hC dX7_save_94 fl_X7_10 rfl rfl hsx hp0 ?_
      refine r_V0p (u := w) hC dX7_save_97 mi_X5_copyFrom se_X5_copyFrom ml_X7_184 (rm := rmX5_copyFrom) rfl hOa.o rfl rfl rfl rfl ⟨hc, hz⟩ (k_St_copy hfC hOa hSn hI (Or.inl (by omega))) ?_ rfl
      rintro _ w' ⟨rfl, hS', hf'⟩
      have hF := hfl' w' hf' hS'
      have hsx' : mSh w' x = some (.inl 7) := by rw [hf'.1]; exact hsx
      have hn3 : mI w' x 3 = s' := by rw [hf'.mI (by omega)]; exact hI3
      refine r_aload_n hC dX7_save_100 rfl ?_
      refine r_dup hC dX7_save_101 rfl ?_
      refine r_getIv (j := 3) (v := s') hC dX7_save_102 fl_X7_27 rfl rfl hsx' hn3 ?_
      refine r_iconst hC dX7_save_105 ?_
      refine r_iadd hC dX7_save_106 ?_
      refine r_putI (j := 3) hC dX7_save_107 fl_X7_27 rfl hsx' (by rintro _ ⟨⟩; rfl) (Or.inl rfl) ?_
      refine r_vret hC hR dX7_save_110 hc hz ?_
      refine hfin _ (hXv.push hs6 rP' hF) ((hF.kp hqv (by omega)).sI _ _) (fun q q1 q2 => ?_)
      rw [up_mI_n _ _ _ (by omega)]
      exact (hF.2.2.2.2.2 q (by omega)).2.2.1 (by have := hF.2.2.1.1; omega)
    refine r_aload_n hC dX7_save_56 rfl ?_
    refine r_getR (j := 1) hC dX7_save_57 fl_X7_16 rfl rfl ho.1 ho.2.2.1.1 ?_
    refine r_aload_n hC dX7_save_60 rfl ?_
    refine r_getIv (j := 3) (v := s') hC dX7_save_61 fl_X7_27 rfl rfl ho.1 hX3 ?_
    refine r_aald hC dX7_save_64 ho.2.2.1.2 (le_b rfl) (lt_b rfl) ⟨by omega, by omega⟩ rfl ?_
    refine r_ifnonnull (t := 84) hC dX7_save_65 (by rfl) (fun a_65 h_65 => ?_) (fun h_65 => ?_)
    · skip
      have ha : qS v x s' = some a_65 := by
        unfold qS qR qK; rw [if_pos (by omega), if_pos (by omega)]; exact h_65
      have hb := hqv.2.1 s' (by omega) a_65 ha
      exact k84 v a_65 0 0 (by omega) (by omega) ho.1 ho.2.1 ho.2.2.1.1 ho.2.2.1.2 h_65 hX3 hb.2 hSv (by omega) (fun w' hf' hS' => fill_old hqv (by omega) ha hf' hS')
    · skip
      refine r_aload_n hC dX7_save_68 rfl ?_
      refine r_getR (j := 1) hC dX7_save_69 fl_X7_16 rfl rfl ho.1 ho.2.2.1.1 ?_
      refine r_aload_n hC dX7_save_72 rfl ?_
      refine r_getIv (j := 3) (v := s') hC dX7_save_73 fl_X7_27 rfl rfl ho.1 hX3 ?_
      refine r_new (ci := 5) hC dX7_save_76 rfl cl_X7_7 cn_X5 cz_X5 (le_b rfl) (le_b rfl) (fun _ => ?_)
      refine r_dup hC dX7_save_79 rfl ?_
      refine r_callI (as := []) (a := mN v) hC dX7_save_80 mi_X5_init si_X5_init rfl ml_X7_9 (rm := rmX5_init) ⟨le_b rfl, le_b rfl⟩ rfl (le_b rfl) (le_b rfl) (le_b rfl) (n_St hfC (u := nC v (some (.inl 5))) (b := mN v) (sa := D.2.2.2.2 0) rfl (by rw [mSh_nC, if_pos rfl]) (by funext j; rw [mI_nC, if_pos rfl]) (by rw [hDD]) (by rw [mSh_nC, if_neg (by have := hstv.1; omega)]; exact hstv.2.1) (fun i hi => by rw [mI_nC, if_neg (by have := hstv.1; omega)]; exact hstv.2.2 i hi)) ?_ rfl
      rintro _ w1 ⟨rfl, m1, m2, m3⟩
      have E := ext_obj m2 (x + 147) s' (some (mN v))
      refine r_aast hC dX7_save_83 (by rw [(m2 (x + 147) (by omega)).1, mSh_nC, if_neg (by omega)]; exact ho.2.2.1.2) (le_b rfl) (lt_b rfl) m3.o.o rfl rfl ⟨by omega, by omega⟩ ?_
      have hqr : qR x s' = x + 147 := by unfold qR; rw [if_pos (by omega)]
      have hqk : qK s' = s' := by unfold qK; rw [if_pos (by omega)]
      refine k84 (sP w1 (x + 147) s' (some (mN v))) (mN v) _ _ (le_b rfl) (le_b rfl) ((E x (by omega)).1.trans ho.1) (((E x (by omega)).2.2 0 (Or.inl (by omega))).trans ho.2.1) (((E x (by omega)).2.2 1 (Or.inl (by omega))).trans ho.2.2.1.1) ((E (x + 147) (by omega)).1.trans ho.2.2.1.2) (mP_sP_s _ _ _ _) (by rw [(E x (by omega)).2.1]; exact hX3) (m3.o.loc (fun q h1 h2 => ⟨rfl, by funext j; exact mP_sP_a _ _ _ _ (by omega)⟩)) (hSv.loc hI.b (fun q h1 h2 => ?_)) (by omega) (fun w' hf' hS' => fill_new (w1 := w1) (i := s') hnv (by omega) m2 (by rw [hqr, hqk]; exact hf') hS')
      obtain ⟨e1, e2, e3⟩ := E q (by omega)
      exact ⟨e1, e2, funext fun j => e3 j (Or.inl (by omega))⟩
  by_cases hs6 : s = 6
  · subst hs6
    have ho := hX.1
    have hX3 := hX.2.2.2.1.1
    obtain ⟨a0, ha0, hs0u, -⟩ := hX.2.2.2.1.2.2 0 (by decide)
    have ha0' : mP u (x + 147) 0 = some a0 := ha0
    have lp : ∀ (n i : Nat) (w : Mem), 6 - i = n → 1 ≤ i → i ≤ 6 → Rot u w x i → VW C 18 [some (xA x), some (xA a0), some (xI i)] [] w 0 0 := by
      intro n
      induction n using Nat.strongRecOn with
      | _ n ih =>
      intro i w hn h1 hi hr
      have hsx : mSh w x = some (.inl 7) := by rw [hr.1]; exact ho.1
      have hp1 : mP w x 1 = some (x + 147) := by rw [hr.2.2.2.2.1 x (by omega)]; exact ho.2.2.1.1
      have hsq : mSh w (x + 147) = some (.inr (2, 6)) := by rw [hr.1]; exact ho.2.2.1.2
      have hs0 : mSh w a0 = some (.inl 5) := by rw [hr.1]; exact hs0u.o.o
      refine r_iload_n hC dX7_save_18 rfl ?_
      refine r_bipush hC dX7_save_19 (by rfl) ?_
      refine r_icmp_ge (t := 44) hC dX7_save_21 (by rfl) ⟨by omega, by omega⟩ ⟨by omega, by omega⟩ (fun h_21 => ?_) (fun h_21 => ?_)
      · skip
        refine r_aload_n hC dX7_save_44 rfl ?_
        refine r_getR (j := 1) hC dX7_save_45 fl_X7_16 rfl rfl hsx hp1 ?_
        refine r_iconst hC dX7_save_48 ?_
        refine r_aload_n hC dX7_save_49 rfl ?_
        refine r_aast hC dX7_save_50 hsq (le_b rfl) (lt_b rfl) hs0 rfl rfl ⟨by omega, by omega⟩ ?_
        refine r_aload_n hC dX7_save_51 rfl ?_
        refine r_iconst hC dX7_save_52 ?_
        refine r_putI (j := 3) hC dX7_save_53 fl_X7_27 rfl hsx (by rintro _ ⟨⟩; rfl) (Or.inl rfl) ?_
        have hi6 : i = 6 := by omega
        subst hi6
        have hrot := RX.rot hX rP hr
        rw [ha0'] at hrot
        refine k56 _ 5 (m_shf P 8255) _ _ (by decide) hrot.1 (rf_shf rP _) (hst.kp hX.2.1 hrot.2) (fun w' k1 k2 k3 => ⟨rfl, ?_, hrot.2.trans k2, fun q q1 q2 => ?_⟩)
        · rw [show m_savedN 6 = ((5 : Nat) : Int) + 1 from rfl, show m_saved P f 6 = m_put (m_shf P 8255) f ((5 : Nat) : Int) 1651 from if_pos rfl]; exact k1
        · rw [k3 q q1 q2, up_mI_n _ _ _ (by omega), mI_sP, hr.2.2.1]
      · skip
        obtain ⟨ai, hai, hsai, -⟩ := hX.2.2.2.1.2.2 i (by omega)
        have hai' : mP u (x + 147) i = some ai := by
          unfold qS qR qK at hai; rw [if_pos (by omega), if_pos (by omega)] at hai; exact hai
        have hpi : mP w (x + 147) i = some ai := by rw [hr.2.2.2.2.2, if_neg (by omega)]; exact hai'
        have hsi : mSh w ai = some (.inl 5) := by rw [hr.1]; exact hsai.o.o
        refine r_aload_n hC dX7_save_24 rfl ?_
        refine r_getR (j := 1) hC dX7_save_25 fl_X7_16 rfl rfl hsx hp1 ?_
        refine r_iload_n hC dX7_save_28 rfl ?_
        refine r_iconst hC dX7_save_29 ?_
        refine r_isub hC dX7_save_30 ?_
        refine r_aload_n hC dX7_save_31 rfl ?_
        refine r_getR (j := 1) hC dX7_save_32 fl_X7_16 rfl rfl hsx hp1 ?_
        refine r_iload_n hC dX7_save_35 rfl ?_
        refine r_aald hC dX7_save_36 hsq (le_b rfl) (lt_b rfl) ⟨by omega, by omega⟩ hpi ?_
        refine r_aast hC dX7_save_37 hsq (le_b rfl) (lt_b rfl) hsi rfl rfl ⟨by omega, by omega⟩ ?_
        refine r_iinc (lv' := [_, _, _]) hC dX7_save_38 rfl (lt_b rfl) rfl (lt_b rfl) rfl ?_
        refine r_goto (t := 18) hC dX7_save_41 (by rfl) ?_
        have hr2 := hr.step h1
        rw [hai'] at hr2
        exact ih _ (by omega) (i + 1) _ rfl (by omega) (by omega) hr2
    show VW C 0 [some (xA x), none, none] [] u 0 0
    refine r_aload_n hC dX7_save_0 rfl ?_
    refine r_getIv (j := 3) (v := 6) hC dX7_save_1 fl_X7_27 rfl rfl ho.1 hX3 ?_
    refine r_bipush hC dX7_save_4 (by rfl) ?_
    refine r_icmp_lt (t := 56) hC dX7_save_6 (by rfl) ⟨by omega, by omega⟩ ⟨by omega, by omega⟩ (fun h_6 => ?_) (fun h_6 => ?_)
    · skip
      omega
    · skip
      refine r_aload_n hC dX7_save_9 rfl ?_
      refine r_getR (j := 1) hC dX7_save_10 fl_X7_16 rfl rfl ho.1 ho.2.2.1.1 ?_
      refine r_iconst hC dX7_save_13 ?_
      refine r_aald hC dX7_save_14 ho.2.2.1.2 (le_b rfl) (lt_b rfl) ⟨by omega, by omega⟩ ha0' ?_
      refine r_astore_n (lv' := [_, _, _]) hC dX7_save_15 (lt_b rfl) rfl (lt_b rfl) rfl ?_
      refine r_iconst hC dX7_save_16 ?_
      refine r_istore_n (lv' := [_, _, _]) hC dX7_save_17 (lt_b rfl) rfl (lt_b rfl) rfl ?_
      exact lp _ 1 u rfl (by decide) (by decide) (Rot.begin u x)
  · have ho := hX.1
    have hX3 := hX.2.2.2.1.1
    have hsr := hX.2.2.2.1.2.1
    obtain ⟨s', rfl⟩ : ∃ s' : Nat, s = s' := ⟨s.toNat, by omega⟩
    show VW C 0 [some (xA x), none, none] [] u 0 0
    refine r_aload_n hC dX7_save_0 rfl ?_
    refine r_getIv (j := 3) (v := s') hC dX7_save_1 fl_X7_27 rfl rfl ho.1 hX3 ?_
    refine r_bipush hC dX7_save_4 (by rfl) ?_
    refine r_icmp_lt (t := 56) hC dX7_save_6 (by rfl) ⟨by omega, by omega⟩ ⟨by omega, by omega⟩ (fun h_6 => ?_) (fun h_6 => ?_)
    · skip
      refine k56 u s' P _ _ (by omega) hX rP hst (fun w' k1 k2 k3 => ⟨rfl, ?_, k2, k3⟩)
      rw [show m_savedN (s' : Int) = (s' : Int) + 1 from if_neg hs6, show m_saved P f (s' : Int) = m_put P f (s' : Int) 1651 from if_neg hs6]; exact k1
    · skip
      omega
