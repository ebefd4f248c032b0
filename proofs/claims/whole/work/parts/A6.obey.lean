/-! ===== the relay obeys a text ===== -/
theorem p_obeyL_end {b : RW} {n : Int} {k : Nat} {g : Bool} {c a : Int} {N B f : RW} (h : ¬ (g = true ∧ a < n)) : p_obeyL b n k g c a N B f = (c, a, N, B, f) := by
  cases k with
  | zero => rfl
  | succ k => simp only [p_obeyL]; rw [if_neg h]
theorem p_okL_end {b : RW} {n : Int} {k : Nat} {g : Bool} {a : Int} {N B f : RW} (h : ¬ (g = true ∧ a < n)) (h1 : RF f) (h2 : RF B) : p_okL b n k g a N B f := by
  cases k with
  | zero => exact ⟨h1, h2⟩
  | succ k => exact ⟨⟨h1, h2⟩, fun z => absurd z h⟩
abbrev rmX7_obey : Room := { frames := 6, cells := 146, slots := 2320, locals := 142 }
set_option maxRecDepth 100000 in
theorem k_Rl_obey {l : Launch} {D : DD} (hfl : l.stackTraces = false) {u : Mem} {x : Nat} {f : RW} {s : Int} {P : RW} {kp : Int} {K : RW} {T : Int} (hX0 : RX u x f s P kp K T) (rP : RF P) (hst : Sta D u x) {b B N0 : RW} {n : Nat} (htx : RXt u x b n) (hn : n ≤ 60) (hB : RF B) (hN0 : RF N0) (hT : T + 1700 ≤ 2000000) : CTX l D yX7_obey cX7_obey 3 (some .int) rmX7_obey [xA x] u (xP (if (p_well b n N0).1 = true then 0 else 1) (fun o w => o = some (xI (p_obeyL b n 61 true 0 0 (p_well b n N0).2.2 B f).1) ∧ RX w x (p_obeyL b n 61 true 0 0 (p_well b n N0).2.2 B f).2.2.2.2 (m_savedN s) (m_saved P f s) kp K (T + 1525) ∧ Kp u w x ∧ RXt w x b 0 ∧ p_okL b n 61 true 0 (p_well b n N0).2.2 B f)) (xQ u (if (p_well b n N0).1 = true then 0 else 1) [xIA]) := by
  refine CTX.of hfl (by decide) (le_b rfl) ?_
  intro C hC hR hX hL hDD hN
  have hfC : (cxL C).stackTraces = false := by rw [hL]; exact hfl
  show VW C 0 [some (xA x), none, none] [] u 0 0
  have hTe := hX0.1.2.2.2.2
  have hz0 : 0 ≤ mI u (x + 148) 1 ∧ mI u (x + 148) 1 ≤ 60 := by rw [htx.1]; omega
  have hSb : ∀ k : Nat, k < n → mI u (x + 148 + 1) k = b k := fun k hk => htx.2.2 k (by omega)
  have hwell := well_same (b := b) hn N0
  have hrun := t_run_cg hSb n (Nat.le_refl n)
  refine r_aload_n hC dX7_obey_0 rfl ?_
  refine r_getR (j := 2) hC dX7_obey_1 fl_X7_23 rfl rfl hX0.1.1 hX0.1.2.2.2.1 ?_
  refine r_V0 hC dX7_obey_4 mi_X2_isComplete se_X2_isComplete ml_X7_172 (rm := rmX2_isComplete) rfl hX0.1.2.2.2.2.1 rfl rfl rfl rfl ⟨le_b rfl, le_b rfl⟩ (k_Te_complete hfC hTe hz0) ?_ rfl
  rw [htx.1, Int.toNat_natCast]
  refine r_bne (t := 20) hC dX7_obey_7 (by rfl) (fun h_7 => ?_) (fun h_7 => ?_)
  · skip
    have h7 : t_run b n = 9 ∨ t_run b n = 8 := by rw [← hrun]; exact h_7
    have hw : (p_well b n N0).1 = true := hwell.mpr h7
    have hAl : Al b n := by
      obtain ⟨a, a1, a2, a3, a4⟩ := well_ok (b := b) hn N0
      rcases a4 with ⟨-, e, -⟩ | ⟨e, -⟩
      · rw [← e]; exact a3
      · rw [hw] at e; cases e
    have hNw := (p_well_ok (b := b) (n := n) (N := N0) (by omega) hN0).1
    refine r_aload_n hC dX7_obey_20 rfl ?_
    refine r_callV (as := []) hC dX7_obey_21 mi_X7_save se_X7_save ml_X7_48 (rm := rmX7_save) ⟨le_b rfl, le_b rfl⟩ hX0.1.1 rfl rfl rfl (le_b rfl) (le_b rfl) (le_b rfl) (k_Rl_save hfC hX0 rP (by rw [hDD]; exact hst)) ?_ rfl
    rintro _ w ⟨rfl, hX1, hk1, ht1⟩
    obtain ⟨N1, hN1⟩ : ∃ N1, N1 = (p_well b n N0).2.2 := ⟨_, rfl⟩
    obtain ⟨R, hR9⟩ : ∃ R, R = p_obeyL b n 61 true 0 0 (p_well b n N0).2.2 B f := ⟨_, rfl⟩
    obtain ⟨OK, hOK9⟩ : ∃ OK : Prop, OK = (p_okL b n 61 true 0 (p_well b n N0).2.2 B f) := ⟨_, rfl⟩
    rw [← hOK9, ← hR9] at hR
    rw [← hN1] at hR9 hOK9 hNw
    have ex : ∀ (v : Mem) (f' : RW) (cc i a' T' : Int) (N' B' : RW), RX v x f' (m_savedN s) (m_saved P f s) kp K T' → T' ≤ T + 1525 → Kp u v x → (cc, a', N', B', f') = R → OK → VW C 70 [some (xA x), some (xI cc), some (xI i)] [] v (0 + rmX7_save.cells) (0 + rmX7_save.slots) := by
      intro v f' cc i a' T' N' B' hXv hT' hkv hRe hok
      refine r_aload_n hC dX7_obey_70 rfl ?_
      refine r_getR (j := 2) hC dX7_obey_71 fl_X7_23 rfl rfl hXv.1.1 hXv.1.2.2.2.1 ?_
      refine r_iconst hC dX7_obey_74 ?_
      refine r_putI (j := 1) hC dX7_obey_75 fl_X7_161 rfl hXv.1.2.2.2.2.1 (by rintro _ ⟨⟩; rfl) (Or.inl rfl) ?_
      refine r_iload_n hC dX7_obey_78 rfl ?_
      refine r_iret hC hR dX7_obey_79 (le_b rfl) (le_b rfl) ?_
      have hf : Fr v (sI v (x + 148) 1 0) (fun q => x + 148 ≤ q ∧ q < x + 150) (fun _ => False) := Fr.sI (Fr.refl _ _ _) _ _ ⟨by omega, by omega⟩
      have hX2 := (hXv.now (Blk.refl v _) hXv.2.2.1.1 (hXv.2.2.1.2.more hT') hT').1
      obtain ⟨k1, k2⟩ := hX2.text hf
      rw [← hRe]
      exact ⟨by rw [if_pos hw], rfl, k1, hkv.trans k2, ⟨by rw [mI_sI_s]; rfl, ⟨by omega, by omega⟩, fun k hk => by omega⟩, hok⟩
    have lp : ∀ (d a k : Nat) (cc : Int) (N B f' : RW) (v : Mem), n - a = d → a < n → t_run b a = 1 → (a = 0 ∨ b ((a - 1 : Nat) : Int) = 59) → n < a + k → RF N → RF B → RX v x f' (m_savedN s) (m_saved P f s) kp K (T + 25 * a) → Kp u v x → TxS u v x → p_obeyL b n k true cc a N B f' = R → (p_okL b n k true a N B f' → OK) → VW C 28 [some (xA x), some (xI cc), some (xI a)] [] v (0 + rmX7_save.cells) (0 + rmX7_save.slots) := by
      intro d
      induction d using Nat.strongRecOn with
      | _ d ih =>
        intro a k cc N B f' v hd ha hr1 ha0 hk rN rB hXv hkv htv hRe hok
        obtain ⟨c, M, e1, r1, l1, f1, v1, nx⟩ := ord_at (N := N) hAl h7 hr1 ha
        obtain ⟨k, rfl⟩ : ∃ k', k = k' + 1 := ⟨k - 1, by omega⟩
        have htxv := htx.tx htv
        have hSv : ∀ k : Nat, k < n → mI v (x + 148 + 1) k = b k := fun k hk => htxv.2.2 k (by omega)
        have hTv := hXv.1.2.2.2.2
        have hzv : 0 ≤ mI v (x + 148) 1 ∧ mI v (x + 148) 1 ≤ 60 := by rw [htxv.1]; omega
        have rM : RF M := by have := (p_order_ok (b := b) (n := n) (a := a) rN).2.2; rw [e1] at this; exact this
        have hk9 : b a = 116 → 1 ≤ M 0 ∧ M 0 ≤ 99 := fun z => by
          have := p_order_t (b := b) (n := n) (a := a) (N := N) (by rw [e1]; exact z)
          rw [e1] at this; exact this
        have hk6 : b a = 98 ∨ b a = 119 ∨ b a = 99 ∨ b a = 100 ∨ b a = 116 ∨ b a = 115 := by
          rcases v1 with h | ⟨h, -⟩ | ⟨h, -⟩ | ⟨h, -⟩ <;> omega
        have hx : c = n ∨ b c = 59 := by rcases nx with h | h; exact Or.inl h; exact Or.inr h.2.1
        have ht := ord_t v1 l1
        have hcn := r1.2.1
        obtain ⟨o, hO, -⟩ := hXv.2.2.1.1.r.2.2.2.2
        obtain ⟨hI2, hB2, hD2, hg2⟩ := inv_doesT (k := b a) hXv.2.2.1.2 rB (by omega) hk9 ⟨o, hO⟩
        have hok1 : p_okL b n k (decide (0 ≤ m_doesC f' B M (b a))) ((c : Int) + 1) M (m_does f' B M (b a)).2 (m_does f' B M (b a)).1 → OK := fun h => hok ⟨⟨hXv.2.2.1.2.rf, rB⟩, fun _ => by rw [e1]; exact ⟨hD2, hg2, h⟩⟩
        have hRe1 : p_obeyL b n k (decide (0 ≤ m_doesC f' B M (b a))) (cc + bI (0 ≤ m_doesC f' B M (b a))) ((c : Int) + 1) M (m_does f' B M (b a)).2 (m_does f' B M (b a)).1 = R := by
          rw [← hRe]
          simp only [p_obeyL]
          rw [if_pos ⟨trivial, by omega⟩, e1]
        refine r_iload_n hC dX7_obey_28 rfl ?_
        refine r_aload_n hC dX7_obey_29 rfl ?_
        refine r_getR (j := 2) hC dX7_obey_30 fl_X7_23 rfl rfl hXv.1.1 hXv.1.2.2.2.1 ?_
        refine r_getIv (j := 1) (v := (n : Int)) hC dX7_obey_33 fl_X7_161 rfl rfl hTv.1 htxv.1 ?_
        refine r_icmp_ge (t := 70) hC dX7_obey_36 (by rfl) ⟨by omega, by omega⟩ ⟨by omega, by omega⟩ (fun h_36 => by omega) (fun h_36 => ?_)
        refine r_aload_n hC dX7_obey_39 rfl ?_
        refine r_getR (j := 2) hC dX7_obey_40 fl_X7_23 rfl rfl hXv.1.1 hXv.1.2.2.2.1 ?_
        refine r_iload_n hC dX7_obey_43 rfl ?_
        refine r_V0 hC dX7_obey_44 mi_X2_beginsPart se_X2_beginsPart ml_X7_178 (rm := rmX2_beginsPart) rfl hTv.1 rfl rfl rfl rfl ⟨le_b rfl, le_b rfl⟩ (k_Te_begins hfC hTv hzv ⟨by omega, by omega⟩) ?_ rfl
        refine r_beq (t := 64) hC dX7_obey_47 (by rfl) (fun h_47 => ?_) (fun h_47 => ?_)
        · exfalso
          apply h_47
          rcases ha0 with z | z
          · left; omega
          · by_cases z0 : a = 0
            · left; omega
            · right
              rw [htxv.1]
              unfold t_sign
              rw [if_pos (by omega), show (a : Int) - 1 = ((a - 1 : Nat) : Int) by omega, hSv (a - 1) (by omega)]
              exact z
        · refine r_aload_n hC dX7_obey_50 rfl ?_
          refine r_iload_n hC dX7_obey_51 rfl ?_
          refine r_V0p (u := v) hC dX7_obey_52 mi_X7_doOrder se_X7_doOrder ml_X7_181 (rm := rmX7_doOrder) rfl hXv.1.1 rfl rfl rfl rfl ⟨le_b rfl, le_b rfl⟩ (k_Rl_doOrder hfC hXv htxv.1 hn hSv rB (by omega) v1 l1 hcn hx hk9 hk6) ?_ rfl
          rintro _ v2 ⟨rfl, hX2, hk2, ht2⟩
          have hX3 := (hX2.now (Blk.refl v2 _) hX2.2.2.1.1 (hX2.2.2.1.2.more (T1 := T + 25 * ((c : Int) + 1)) (by omega)) (by omega)).1
          have hk3 := hkv.trans hk2
          have ht3 := htv.trans ht2
          have htx2 := htx.tx ht3
          have hS2 : ∀ k : Nat, k < n → mI v2 (x + 148 + 1) k = b k := fun k hk => htx2.2.2 k (by omega)
          have hT2 := hX3.1.2.2.2.2
          have hz2 : 0 ≤ mI v2 (x + 148) 1 ∧ mI v2 (x + 148) 1 ≤ 60 := by rw [htx2.1]; omega
          refine r_bne (t := 61) hC dX7_obey_55 (by rfl) (fun h_55 => ?_) (fun h_55 => ?_)
          · rw [decide_eq_true h_55] at hRe1 hok1
            rw [bI, if_pos h_55] at hRe1
            refine r_iinc (lv' := [_, _, _]) hC dX7_obey_61 rfl (lt_b rfl) rfl (lt_b rfl) rfl ?_
            refine r_iinc (lv' := [_, _, _]) hC dX7_obey_64 rfl (lt_b rfl) rfl (lt_b rfl) rfl ?_
            refine r_goto (t := 28) hC dX7_obey_67 (by rfl) ?_
            have sk : ∀ (e j : Nat), c + 1 - j = e → a < j → j ≤ c + 1 → j ≤ n → VW C 28 [some (xA x), some (xI (cc + 1)), some (xI j)] [] v2 (0 + rmX7_save.cells) (0 + rmX7_save.slots) := by
              intro e
              induction e with
              | zero =>
                intro j hj h1 h2 h3
                have hjc : j = c + 1 := by omega
                subst hjc
                rcases nx with z | ⟨z1, z2, z3⟩
                · omega
                · exact ih (n - (c + 1)) (by omega) (c + 1) k (cc + 1) M _ _ v2 rfl z1 z3 (Or.inr z2) (by omega) rM hB2 hX3 hk3 ht3 hRe1 hok1
              | succ e ie =>
                intro j hj h1 h2 h3
                refine r_iload_n hC dX7_obey_28 rfl ?_
                refine r_aload_n hC dX7_obey_29 rfl ?_
                refine r_getR (j := 2) hC dX7_obey_30 fl_X7_23 rfl rfl hX3.1.1 hX3.1.2.2.2.1 ?_
                refine r_getIv (j := 1) (v := (n : Int)) hC dX7_obey_33 fl_X7_161 rfl rfl hT2.1 htx2.1 ?_
                refine r_icmp_ge (t := 70) hC dX7_obey_36 (by rfl) ⟨by omega, by omega⟩ ⟨by omega, by omega⟩ (fun h_36 => ?_) (fun h_36 => ?_)
                · have hcc : c = n := by omega
                  have hend : ¬ ((true = true) ∧ (c : Int) + 1 < n) := fun z => by have := z.2; omega
                  exact ex v2 _ (cc + 1) j _ _ _ _ hX3 (by omega) hk3 (by rw [← hRe1, p_obeyL_end hend]) (hok1 (p_okL_end hend hX3.2.2.1.2.rf hB2))
                · refine r_aload_n hC dX7_obey_39 rfl ?_
                  refine r_getR (j := 2) hC dX7_obey_40 fl_X7_23 rfl rfl hX3.1.1 hX3.1.2.2.2.1 ?_
                  refine r_iload_n hC dX7_obey_43 rfl ?_
                  refine r_V0 hC dX7_obey_44 mi_X2_beginsPart se_X2_beginsPart ml_X7_178 (rm := rmX2_beginsPart) rfl hT2.1 rfl rfl rfl rfl ⟨le_b rfl, le_b rfl⟩ (k_Te_begins hfC hT2 hz2 ⟨by omega, by omega⟩) ?_ rfl
                  refine r_beq (t := 64) hC dX7_obey_47 (by rfl) (fun h_47 => ?_) (fun h_47 => ?_)
                  · refine r_iinc (lv' := [_, _, _]) hC dX7_obey_64 rfl (lt_b rfl) rfl (lt_b rfl) rfl ?_
                    refine r_goto (t := 28) hC dX7_obey_67 (by rfl) ?_
                    exact ie (j + 1) (by omega) (by omega) (by omega) (by omega)
                  · exfalso
                    have hb59 := (r1.2.2 (j - 1) (by omega) (by omega)).2
                    rcases h_47 with z | z
                    · omega
                    · rw [htx2.1] at z
                      unfold t_sign at z
                      rw [if_pos (by omega), show (j : Int) - 1 = ((j - 1 : Nat) : Int) by omega, hS2 (j - 1) (by omega)] at z
                      exact hb59 z
            exact sk (c + 1 - (a + 1)) (a + 1) rfl (by omega) (by omega) (by omega)
          · rw [decide_eq_false h_55] at hRe1 hok1
            rw [bI, if_neg h_55] at hRe1
            refine r_goto (t := 70) hC dX7_obey_58 (by rfl) ?_
            have hend : ¬ ((false = true) ∧ (c : Int) + 1 < n) := fun z => by cases z.1
            exact ex v2 _ cc a _ _ _ _ hX3 (by omega) hk3 (by rw [← hRe1, p_obeyL_end hend, Int.add_zero]) (hok1 (p_okL_end hend hX3.2.2.1.2.rf hB2))
    refine r_iconst hC dX7_obey_24 ?_
    refine r_istore_n (lv' := [_, _, _]) hC dX7_obey_25 (lt_b rfl) rfl (lt_b rfl) rfl ?_
    refine r_iconst hC dX7_obey_26 ?_
    refine r_istore_n (lv' := [_, _, _]) hC dX7_obey_27 (lt_b rfl) rfl (lt_b rfl) rfl ?_
    have h0n : 0 < n := by
      by_cases z : n = 0
      · rw [z] at h7
        have h1 : t_run b 0 = 1 := rfl
        omega
      · omega
    exact lp n 0 61 0 N1 B f w (by omega) h0n rfl (Or.inl rfl) (by omega) hNw hB (by rw [show T + 25 * ((0 : Nat) : Int) = T by omega]; exact hX1) hk1 ht1 hR9.symm (fun h => by rw [hOK9]; exact h)
  · skip
    refine r_throw hC hX 1 (lt_b rfl) tx_176 rfl dX7_obey_10 dX7_obey_13 dX7_obey_14 dX7_obey_16 dX7_obey_19 ⟨le_b rfl, le_b rfl⟩ (le_b rfl) (le_b rfl) (fun n1 hn1 => ?_)
    exact ⟨⟨0, by rw [if_neg (fun z => h_7 (by rw [hrun]; exact hwell.mp z))]; rfl, rfl⟩, n1, hn1, rfl⟩

