/-! a trial goes on -/
theorem RX.tb {u w : Mem} {x a : Nat} {f g : RW} {s : Int} {P : RW} {kp : Int} {K : RW} {T : Int} (h : RX u x f s P kp K T) (ha : qS u x 7 = some a) (hf : Blk u w a) (hS7 : RS w a g) : RX w x f s P kp K T ∧ Kp u w x ∧ TxS u w x ∧ qS w x 7 = some a := by
  obtain ⟨ho, hq, ⟨hS, hI⟩, ⟨s1, s2, s3⟩, hk⟩ := h
  have hax := (hq.2.1 7 (by decide) a ha).1
  have gS := hf.1
  have gN := hf.2.1
  have gJ := hf.2.2.1
  have gI : ∀ q, ¬ (a ≤ q ∧ q < a + 146) → mI w q = mI u q := fun q hq => hf.mI hq
  have gP : ∀ q, q ≠ a + 35 → mP w q = mP u q := fun q hq => hf.mP hq
  have hsl : ∀ k, qS w x k = qS u x k := fun k => by unfold qS qR; split <;> rw [gP _ (by omega)]
  have hlo : ∀ b n, (b + n ≤ a ∨ a + 146 ≤ b) → Lo u w b n := fun b n hb q h1 h2 => ⟨by rw [gS], gI q (by omega), gP q (by omega)⟩
  have hds : ∀ k, k < 8 → k ≠ 7 → ∀ b, qS u x k = some b → Lo u w b 146 := fun k hk hne b hb => by
    have := hq.2.2 k 7 hk (by decide) hne b a hb ha
    exact hlo b 146 this
  obtain ⟨o1, o2, ⟨o3, o4⟩, o5, o6, o7, o8⟩ := ho
  refine ⟨⟨⟨by rw [gS]; exact o1, by rw [gP x (by omega)]; exact o2, ⟨by rw [gP x (by omega)]; exact o3, by rw [gS]; exact o4⟩, by rw [gP x (by omega)]; exact o5, by rw [gS]; exact o6, by rw [gP (x + 148) (by omega)]; exact o7, by rw [gS]; exact o8⟩, ⟨by rw [gN]; exact hq.1, fun i hi b hb => ?_, fun i j hi hj hne c b hc hb => ?_⟩, ⟨hS.loc hI.b (hlo _ _ (Or.inl (by omega))), hI⟩, ⟨by rw [gI x (by omega)]; exact s1, s2, fun k hk' => ?_⟩, ?_⟩, ⟨by rw [gN]; exact Nat.le_refl _, fun q ⟨h1, h2, h3⟩ => ?_⟩, fun q q1 q2 => gI q (by omega), (hsl 7).trans ha⟩
  · rw [hsl] at hb
    obtain ⟨b1, b2⟩ := hq.2.1 i hi b hb
    refine ⟨⟨b1.1, by rw [gN]; exact b1.2⟩, ?_⟩
    by_cases z : i = 7
    · subst z
      rw [ha] at hb
      have := Option.some.inj hb
      subst this; exact hS7.o
    · have hl := hds i hi z b hb
      exact b2.loc (fun q q1 q2 => ⟨(hl q q1 q2).1, (hl q q1 q2).2.2⟩)
  · rw [hsl] at hc hb
    exact hq.2.2 i j hi hj hne c b hc hb
  · obtain ⟨b, b1, b2, b3⟩ := s3 k hk'
    exact ⟨b, (hsl k).trans b1, b2.loc b3.b (hds k (by omega) (by omega) b b1), b3⟩
  · rcases hk with ⟨k1, k2⟩ | ⟨k1, b, b1, b2, b3⟩
    · exact Or.inl ⟨k1, (hsl 6).trans k2⟩
    · exact Or.inr ⟨k1, b, (hsl 6).trans b1, b2.loc b3.b (hds 6 (by decide) (by decide) b b1), b3⟩
  · have hna := h3 7 (by decide) a ha
    exact ⟨⟨by rw [gN]; exact h1, h2, fun i hi b hb => by rw [hsl] at hb; exact h3 i hi b hb⟩, by rw [gS], gI q hna, gP q (by omega), by rw [gJ]⟩
theorem Fill.tx {u w : Mem} {x i a : Nat} {r : RW} (h : Fill u w x i a r) (hn : x + 150 ≤ mN u) : TxS u w x := fun q q1 q2 => (h.2.2.2.2.2 q (by omega)).2.2.1 (by have := h.2.2.1.1; omega)
abbrev rmX7_drainIn : Room := { frames := 5, cells := 146, slots := 2320, locals := 125 }
set_option maxRecDepth 100000 in
theorem k_Rl_drainIn {l : Launch} {D : DD} (hfl : l.stackTraces = false) {u : Mem} {x : Nat} {f : RW} {s : Int} {P : RW} {kp : Int} {K : RW} {T : Int} (hX : RX u x f s P kp K T) (hst : Sta D u x) {b : RW} (hb : RF b) (hT : T + 300 ≤ 2000000) : CT l D yX7_drainIn cX7_drainIn 3 (some .int) rmX7_drainIn [xA x] u (fun o w => o = some (xI (m_drainV f b)) ∧ RX w x f s P kp K T ∧ Kp u w x ∧ TxS u w x) := by
  refine CT.of hfl (by decide) (le_b rfl) ?_
  intro C hC hR hL hDD hN
  have hfC : (cxL C).stackTraces = false := by rw [hL]; exact hfl
  show VW C 0 [some (xA x), none, none] [] u 0 0
  refine r_aload_n hC dX7_drainIn_0 rfl ?_
  refine r_callV (as := []) hC dX7_drainIn_1 mi_X7_freshTrial se_X7_freshTrial ml_X7_230 (rm := rmX7_freshTrial) ⟨le_b rfl, le_b rfl⟩ hX.1.1 rfl rfl rfl (le_b rfl) (le_b rfl) (le_b rfl) (k_Rl_trial hfC hX (by rw [hDD]; exact hst)) ?_ rfl
  rintro _ w ⟨a, rfl, hF⟩
  have hX1 := hX.trial hF
  have lp : ∀ (n t : Nat) (v : Mem), 300 - t = n → t ≤ 300 → RX v x f s P kp K T → Kp u v x → TxS u v x → qS v x 7 = some a → RS v a (m_pass f b t).1 → m_drainK f b 300 0 = m_drainK f b (300 - t) t → VW C 7 [some (xA x), some (xA a), some (xI t)] [] v (0 + rmX7_freshTrial.cells) (0 + rmX7_freshTrial.slots) := by
    intro n
    induction n using Nat.strongRecOn with
    | _ n ih =>
      intro t v hn ht hXv hkv htv hqv hSv hdr
      obtain ⟨i1, i2, i3, i4⟩ := pass_inv hX.2.2.1.2 hb t (by omega)
      refine r_iload_n hC dX7_drainIn_7 rfl ?_
      refine r_sipush hC dX7_drainIn_8 (by rfl) ?_
      refine r_icmp_ge (t := 34) hC dX7_drainIn_11 (by rfl) ⟨by omega, by omega⟩ ⟨by omega, by omega⟩ (fun h_11 => ?_) (fun h_11 => ?_)
      · skip
        refine r_aload_n hC dX7_drainIn_34 rfl ?_
        refine r_V0 hC dX7_drainIn_35 mi_X5_isDrained se_X5_isDrained ml_X7_234 (rm := rmX5_isDrained) rfl hSv.o.o rfl rfl rfl rfl ⟨le_b rfl, le_b rfl⟩ (k_St_drained (u := v) hfC hSv i1.b) ?_ rfl
        refine r_beq (t := 47) hC dX7_drainIn_38 (by rfl) (fun h_38 => ?_) (fun h_38 => ?_)
        · skip
          refine r_iconst hC dX7_drainIn_47 ?_
          refine r_iret hC hR dX7_drainIn_48 (le_b rfl) (le_b rfl) ?_
          refine ⟨?_, hXv, hkv, htv⟩
          have ht3 : t = 300 := by omega
          subst ht3
          have e : m_drainT f b = 300 := hdr
          unfold m_drainV
          rw [e]
          first
            | (rw [if_pos h_38]; done)
            | (rw [if_neg (fun z => h_38 z)]; done)
            | (rw [if_neg h_38]; done)
            | (rw [if_pos h_38]; rfl)
        · skip
          refine r_sipush hC dX7_drainIn_41 (by rfl) ?_
          refine r_goto (t := 48) hC dX7_drainIn_44 (by rfl) ?_
          refine r_iret hC hR dX7_drainIn_48 (le_b rfl) (le_b rfl) ?_
          refine ⟨?_, hXv, hkv, htv⟩
          have ht3 : t = 300 := by omega
          subst ht3
          have e : m_drainT f b = 300 := hdr
          unfold m_drainV
          rw [e]
          first
            | (rw [if_pos h_38]; done)
            | (rw [if_neg (fun z => h_38 z)]; done)
            | (rw [if_neg h_38]; done)
            | (rw [if_pos h_38]; rfl)
      · skip
        refine r_aload_n hC dX7_drainIn_14 rfl ?_
        refine r_V0 hC dX7_drainIn_15 mi_X5_isDrained se_X5_isDrained ml_X7_234 (rm := rmX5_isDrained) rfl hSv.o.o rfl rfl rfl rfl ⟨le_b rfl, le_b rfl⟩ (k_St_drained (u := v) hfC hSv i1.b) ?_ rfl
        refine r_beq (t := 23) hC dX7_drainIn_18 (by rfl) (fun h_18 => ?_) (fun h_18 => ?_)
        · skip
          refine r_aload_n hC dX7_drainIn_23 rfl ?_
          refine r_V0p (u := v) hC dX7_drainIn_24 mi_X5_passTick se_X5_passTick ml_X7_237 (rm := rmX5_passTick) rfl hSv.o.o rfl rfl rfl rfl ⟨le_b rfl, le_b rfl⟩ (k_St_passTick hfC hSv i1 (by omega) i2) ?_ rfl
          rintro _ v2 ⟨rfl, hS2, hb2⟩
          obtain ⟨hX2, hk2, ht2, hq2⟩ := hXv.tb hqv hb2 hS2
          refine r_pop hC dX7_drainIn_27 rfl ?_
          refine r_iinc (lv' := [_, _, _]) hC dX7_drainIn_28 rfl (lt_b rfl) rfl (lt_b rfl) rfl ?_
          refine r_goto (t := 7) hC dX7_drainIn_31 (by rfl) ?_
          refine ih _ (by omega) (t + 1) v2 rfl (by omega) hX2 (hkv.trans hk2) (htv.trans ht2) hq2 hS2 ?_
          rw [hdr, show 300 - t = (300 - (t + 1)) + 1 by omega]
          simp only [m_drainK]
          rw [if_neg (fun z => h_18 z)]
        · skip
          refine r_iload_n hC dX7_drainIn_21 rfl ?_
          refine r_iret hC hR dX7_drainIn_22 (le_b rfl) (le_b rfl) ?_
          refine ⟨?_, hXv, hkv, htv⟩
          have e : m_drainT f b = t := by
            unfold m_drainT
            rw [hdr, show 300 - t = (299 - t) + 1 by omega]
            simp only [m_drainK]
            rw [if_pos h_18]
          unfold m_drainV
          rw [e, if_pos h_18]
  refine r_astore_n (lv' := [_, _, _]) hC dX7_drainIn_4 (lt_b rfl) rfl (lt_b rfl) rfl ?_
  refine r_iconst hC dX7_drainIn_5 ?_
  refine r_istore_n (lv' := [_, _, _]) hC dX7_drainIn_6 (lt_b rfl) rfl (lt_b rfl) rfl ?_
  exact lp _ 0 w rfl (by omega) hX1 (hF.kp hX.2.1 (by decide)) (hF.tx hX.2.1.1) hF.1 hF.2.1 rfl
