/-! ===== the relay does an order ===== -/
theorem w1_at {f : RW} {p t v : Int} (h : rg (f 1 + 1)) (hp : 0 ≤ p) (h6 : 0 ≤ m_its f p 1) : (m_writesR f p t v) 1 = f 1 + 1 := by
  unfold m_writesR
  try dsimp only
  rw [up_s, up_n _ _ (by omega), up_n _ _ (by omega), up_n _ _ (by omega), up_n _ _ (by omega), wr_id h]
abbrev rmX7_doOrder : Room := { frames := 5, cells := 0, slots := 0, locals := 120 }
set_option maxRecDepth 100000 in
theorem k_Rl_doOrder {l : Launch} {D : DD} (hfl : l.stackTraces = false) {u : Mem} {x : Nat} {f : RW} {s : Int} {P : RW} {kp : Int} {K : RW} {T : Int} (hX0 : RX u x f s P kp K T) {b B M : RW} {n a c : Nat} (htn : mI u (x + 148) 1 = n) (hn : n ≤ 60) (hSb : ∀ k : Nat, k < n → mI u (x + 148 + 1) k = b k) (hB : RF B) (hT : T + 99 ≤ 2000000) (hv : OrdV b a c M) (hac : a < c) (hcn : c ≤ n) (hx : c = n ∨ b c = 59) (hk : b a = 116 → 1 ≤ M 0 ∧ M 0 ≤ 99) (hk6 : b a = 98 ∨ b a = 119 ∨ b a = 99 ∨ b a = 100 ∨ b a = 116 ∨ b a = 115) : CT l D yX7_doOrder cX7_doOrder 3 (some .boolean) rmX7_doOrder [xA x, xI a] u (fun o w => o = some (xI (bI (0 ≤ m_doesC f B M (b a)))) ∧ RX w x (m_does f B M (b a)).1 s P kp K (T + (if b a = 116 then M 0 else 1)) ∧ Kp u w x ∧ TxS u w x) := by
  refine CT.of hfl (by decide) (le_b rfl) ?_
  intro C hC hR hL hDD hN
  have hfC : (cxL C).stackTraces = false := by rw [hL]; exact hfl
  show VW C 0 [some (xA x), some (xI a), none] [] u 0 0
  have hTe := hX0.1.2.2.2.2
  have hz0 : 0 ≤ mI u (x + 148) 1 ∧ mI u (x + 148) 1 ≤ 60 := by rw [htn]; omega
  obtain ⟨o, hO, -⟩ := hX0.2.2.1.1.r.2.2.2.2
  obtain ⟨hI2, hB2, hD2, hg2⟩ := inv_doesT (k := b a) hX0.2.2.1.2 hB hT hk ⟨o, hO⟩
  have hTle : T ≤ T + (if b a = 116 then M 0 else 1) := by
    by_cases z : b a = 116
    · rw [if_pos z]; have := hk z; omega
    · rw [if_neg z]; omega
  have hsg : t_sign (mI u (x + 148 + 1)) n a = b a := by unfold t_sign; rw [if_pos (by omega), hSb a (by omega)]
  have hdr := t_dig_rg (mI u (x + 148 + 1)) n ((a : Int) + 1)
  obtain ⟨pl, hpl⟩ : ∃ pl, pl = t_dig (mI u (x + 148 + 1)) n ((a : Int) + 1) := ⟨_, rfl⟩
  have end_ : ∀ (w2 : Mem) (g : RW) (v : Int), RS w2 (x + 1) g → Blk u w2 (x + 1) → (m_does f B M (b a)).1 = g → ((v = 1 ∧ 0 ≤ m_doesC f B M (b a)) ∨ (v = 0 ∧ ¬ 0 ≤ m_doesC f B M (b a))) → (some (xI v) = some (xI (bI (0 ≤ m_doesC f B M (b a)))) ∧ RX w2 x (m_does f B M (b a)).1 s P kp K (T + (if b a = 116 then M 0 else 1)) ∧ Kp u w2 x ∧ TxS u w2 x) := by
    intro w2 g v h1 h2 h3 h4
    rw [← h3] at h1
    refine ⟨?_, hX0.now h2 h1 hI2 hTle⟩
    rcases h4 with ⟨rfl, h4⟩ | ⟨rfl, h4⟩
    · rw [bI, if_pos h4]
    · rw [bI, if_neg h4]
  refine r_aload_n hC dX7_doOrder_0 rfl ?_
  refine r_getR (j := 2) hC dX7_doOrder_1 fl_X7_23 rfl rfl hX0.1.1 hX0.1.2.2.2.1 ?_
  refine r_iload_n hC dX7_doOrder_4 rfl ?_
  refine r_iconst hC dX7_doOrder_5 ?_
  refine r_iadd hC dX7_doOrder_6 ?_
  refine r_V0 hC dX7_doOrder_7 mi_X2_digitAt se_X2_digitAt ml_X7_322 (rm := rmX2_digitAt) rfl hTe.1 rfl rfl rfl rfl ⟨le_b rfl, le_b rfl⟩ (k_Te_digit hfC hTe hz0 ⟨by omega, by omega⟩) ?_ rfl
  rw [htn, ← hpl]
  refine r_istore_n (lv' := [_, _, _]) hC dX7_doOrder_10 (lt_b rfl) rfl (lt_b rfl) rfl ?_
  refine r_aload_n hC dX7_doOrder_11 rfl ?_
  refine r_getR (j := 2) hC dX7_doOrder_12 fl_X7_23 rfl rfl hX0.1.1 hX0.1.2.2.2.1 ?_
  refine r_iload_n hC dX7_doOrder_15 rfl ?_
  refine r_V0 hC dX7_doOrder_16 mi_X2_signAt se_X2_signAt ml_X7_325 (rm := rmX2_signAt) rfl hTe.1 rfl rfl rfl rfl ⟨le_b rfl, le_b rfl⟩ (k_Te_sign hfC hTe hz0 ⟨by omega, by omega⟩) ?_ rfl
  rw [htn, hsg]
  refine r_lk5 (td := 188) (t0 := 68) (t1 := 127) (t2 := 150) (t3 := 168) (t4 := 83) hC dX7_doOrder_19 (by decide) ⟨by omega, by omega⟩ (by rfl) (by rfl) (by rfl) (by rfl) (by rfl) (by rfl) ?_ ?_ ?_ ?_ ?_ ?_
  · intro s_19
    refine r_aload_n hC dX7_doOrder_68 rfl ?_
    refine r_getR (j := 0) hC dX7_doOrder_69 fl_X7_10 rfl rfl hX0.1.1 hX0.1.2.1 ?_
    refine r_aload_n hC dX7_doOrder_72 rfl ?_
    refine r_getR (j := 0) hC dX7_doOrder_73 fl_X7_10 rfl rfl hX0.1.1 hX0.1.2.1 ?_
    refine r_V0 hC dX7_doOrder_76 mi_X5_freePlace se_X5_freePlace ml_X7_37 (rm := rmX5_freePlace) rfl hX0.2.2.1.1.o.o rfl rfl rfl rfl ⟨le_b rfl, le_b rfl⟩ (k_St_free hfC hX0.2.2.1.1 hX0.2.2.1.2.b) ?_ rfl
    refine r_V0p (u := u) hC dX7_doOrder_79 mi_X5_openAt se_X5_openAt ml_X7_51 (rm := rmX5_openAt) rfl hX0.2.2.1.1.o.o rfl rfl rfl rfl ⟨le_b rfl, le_b rfl⟩ (k_St_openAt hfC hX0.2.2.1.1 hX0.2.2.1.2.b) ?_ rfl
    rintro _ w2 hp2
    unfold OpenPost at hp2
    by_cases hf1 : m_free f = -1
    · rw [if_pos hf1] at hp2
      obtain ⟨rfl, rfl⟩ := hp2
      refine r_zret hC hR dX7_doOrder_82 (Or.inl rfl) (le_b rfl) (le_b rfl) ?_
      exact end_ w2 f 0 hX0.2.2.1.1 (Blk.refl _ _) (by rw [s_19]; unfold m_does; rw [if_pos rfl, if_pos hf1]) (Or.inr ⟨rfl, by rw [s_19]; unfold m_doesC; rw [if_pos rfl, if_pos hf1]; decide⟩)
    · rw [if_neg hf1] at hp2
      obtain ⟨rfl, hS2, hb2⟩ := hp2
      refine r_zret hC hR dX7_doOrder_82 (Or.inr rfl) (le_b rfl) (le_b rfl) ?_
      exact end_ w2 _ 1 hS2 hb2 (by rw [s_19]; unfold m_does; rw [if_pos rfl, if_neg hf1]) (Or.inl ⟨rfl, by rw [s_19]; unfold m_doesC; rw [if_pos rfl, if_neg hf1]; rcases free_rg f with q | ⟨q, q1, q2, -⟩ <;> omega⟩)
  · intro s_19
    have hW : M 0 = b ((a + 1 : Nat) : Int) - 48 ∧ c = a + 2 ∧ (48 ≤ b ((a + 1 : Nat) : Int) ∧ b ((a + 1 : Nat) : Int) ≤ 51) := by
      rcases hv with h | h | h | h
      · omega
      · exact h.2
      · omega
      · omega
    obtain ⟨m0, c2, d1⟩ := hW
    have hp0 : pl = M 0 := by rw [hpl, m0]; exact dig_in hSb (i := a + 1) (by omega) ⟨by omega, by omega⟩
    rw [hp0]
    have hr0 : rg (M 0) := ⟨by omega, by omega⟩
    refine r_aload_n hC dX7_doOrder_127 rfl ?_
    refine r_getR (j := 0) hC dX7_doOrder_128 fl_X7_10 rfl rfl hX0.1.1 hX0.1.2.1 ?_
    refine r_iload_n hC dX7_doOrder_131 rfl ?_
    refine r_V0 hC dX7_doOrder_132 mi_X5_hasRoomToCommit se_X5_hasRoomToCommit ml_X7_81 (rm := rmX5_hasRoomToCommit) rfl hX0.2.2.1.1.o.o rfl rfl rfl rfl ⟨le_b rfl, le_b rfl⟩ (k_St_roomC hfC hX0.2.2.1.1 hX0.2.2.1.2.b hr0) ?_ rfl
    refine r_bne (t := 140) hC dX7_doOrder_135 (by rfl) (fun h_135 => ?_) (fun h_135 => ?_)
    · skip
      obtain ⟨hop, hkp, hco⟩ := h_135
      refine r_aload_n hC dX7_doOrder_140 rfl ?_
      refine r_getR (j := 0) hC dX7_doOrder_141 fl_X7_10 rfl rfl hX0.1.1 hX0.1.2.1 ?_
      refine r_iload_n hC dX7_doOrder_144 rfl ?_
      refine r_V0p (u := u) hC dX7_doOrder_145 mi_X5_commitAt se_X5_commitAt ml_X7_86 (rm := rmX5_commitAt) rfl hX0.2.2.1.1.o.o rfl rfl rfl rfl ⟨le_b rfl, le_b rfl⟩ (k_St_commitAt hfC hX0.2.2.1.1 hX0.2.2.1.2.b hX0.2.2.1.2.di hr0 hop hkp hco) ?_ rfl
      rintro _ w2 ⟨rfl, hS2, hb2⟩
      refine r_iconst hC dX7_doOrder_148 ?_
      refine r_zret hC hR dX7_doOrder_149 (Or.inr rfl) (le_b rfl) (le_b rfl) ?_
      have hnf : ¬ m_open f (M 0) = false := by rw [hop]; decide
      have hcc : m_commitsC f (M 0) = m_kept (m_commits f (M 0)) := by
        unfold m_commitsC m_commits
        rw [if_neg hnf, if_neg (by omega), if_neg hnf, if_neg (by omega)]
      have hIc := (inv_commits hX0.2.2.1.2 (M 0)).co
      exact end_ w2 _ 1 hS2 hb2 (by rw [s_19]; unfold m_does; rw [if_neg (by decide), if_neg (by decide), if_pos rfl]) (Or.inl ⟨rfl, by rw [s_19]; unfold m_doesC; rw [if_neg (by decide), if_neg (by decide), if_pos rfl, hcc]; have := hIc.2.1; unfold m_kept; omega⟩)
    · skip
      refine r_iconst hC dX7_doOrder_138 ?_
      refine r_zret hC hR dX7_doOrder_139 (by first | exact Or.inl rfl | exact Or.inr rfl) (le_b rfl) (le_b rfl) ?_
      have hwn : m_commits f (M 0) = f ∧ ¬ 0 ≤ m_commitsC f (M 0) := by
        unfold m_commits m_commitsC
        by_cases z1 : m_open f (M 0) = false
        · rw [if_pos z1, if_pos z1]; exact ⟨rfl, by decide⟩
        · have z2 : m_open f (M 0) = true := by simpa using z1
          have z3 : m_kept f + m_its f (M 0) 1 > 60 ∨ f 2 + m_its f (M 0) 1 > 200 := by
            have hn6 : ¬ (m_kept f + m_its f (M 0) 1 ≤ 60 ∧ f 2 + m_its f (M 0) 1 ≤ 200) := fun h => h_135 ⟨z2, h.1, h.2⟩
            omega
          rw [if_neg z1, if_neg z1, if_pos z3, if_pos z3]
          exact ⟨rfl, by decide⟩
      exact end_ u f 0 hX0.2.2.1.1 (Blk.refl _ _) (by rw [s_19]; unfold m_does; rw [if_neg (by decide), if_neg (by decide), if_pos rfl]; exact hwn.1) (Or.inr ⟨rfl, by rw [s_19]; unfold m_doesC; rw [if_neg (by decide), if_neg (by decide), if_pos rfl]; exact hwn.2⟩)
  · intro s_19
    have hW : M 0 = b ((a + 1 : Nat) : Int) - 48 ∧ c = a + 2 ∧ (48 ≤ b ((a + 1 : Nat) : Int) ∧ b ((a + 1 : Nat) : Int) ≤ 51) := by
      rcases hv with h | h | h | h
      · omega
      · exact h.2
      · omega
      · omega
    obtain ⟨m0, c2, d1⟩ := hW
    have hp0 : pl = M 0 := by rw [hpl, m0]; exact dig_in hSb (i := a + 1) (by omega) ⟨by omega, by omega⟩
    rw [hp0]
    have hr0 : rg (M 0) := ⟨by omega, by omega⟩
    refine r_aload_n hC dX7_doOrder_150 rfl ?_
    refine r_getR (j := 0) hC dX7_doOrder_151 fl_X7_10 rfl rfl hX0.1.1 hX0.1.2.1 ?_
    refine r_iload_n hC dX7_doOrder_154 rfl ?_
    refine r_V0p (u := u) hC dX7_doOrder_155 mi_X5_dropAt se_X5_dropAt ml_X7_99 (rm := rmX5_dropAt) rfl hX0.2.2.1.1.o.o rfl rfl rfl rfl ⟨le_b rfl, le_b rfl⟩ (k_St_dropAt hfC hX0.2.2.1.1 hX0.2.2.1.2.b hr0) ?_ rfl
    rintro _ w2 hp2
    unfold DropPost at hp2
    have hpq := hX0.2.2.1.2.b.pl
    by_cases hop : m_open f (M 0) = true
    · rw [if_pos hop] at hp2
      obtain ⟨rfl, hS2, hb2⟩ := hp2
      have hnf : ¬ m_open f (M 0) = false := by rw [hop]; decide
      obtain ⟨q, hq, hq0, hq1⟩ := open_nat hop
      have hq2 := (hpq q hq).2.1
      rw [← hq0] at hq2
      have hd : m_drops f (M 0) = up f (17 + 20 * M 0 + 0) 0 := by unfold m_drops; rw [if_neg hnf]
      have hdc : m_dropsC f (M 0) = m_its f (M 0) 1 := by
        unfold m_dropsC
        rw [if_neg hnf, hd]
        unfold m_its
        exact up_n _ _ (by omega)
      refine r_iconst hC dX7_doOrder_158 ?_
      refine r_icmp_eq (t := 166) hC dX7_doOrder_159 (by rfl) ⟨by omega, by omega⟩ ⟨by omega, by omega⟩ (fun h_159 => by omega) (fun h_159 => ?_)
      refine r_iconst hC dX7_doOrder_162 ?_
      refine r_goto (t := 167) hC dX7_doOrder_163 (by rfl) ?_
      refine r_zret hC hR dX7_doOrder_167 (Or.inr rfl) (le_b rfl) (le_b rfl) ?_
      exact end_ w2 _ 1 hS2 hb2 (by rw [s_19]; unfold m_does; rw [if_neg (by decide), if_neg (by decide), if_neg (by decide), if_pos rfl]; exact hd) (Or.inl ⟨rfl, by rw [s_19]; unfold m_doesC; rw [if_neg (by decide), if_neg (by decide), if_neg (by decide), if_pos rfl, hdc]; omega⟩)
    · rw [if_neg hop] at hp2
      obtain ⟨rfl, rfl⟩ := hp2
      have hof : m_open f (M 0) = false := by simpa using hop
      refine r_iconst hC dX7_doOrder_158 ?_
      refine r_icmp_eq (t := 166) hC dX7_doOrder_159 (by rfl) ⟨by omega, by omega⟩ ⟨by omega, by omega⟩ (fun h_159 => ?_) (fun h_159 => absurd rfl h_159)
      refine r_iconst hC dX7_doOrder_166 ?_
      refine r_zret hC hR dX7_doOrder_167 (Or.inl rfl) (le_b rfl) (le_b rfl) ?_
      exact end_ w2 f 0 hX0.2.2.1.1 (Blk.refl _ _) (by rw [s_19]; unfold m_does; rw [if_neg (by decide), if_neg (by decide), if_neg (by decide), if_pos rfl]; unfold m_drops; rw [if_pos hof]) (Or.inr ⟨rfl, by rw [s_19]; unfold m_doesC; rw [if_neg (by decide), if_neg (by decide), if_neg (by decide), if_pos rfl]; unfold m_dropsC; rw [if_pos hof]; decide⟩)
  · intro s_19
    have hW : NumAt b (a + 1) c (M 0) := by
      rcases hv with h | h | h | h
      · omega
      · omega
      · exact h.2
      · omega
    have hp1 : t_num (mI u (x + 148 + 1)) n ((a : Int) + 1) = M 0 := num_in hSb (s := a + 1) hW hcn hx
    have hm9 := hk s_19
    obtain ⟨N, hN0⟩ : ∃ N : Nat, M 0 = N := ⟨(M 0).toNat, by omega⟩
    rw [hN0] at hp1
    refine r_aload_n hC dX7_doOrder_168 rfl ?_
    refine r_getR (j := 0) hC dX7_doOrder_169 fl_X7_10 rfl rfl hX0.1.1 hX0.1.2.1 ?_
    refine r_aload_n hC dX7_doOrder_172 rfl ?_
    refine r_getR (j := 2) hC dX7_doOrder_173 fl_X7_23 rfl rfl hX0.1.1 hX0.1.2.2.2.1 ?_
    refine r_iload_n hC dX7_doOrder_176 rfl ?_
    refine r_iconst hC dX7_doOrder_177 ?_
    refine r_iadd hC dX7_doOrder_178 ?_
    refine r_V0 hC dX7_doOrder_179 mi_X2_numberAt se_X2_numberAt ml_X7_328 (rm := rmX2_numberAt) rfl hTe.1 rfl rfl rfl rfl ⟨le_b rfl, le_b rfl⟩ (k_Te_number hfC hTe hz0 ⟨by omega, by omega⟩) ?_ rfl
    rw [htn, hp1]
    refine r_V0p (u := u) hC dX7_doOrder_182 mi_X5_passTicks se_X5_passTicks ml_X7_120 (rm := rmX5_passTicks) rfl hX0.2.2.1.1.o.o rfl rfl rfl rfl ⟨le_b rfl, le_b rfl⟩ (k_St_passTicks hfC hX0.2.2.1.1 hX0.2.2.1.2 (N := N) (by omega) (by omega) hB) ?_ rfl
    rintro _ w2 ⟨rfl, hS2, hb2⟩
    refine r_pop hC dX7_doOrder_185 rfl ?_
    refine r_iconst hC dX7_doOrder_186 ?_
    refine r_zret hC hR dX7_doOrder_187 (Or.inr rfl) (le_b rfl) (le_b rfl) ?_
    have hnn : (M 0).toNat = N := by omega
    have he := (eff_pass hX0.2.2.1.2 hB N (by omega)).1
    exact end_ w2 _ 1 hS2 hb2 (by rw [s_19]; unfold m_does; rw [if_neg (by decide), if_neg (by decide), if_neg (by decide), if_neg (by decide), if_pos rfl, hnn]) (Or.inl ⟨rfl, by rw [s_19]; unfold m_doesC; rw [if_neg (by decide), if_neg (by decide), if_neg (by decide), if_neg (by decide), if_pos rfl, hnn]; omega⟩)
  · intro s_19
    have hW : b a = 119 ∧ M 0 = b ((a + 1 : Nat) : Int) - 48 ∧ M 1 = b ((a + 2 : Nat) : Int) - 48 ∧ (48 ≤ b ((a + 1 : Nat) : Int) ∧ b ((a + 1 : Nat) : Int) ≤ 51) ∧ (48 ≤ b ((a + 2 : Nat) : Int) ∧ b ((a + 2 : Nat) : Int) ≤ 51) ∧ a + 4 < c ∧ NumAt b (a + 4) c (M 2) := by
      rcases hv with h | h | h | h
      · omega
      · omega
      · omega
      · exact h
    obtain ⟨-, m0, m1, d1, d2, l4, n4⟩ := hW
    have hp0 : pl = M 0 := by rw [hpl, m0]; exact dig_in hSb (i := a + 1) (by omega) ⟨by omega, by omega⟩
    have hp1 : t_dig (mI u (x + 148 + 1)) n ((a : Int) + 2) = M 1 := by rw [m1]; exact dig_in hSb (i := a + 2) (by omega) ⟨by omega, by omega⟩
    have hp2 : t_num (mI u (x + 148 + 1)) n ((a : Int) + 4) = M 2 := num_in hSb (s := a + 4) n4 hcn hx
    have h299 : 0 ≤ M 2 ∧ M 2 ≤ 99 := by
      obtain ⟨v1, ⟨v2, v3⟩ | ⟨v2, v3, v4⟩⟩ := n4 <;> omega
    rw [hp0]
    have hr0 : rg (M 0) := ⟨by omega, by omega⟩
    refine r_aload_n hC dX7_doOrder_83 rfl ?_
    refine r_getR (j := 0) hC dX7_doOrder_84 fl_X7_10 rfl rfl hX0.1.1 hX0.1.2.1 ?_
    refine r_iload_n hC dX7_doOrder_87 rfl ?_
    refine r_V0 hC dX7_doOrder_88 mi_X5_hasRoomToWrite se_X5_hasRoomToWrite ml_X7_72 (rm := rmX5_hasRoomToWrite) rfl hX0.2.2.1.1.o.o rfl rfl rfl rfl ⟨le_b rfl, le_b rfl⟩ (k_St_roomW hfC hX0.2.2.1.1 hX0.2.2.1.2.b hr0) ?_ rfl
    refine r_bne (t := 96) hC dX7_doOrder_91 (by rfl) (fun h_91 => ?_) (fun h_91 => ?_)
    · skip
      obtain ⟨hop, h6⟩ := h_91
      have hr1 : rg (f 1 + 1) := by
        have h1 := hX0.2.2.1.2.ti.2.1
        exact ⟨by omega, by omega⟩
      refine r_aload_n hC dX7_doOrder_96 rfl ?_
      refine r_getR (j := 0) hC dX7_doOrder_97 fl_X7_10 rfl rfl hX0.1.1 hX0.1.2.1 ?_
      refine r_iload_n hC dX7_doOrder_100 rfl ?_
      refine r_aload_n hC dX7_doOrder_101 rfl ?_
      refine r_getR (j := 2) hC dX7_doOrder_102 fl_X7_23 rfl rfl hX0.1.1 hX0.1.2.2.2.1 ?_
      refine r_iload_n hC dX7_doOrder_105 rfl ?_
      refine r_iconst hC dX7_doOrder_106 ?_
      refine r_iadd hC dX7_doOrder_107 ?_
      refine r_V0 hC dX7_doOrder_108 mi_X2_digitAt se_X2_digitAt ml_X7_322 (rm := rmX2_digitAt) rfl hTe.1 rfl rfl rfl rfl ⟨le_b rfl, le_b rfl⟩ (k_Te_digit hfC hTe hz0 ⟨by omega, by omega⟩) ?_ rfl
      rw [htn, hp1]
      refine r_aload_n hC dX7_doOrder_111 rfl ?_
      refine r_getR (j := 2) hC dX7_doOrder_112 fl_X7_23 rfl rfl hX0.1.1 hX0.1.2.2.2.1 ?_
      refine r_iload_n hC dX7_doOrder_115 rfl ?_
      refine r_iconst hC dX7_doOrder_116 ?_
      refine r_iadd hC dX7_doOrder_117 ?_
      refine r_V0 hC dX7_doOrder_118 mi_X2_numberAt se_X2_numberAt ml_X7_328 (rm := rmX2_numberAt) rfl hTe.1 rfl rfl rfl rfl ⟨le_b rfl, le_b rfl⟩ (k_Te_number hfC hTe hz0 ⟨by omega, by omega⟩) ?_ rfl
      rw [htn, hp2]
      refine r_V0p (u := u) hC dX7_doOrder_121 mi_X5_writeAt se_X5_writeAt ml_X7_77 (rm := rmX5_writeAt) rfl hX0.2.2.1.1.o.o rfl rfl rfl rfl ⟨le_b rfl, le_b rfl⟩ (k_St_writeAt hfC hX0.2.2.1.1 hX0.2.2.1.2.b hr0 hop h6 hr1 ⟨by omega, by omega⟩ h299) ?_ rfl
      rintro _ w2 ⟨rfl, hS2, hb2⟩
      refine r_pop hC dX7_doOrder_124 rfl ?_
      refine r_iconst hC dX7_doOrder_125 ?_
      refine r_zret hC hR dX7_doOrder_126 (Or.inr rfl) (le_b rfl) (le_b rfl) ?_
      have hnf : ¬ m_open f (M 0) = false := by rw [hop]; decide
      have hI1 := (inv_writes hX0.2.2.1.2 (by omega) (M 0) (M 1) (M 2)).ti.2.1
      have e1 : m_writes f (M 0) (M 1) (M 2) = m_writesR f (M 0) (M 1) (M 2) := by
        unfold m_writes
        rw [if_neg hnf, if_neg (fun h => h ⟨⟨by omega, by omega⟩, h299⟩), if_neg (by omega)]
      have e2 : m_writesC f (M 0) (M 1) (M 2) = (m_writesR f (M 0) (M 1) (M 2)) 1 - 1 := by
        unfold m_writesC
        rw [if_neg hnf, if_neg (fun h => h ⟨⟨by omega, by omega⟩, h299⟩), if_neg (by omega)]
      have e3 : (m_writesR f (M 0) (M 1) (M 2)) 1 = f 1 + 1 := w1_at hr1 (by omega) (by obtain ⟨q, hq, hq0, hq1⟩ := open_nat hop; rw [hq0]; exact (hX0.2.2.1.2.b.pl q hq).2.1.1)
      exact end_ w2 _ 1 hS2 hb2 (by rw [s_19]; unfold m_does; rw [if_neg (by decide), if_pos rfl]; exact e1) (Or.inl ⟨rfl, by rw [s_19]; unfold m_doesC; rw [if_neg (by decide), if_pos rfl, e2, e3]; have := hX0.2.2.1.2.ti.2.1; omega⟩)
    · skip
      refine r_iconst hC dX7_doOrder_94 ?_
      refine r_zret hC hR dX7_doOrder_95 (by first | exact Or.inl rfl | exact Or.inr rfl) (le_b rfl) (le_b rfl) ?_
      have hpq := hX0.2.2.1.2.b.pl
      have hwn : m_writes f (M 0) (M 1) (M 2) = f ∧ ¬ 0 ≤ m_writesC f (M 0) (M 1) (M 2) := by
        unfold m_writes m_writesC
        by_cases z1 : m_open f (M 0) = false
        · rw [if_pos z1, if_pos z1]; exact ⟨rfl, by decide⟩
        · have z2 : m_open f (M 0) = true := by simpa using z1
          obtain ⟨q, hq, hq0, hq1⟩ := open_nat z2
          have := (hpq q hq).2.1.2
          have z3 : m_its f (M 0) 1 = 6 := by
            have hn6 : ¬ m_its f (M 0) 1 < 6 := fun h => h_91 ⟨z2, h⟩
            rw [hq0] at hn6 ⊢; omega
          have hcn : ¬ ¬ ((0 ≤ M 1 ∧ M 1 ≤ 3) ∧ (0 ≤ M 2 ∧ M 2 ≤ 99)) := fun h => h ⟨⟨by omega, by omega⟩, h299⟩
          rw [if_neg z1, if_neg z1, if_neg hcn, if_pos z3, if_neg hcn, if_pos z3]
          exact ⟨rfl, by decide⟩
      exact end_ u f 0 hX0.2.2.1.1 (Blk.refl _ _) (by
        rw [s_19]; unfold m_does; rw [if_neg (by decide), if_pos rfl]
        show m_writes f (M 0) (M 1) (M 2) = f
        exact hwn.1) (Or.inr ⟨rfl, by rw [s_19]; unfold m_doesC; rw [if_neg (by decide), if_pos rfl]; exact hwn.2⟩)
  · intro n0_19 n1_19 n2_19 n3_19 n4_19
    have hb : b a = 115 := by omega
    refine r_aload_n hC dX7_doOrder_188 rfl ?_
    refine r_getR (j := 0) hC dX7_doOrder_189 fl_X7_10 rfl rfl hX0.1.1 hX0.1.2.1 ?_
    refine r_V0p (u := u) hC dX7_doOrder_192 mi_X5_sweepRows se_X5_sweepRows ml_X7_140 (rm := rmX5_sweepRows) rfl hX0.2.2.1.1.o.o rfl rfl rfl rfl ⟨le_b rfl, le_b rfl⟩ (k_St_sweep hfC hX0.2.2.1.1 hX0.2.2.1.2.b) ?_ rfl
    rintro _ w2 ⟨rfl, hS2, hb2⟩
    refine r_pop hC dX7_doOrder_195 rfl ?_
    refine r_iconst hC dX7_doOrder_196 ?_
    refine r_zret hC hR dX7_doOrder_197 (Or.inr rfl) (le_b rfl) (le_b rfl) ?_
    have he := sweepN_rg f (f 2).toNat
    exact end_ w2 _ 1 hS2 hb2 (by rw [hb]; unfold m_does; rw [if_neg (by decide), if_neg (by decide), if_neg (by decide), if_neg (by decide), if_neg (by decide)]) (Or.inl ⟨rfl, by rw [hb]; unfold m_doesC; rw [if_neg (by decide), if_neg (by decide), if_neg (by decide), if_neg (by decide), if_neg (by decide)]; exact he.1⟩)

