/-! the first message comes -/
def MK (r : RW) : Prop := ∀ m : Nat, (m : Int) < r 9 → (m_way r m 0 = 0 ∨ m_way r m 0 = 1) ∧ (0 ≤ m_way r m 1 ∧ m_way r m 1 ≤ 2) ∧ (0 ≤ m_way r m 3 ∧ m_way r m 3 ≤ 8) ∧ 0 ≤ m_way r m 4 ∧ (∀ k : Nat, (k : Int) < m_way r m 3 → 0 ≤ m_rowOf r m k ∧ m_rowOf r m k < r 2) ∧ (m_way r m 0 = 1 → m_way r m 3 = 0)
theorem IMe.mk {r : RW} {lo e : Int} (h : IMe r lo e) : MK r := by
  obtain ⟨g, hg⟩ := h
  intro m hm
  obtain ⟨⟨a1, a2, a3, a4, a5, a6, a7, a8, a9, a10⟩, -, -⟩ := hg m hm
  exact ⟨a1, a2, a4, a5, a6, a10⟩
theorem ib_low {r g : RW} (hB : IB r) (rg' : RF g) (h : ∀ j, j < 811 → j ≠ 9 → j ≠ 4 → j ≠ 5 → j ≠ 6 → j ≠ 7 → j ≠ 8 → g j = r j) (h9 : 0 ≤ g 9 ∧ g 9 ≤ 54) (h5 : 0 ≤ g 5 ∧ g 5 + g 9 ≤ g 4) (h6 : 0 ≤ g 6 ∧ g 6 ≤ g 8 ∧ g 8 ≤ 8 * g 6) : IB g := by
  obtain ⟨rf, ⟨c1, c2, c3, c4⟩, se, pl, ro, re, ni⟩ := hB
  have e := fun j (hj : j < 811) (hq : j < 4 ∨ 9 < j) => h j hj (by omega) (by omega) (by omega) (by omega) (by omega) (by omega)
  refine ⟨rg', ⟨by rw [e 2 (by omega) (by omega)]; exact c1, by rw [e 2 (by omega) (by omega), e 3 (by omega) (by omega)]; exact c2, by unfold m_kept at *; rw [e 2 (by omega) (by omega), e 3 (by omega) (by omega)]; exact c3, h9.1, h5.1, h5.2, h6⟩, ?_, fun p hp => ?_, fun j hj => ?_, fun d hd => ?_, h9.2⟩
  · unfold ISe at *; rw [e 10 (by omega) (by omega), e 11 (by omega) (by omega), e 12 (by omega) (by omega), e 13 (by omega) (by omega), e 14 (by omega) (by omega), e 15 (by omega) (by omega), e 16 (by omega) (by omega)]; exact se
  · have ep : ∀ x : Int, 0 ≤ x → x < 20 → m_its g p x = m_its r p x := fun x h1 h2 => by unfold m_its; exact e _ (by omega) (by omega)
    obtain ⟨a1, a2, a3⟩ := pl p hp
    rw [ep 0 (by omega) (by omega), ep 1 (by omega) (by omega), e 1 (by omega) (by omega)]
    exact ⟨a1, a2, fun i hi => by rw [ep _ (by omega) (by omega), ep _ (by omega) (by omega), ep _ (by omega) (by omega)]; exact a3 i hi⟩
  · rw [e 2 (by omega) (by omega)] at hj
    unfold m_write
    rw [e (97 + 3 * (j : Int)) (by omega) (by omega), e (97 + 3 * (j : Int) + 1) (by omega) (by omega), e 1 (by omega) (by omega), e (97 + 3 * (j : Int) + 2) (by omega) (by omega)]; exact ro j hj
  · have eo : ∀ x : Int, 0 ≤ x → x < 38 → m_of g d x = m_of r d x := fun x h1 h2 => by unfold m_of; exact e _ (by omega) (by omega)
    rw [eo 0 (by omega) (by omega), eo 1 (by omega) (by omega), eo 2 (by omega) (by omega), eo 8 (by omega) (by omega), eo 9 (by omega) (by omega), eo 11 (by omega) (by omega), eo 10 (by omega) (by omega), e 0 (by omega) (by omega)]; exact re d hd
theorem ib_takeOff {r : RW} (hB : IB r) {N n : Nat} (hN : r 9 = N) (hn : n < N) : IB (m_takeOff r n) := by
  have h54 := hB.ni
  obtain ⟨t1, t9, -⟩ := takeOff_at hN hn (by omega)
  have hc := hB.co
  refine ib_low hB (rf_takeOff hB.rf (by omega) _) (fun j h1 h2 _ _ _ _ _ => t1 j h2 (by omega)) (by omega) ?_ ?_
  · rw [t9, t1 5 (by decide) (by omega), t1 4 (by decide) (by omega)]; have := hc.2.2.2.2; omega
  · rw [t1 6 (by decide) (by omega), t1 8 (by decide) (by omega)]; have := hc.2.2.2.2; omega
/-- how many effects the first k rows have -/
def c_eff (r : RW) (n : Int) (c : Int) : Nat → Int
  | 0 => 0
  | k + 1 => c_eff r n c k + (if m_rep (m_bcL r n c k) c (m_rowOf r n k) = true then 0 else 1)
theorem c_eff_rg (r : RW) (n c : Int) (k : Nat) : 0 ≤ c_eff r n c k ∧ c_eff r n c k ≤ k := by
  induction k with
  | zero => simp [c_eff]
  | succ k ih => simp only [c_eff]; split <;> omega
theorem bcL_at {r : RW} (hB : IB r) {n : Nat} {c L : Nat} (hc : c < 3) (hL : L ≤ 8) (hrow : ∀ k : Nat, k < L → 0 ≤ m_rowOf r n k ∧ m_rowOf r n k < r 2) : ∀ k : Nat, k ≤ L → IB (m_bcL r n c k) ∧ (∀ j, (j < 97 ∨ 811 ≤ j) → m_bcL r n c k j = r j) ∧ (∀ d : Nat, d < 3 → m_of (m_bcL r n c k) d 8 = m_of r d 8 ∧ m_of (m_bcL r n c k) d 9 = m_of r d 9 ∧ m_of (m_bcL r n c k) d 10 = m_of r d 10 ∧ m_of (m_bcL r n c k) d 11 = m_of r d 11 ∧ m_of (m_bcL r n c k) d 3 = (if d = c then wr (m_of r c 3 + c_eff r n c k) else m_of r d 3)) ∧ (∀ j : Nat, (j : Int) < 200 → m_write (m_bcL r n c k) j = m_write r j) ∧ (k < L → m_bcL r n c (k + 1) = m_row1 (m_bcL r n c k) c (m_rowOf r n k)) := by
  have step : ∀ k : Nat, (∀ j, (j < 97 ∨ 811 ≤ j) → m_bcL r n c k j = r j) → m_bcL r n c (k + 1) = m_row1 (m_bcL r n c k) c (m_rowOf r n k) := fun k h => by
    simp only [m_bcL]
    unfold m_bc1 m_row1
    rw [rowOf_keep (fun j hj => h j (Or.inr hj)) (by omega) (by omega)]
  intro k
  induction k with
  | zero =>
    intro _
    refine ⟨hB, fun _ _ => rfl, fun d hd => ⟨rfl, rfl, rfl, rfl, ?_⟩, fun _ _ => rfl, fun _ => step 0 fun _ _ => rfl⟩
    by_cases e : d = c
    · subst e; rw [if_pos rfl]; simp only [c_eff, Int.add_zero]; exact (wr_id (rg_of hB.rf _ _)).symm
    · rw [if_neg e]; rfl
  | succ k ih =>
    intro hk
    obtain ⟨i1, i2, i3, i4, i5⟩ := ih (by omega)
    obtain ⟨K, hK⟩ : ∃ K : Nat, m_rowOf r n k = K := ⟨(m_rowOf r n k).toNat, by have := hrow k (by omega); omega⟩
    have hKr := hrow k (by omega)
    rw [hK] at hKr
    obtain ⟨j1, j2, j3, j4⟩ := ib_row1 i1 hc (k := K) (by rw [i2 2 (by omega)]; exact hKr.2)
    have hs := i5 (by omega)
    have hlo : ∀ j, (j < 97 ∨ 811 ≤ j) → m_bcL r n c (k + 1) j = r j := fun j hj => by rw [hs, hK, j2 j hj]; exact i2 j hj
    refine ⟨by rw [hs, hK]; exact j1, hlo, fun d hd => ?_, fun j hj => by rw [hs, hK, j4 j hj]; exact i4 j hj, fun _ => step (k + 1) hlo⟩
    obtain ⟨q1, q2, q3, q4, q5⟩ := j3 d hd
    obtain ⟨p1, p2, p3, p4, p5⟩ := i3 d hd
    rw [hs, hK, q1, q2, q3, q4, q5]
    refine ⟨p1, p2, p3, p4, ?_⟩
    by_cases e : d = c
    · subst e
      rw [if_pos rfl] at p5 ⊢
      rw [if_pos rfl, p5, wr_add_l]
      simp only [c_eff]
      rw [hK, Int.add_assoc]
    · rw [if_neg e] at p5 ⊢
      rw [if_neg e]; exact p5
def m_stepN (r b : RW) (n : Int) : RW := if m_way r n 0 = 0 then m_batchComes r b n else m_answerComes r n
abbrev rmX5_post : Room := { frames := 1, cells := 0, slots := 0, locals := 24 }
set_option maxRecDepth 100000 in
theorem k_St_post {l : Launch} {D : DD} (hfl : l.stackTraces = false) {u : Mem} {a : Nat} {r : RW} (hS : RS u a r) (hB : IB r) {N mn : Nat} {kd c gr : Int} {b : RW} (h9N : r 9 = N) (hN2 : N ≤ 53) (hd : DC u (qa u (a + 34) N) kd c mn gr b) (hkd : kd = 0 ∨ kd = 1) (hc : 0 ≤ c ∧ c ≤ 2) (hmn : mn ≤ 8) (hgr : rg gr) (hb : ∀ k : Nat, k < mn → 0 ≤ b k ∧ b k < 256) (hdue : rg (r 0 + r 11)) (hlen : ∀ n : Nat, n < N → m_way r n 3 ≤ 8) : CT l D yX5_post cX5_post 1 none rmX5_post [xA a] u (fun o w => o = none ∧ RS w a (m_sends (m_cnt2 r kd mn) b kd c mn gr) ∧ Fr u w (fun q => a + 34 ≤ q ∧ q < a + 146) (fun q => q = a + 35)) := by
  have b2 := hB.co.1
  have b3 := hB.co.2.1
  have bk := hB.co.2.2.1
  have rf := hB.rf
  refine CT.of hfl (by decide) (le_b rfl) ?_
  intro C hC hR hL hDD hN
  have hfC : (cxL C).stackTraces = false := by rw [hL]; exact hfl
  show VW C 0 [some (xA a)] [] u 0 0
  refine r_aload_n hC dX5_post_0 rfl ?_
  refine r_getR (j := 4) hC dX5_post_1 fl_X5_47 rfl rfl hS.o.o hS.o.p4 ?_
  refine r_aload_n hC dX5_post_4 rfl ?_
  refine r_getIv (j := 5) (v := r 0) hC dX5_post_5 fl_X5_51 rfl rfl hS.o.o hS.tick ?_
  refine r_aload_n hC dX5_post_8 rfl ?_
  refine r_getR (j := 0) hC dX5_post_9 fl_X5_18 rfl rfl hS.o.o hS.o.p0 ?_
  refine r_iconst hC dX5_post_12 ?_
  refine r_ialdv (v := r 11) hC dX5_post_13 hS.o.a0 ⟨by omega, by omega⟩ (hS.set (i := 1) (by decide)) ?_
  refine r_iadd hC dX5_post_14 ?_
  refine r_aload_n hC dX5_post_15 rfl ?_
  refine r_getR (j := 0) hC dX5_post_16 fl_X5_18 rfl rfl hS.o.o hS.o.p0 ?_
  refine r_iconst hC dX5_post_19 ?_
  refine r_ialdv (v := r 14) hC dX5_post_20 hS.o.a0 ⟨by omega, by omega⟩ (hS.set (i := 4) (by decide)) ?_
  refine r_V0v hC dX5_post_21 mi_X0_postDraft se_X0_postDraft ml_X5_221 (rm := rmX0_postDraft) rfl hS.o.l.o rfl rfl rfl rfl ⟨le_b rfl, le_b rfl⟩ (k_Ma_post hfC hS.o.l hdue (rf_at rf _) (by rw [hS.l.1, h9N]; exact ⟨by omega, by omega⟩)) ?_ rfl
  refine r_vret hC hR dX5_post_24 (le_b rfl) (le_b rfl) ?_
  exact ⟨rfl, rs_post hS hB h9N hN2 hd hkd hc hmn hgr hb hdue hlen⟩

abbrev rmX5_firstComes : Room := { frames := 2, cells := 0, slots := 0, locals := 49 }
set_option maxRecDepth 100000 in
theorem k_St_first {l : Launch} {D : DD} (hfl : l.stackTraces = false) {u : Mem} {a : Nat} {r : RW} (hS : RS u a r) (hB : IB r) {N n : Nat} (b : RW) (h9N : r 9 = N) (hm : LexMin r N n) (hMK : MK r) (hdue : rg (r 0 + r 11)) : CT l D yX5_firstComes cX5_firstComes 6 (some .int) rmX5_firstComes [xA a] u (fun o w => o = some (xI (c_eff r n (m_way r n 1) (m_way r n 3).toNat)) ∧ RS w a (m_stepN r b n) ∧ Blk u w a) := by
  have b2 := hB.co.1
  have b3 := hB.co.2.1
  have bk := hB.co.2.2.1
  have rf := hB.rf
  have hnN := hm.1
  have h54 := hB.ni
  obtain ⟨hkd, hwh, hln, hgr, hrw, hz⟩ := hMK n (by omega)
  obtain ⟨c, hcw⟩ : ∃ c : Nat, m_way r n 1 = c := ⟨(m_way r n 1).toNat, by omega⟩
  have hc : c < 3 := by omega
  obtain ⟨LN, hLN⟩ : ∃ LN : Nat, m_way r n 3 = LN := ⟨(m_way r n 3).toNat, by omega⟩
  have hLN8 : LN ≤ 8 := by omega
  have hhd := hS.l.head h9N hm
  obtain ⟨q0, hq0⟩ : ∃ q, q = qa u (a + 34) 0 := ⟨_, rfl⟩
  have hbq := hS.o.l.bq (j := 0) (by omega)
  have hq00 : qa u (a + 34) ((0 : Nat) : Int) = q0 := hq0.symm
  rw [hq00] at hbq
  rw [← hq0] at hhd
  obtain ⟨m1, m2, m3, m4, m5, m6⟩ := hhd
  have hMq : MsO u q0 := by rw [hq0]; exact hS.o.l.mq (j := 0) (by omega)
  have hp0 : mP u (a + 34 + 1) 0 = some q0 := by rw [hq0]; exact hS.o.l.pq (j := 0) (by omega)
  have hbc := bcL_at hB (n := n) hc hLN8 (fun k hk => hrw k (by omega))
  have hgrr : rg (m_way r n 4) := rg_way rf _ _
  refine CT.of hfl (by decide) (le_b rfl) ?_
  intro C hC hR hL hDD hN
  have hfC : (cxL C).stackTraces = false := by rw [hL]; exact hfl
  have lp : ∀ (n' : Nat) (i : Nat) (w : Mem), LN - i = n' → i ≤ LN → RS w a (m_bcL r n c i) → Fr u w (fun q => a + 24 ≤ q ∧ q < a + 34) (fun _ => False) → VW C 26 [some (xA a), some (xA q0), some (xI c), some (xI (m_way r n 4)), some (xI (c_eff r n c i)), some (xI i)] [] w 0 0 := by
    intro n'
    induction n' using Nat.strongRecOn with
    | _ n' ih =>
      intro i w hn hi hSw hfr
      have hMw : MsO w q0 := hfr.msO hMq
      obtain ⟨hBw, hlo, hof, hwt, hst⟩ := hbc i (by omega)
      have e0 : mI w q0 = mI u q0 := hfr.mI (by omega)
      have e1 : mI w (q0 + 1) = mI u (q0 + 1) := hfr.mI (by omega)
      have h9w : m_bcL r n c i 9 = N := by rw [hlo 9 (by omega)]; exact h9N
      refine r_iload hC dX5_firstComes_26 rfl ?_
      refine r_aload_n hC dX5_firstComes_28 rfl ?_
      refine r_getIv (j := 4) (v := LN) hC dX5_firstComes_29 fl_X5_147 rfl rfl hMw.o (by rw [e0, m4]; exact hLN) ?_
      refine r_icmp_ge (t := 58) hC dX5_firstComes_32 (by rfl) (by first | with_reducible exact rg_mI _ _ _ | assumption | with_reducible exact rf_at rf _ | with_reducible exact rg_of rf _ _ | with_reducible exact rg_its rf _ _ | with_reducible exact rg_way rf _ _ | with_reducible exact rg_and _ _ | with_reducible exact rg_or _ _ | exact ⟨by omega, by omega⟩) (by first | with_reducible exact rg_mI _ _ _ | assumption | with_reducible exact rf_at rf _ | with_reducible exact rg_of rf _ _ | with_reducible exact rg_its rf _ _ | with_reducible exact rg_way rf _ _ | with_reducible exact rg_and _ _ | with_reducible exact rg_or _ _ | exact ⟨by omega, by omega⟩) (fun h_32 => ?_) (fun h_32 => ?_)
      · skip
        have hiL : i = LN := by omega
        subst hiL
        have hmw := hm.keep (fun j hj => hlo j (Or.inr hj))
        have hlen : ∀ m : Nat, m < N → m_way (m_bcL r n c i) m 3 ≤ 8 := fun m hm' => by
          rw [way_keep (fun j hj => hlo j (Or.inr hj)) (by omega) (by decide)]; exact (hMK m (by omega)).2.2.1.2
        have hw1 : mI w (a + 34) 1 = N := by rw [hSw.l.1]; exact h9w
        obtain ⟨hS2, hq2⟩ := rs_remove hSw hBw h9w hmw hlen
        have hB2 := ib_takeOff hBw h9w hnN
        obtain ⟨tk1, tk9, tk3⟩ := takeOff_at h9w hnN (by omega)
        have hqw : qa w (a + 34) 0 = q0 := by rw [hfr.qaE]; exact hq0.symm
        rw [hqw] at hq2
        have hfr2 : Fr u (sQ (sI w (a + 34) 1 ((N : Int) - 1)) (a + 34 + 1) (rotQ (mP w (a + 34 + 1)) N)) (fun q => a ≤ q ∧ q < a + 146) (fun q => q = a + 35) := by
          refine Fr.sQ (Fr.sI (hfr.weak (fun q hq => by omega) (fun _ z => z.elim)) _ _ ?_) _ ?_ <;> omega
        have heff : c_eff r n (m_way r n 1) (m_way r n 3).toNat = c_eff r n c i := by rw [hcw, hLN]; rfl
        refine r_aload_n hC dX5_firstComes_58 rfl ?_
        refine r_getIv (j := 1) (v := m_way r n 0) hC dX5_firstComes_59 fl_X5_154 rfl rfl hMw.o (by rw [e0]; exact m1) ?_
        refine r_istore (lv' := [_, _, _, _, _, _]) hC dX5_firstComes_62 (lt_b rfl) rfl (lt_b rfl) rfl ?_
        refine r_aload_n hC dX5_firstComes_64 rfl ?_
        refine r_getR (j := 4) hC dX5_firstComes_65 fl_X5_47 rfl rfl hSw.o.o hSw.o.p4 ?_
        refine r_V0v hC dX5_firstComes_68 mi_X0_removeFirst se_X0_removeFirst ml_X5_157 (rm := rmX0_removeFirst) rfl hSw.o.l.o rfl rfl rfl rfl ⟨le_b rfl, le_b rfl⟩ (k_Ma_remove hfC hSw.o.l (by rw [hw1]; exact ⟨by omega, by omega⟩)) ?_ rfl
        rw [hw1]
        obtain ⟨w2, hw2⟩ : ∃ z, z = (sQ (sI w (a + 34) 1 ((N : Int) - 1)) (a + 34 + 1) (rotQ (mP w (a + 34 + 1)) N)) := ⟨_, rfl⟩
        rw [← hw2] at hS2 hq2 hfr2 ⊢
        refine r_iload hC dX5_firstComes_71 rfl ?_
        refine r_if_eq (t := 102) hC dX5_firstComes_73 (by rfl) (rg_way rf _ _) (fun h_73 => ?_) (fun h_73 => ?_)
        · skip
          have hMq2 : MsO w2 q0 := by rw [← hq2, show (N : Int) - 1 = ((N - 1 : Nat) : Int) by omega]; exact hS2.o.l.mq (by omega)
          have hd1 : mI w2 (a + 34) 1 = (N : Int) - 1 := by rw [hS2.l.1, tk9]
          refine r_aload_n hC dX5_firstComes_102 rfl ?_
          refine r_getR (j := 4) hC dX5_firstComes_103 fl_X5_47 rfl rfl hS2.o.o hS2.o.p4 ?_
          refine r_V0 hC dX5_firstComes_106 mi_X0_draft se_X0_draft ml_X5_166 (rm := rmX0_draft) rfl hS2.o.l.o rfl rfl rfl rfl ⟨le_b rfl, le_b rfl⟩ (k_Ma_draft hfC hS2.o.l (by rw [hd1]; exact ⟨by omega, by omega⟩)) ?_ rfl
          rw [hd1, hq2]
          refine r_iload_n hC dX5_firstComes_109 rfl ?_
          refine r_iload_n hC dX5_firstComes_110 rfl ?_
          refine r_V0v (u := w2) hC dX5_firstComes_111 mi_X1_becomeAnswer se_X1_becomeAnswer ml_X5_170 (rm := rmX1_becomeAnswer) rfl hMq2.o rfl rfl rfl rfl ⟨le_b rfl, le_b rfl⟩ (k_Ms_answer hfC hMq2) ?_ rfl
          refine r_aload_n hC dX5_firstComes_114 rfl ?_
          have hk0 : m_way r n 0 = 0 := by omega
          have h92 : (m_takeOff (m_bcL r n c i) n) 9 = ((N - 1 : Nat) : Int) := by rw [tk9]; omega
          have hqN : q0 = qa w2 (a + 34) ((N - 1 : Nat) : Int) := by rw [show ((N - 1 : Nat) : Int) = (N : Int) - 1 by omega]; exact hq2.symm
          have hfd : Fr w2 (sI (sI (sI (sI w2 q0 1 1) q0 2 c) q0 4 0) q0 5 (m_way r n 4)) (fun q => q = q0 ∨ q = q0 + 1) (fun _ => False) := by
            refine Fr.sI (Fr.sI (Fr.sI (Fr.sI (Fr.refl _ _ _) _ _ ?_) _ _ ?_) _ _ ?_) _ _ ?_ <;> exact Or.inl rfl
          have hS3 := rs_draft hS2 hB2 h92 hqN hfd
          have hDC : DC (sI (sI (sI (sI w2 q0 1 1) q0 2 c) q0 4 0) q0 5 (m_way r n 4)) (qa (sI (sI (sI (sI w2 q0 1 1) q0 2 c) q0 4 0) q0 5 (m_way r n 4)) (a + 34) ((N - 1 : Nat) : Int)) 1 c ((0 : Nat) : Int) (m_way r n 4) b := by
            rw [hfd.qaE, ← hqN]
            refine ⟨?_, ?_, ?_, ?_, fun k hk => by omega⟩
            · rw [mI_sI_k _ _ _ _ (by decide), mI_sI_k _ _ _ _ (by decide), mI_sI_k _ _ _ _ (by decide), mI_sI_s]; rfl
            · rw [mI_sI_k _ _ _ _ (by decide), mI_sI_k _ _ _ _ (by decide), mI_sI_s, wr_id ⟨by omega, by omega⟩]
            · rw [mI_sI_k _ _ _ _ (by decide), mI_sI_s]; rfl
            · rw [mI_sI_s, wr_id hgrr]
          have hlen2 : ∀ m : Nat, m < N - 1 → m_way (m_takeOff (m_bcL r n c i) n) m 3 ≤ 8 := fun m hm' => by
            rw [tk3 m hm' 3 (by decide) (by decide)]; exact hlen _ (by split <;> omega)
          refine r_V0p (u := (sI (sI (sI (sI w2 q0 1 1) q0 2 c) q0 4 0) q0 5 (m_way r n 4))) hC dX5_firstComes_115 mi_X5_post se_X5_post ml_X5_174 (rm := rmX5_post) rfl hS3.o.o rfl rfl rfl rfl ⟨le_b rfl, le_b rfl⟩ (k_St_post hfC hS3 hB2 (N := N - 1) (mn := 0) h92 (by omega) hDC (Or.inr rfl) ⟨by omega, by omega⟩ (by omega) hgrr (fun k hk => by omega) (by rw [tk1 0 (by decide) (by omega), tk1 11 (by decide) (by omega), hlo 0 (by omega), hlo 11 (by omega)]; exact hdue) hlen2) ?_ rfl
          rintro _ w4 ⟨rfl, hS4, hf4⟩
          refine r_iload hC dX5_firstComes_118 rfl ?_
          refine r_iret hC hR dX5_firstComes_120 (le_b rfl) (le_b rfl) ?_
          refine ⟨by rw [heff], ?_, ?_⟩
          · unfold m_stepN
            rw [if_pos hk0]
            rw [show m_batchComes r b n = m_sends (m_takeOff (m_bcL r n c i) n) b 1 c ((0 : Nat) : Int) (m_way r n 4) from by
              unfold m_batchComes; rw [hcw, hLN, Int.toNat_natCast]
              rw [way_keep (fun j hj => hlo j (Or.inr hj)) (by omega) (by decide)]; rfl]
            rw [← show m_cnt2 (m_takeOff (m_bcL r n c i) n) 1 ((0 : Nat) : Int) = m_takeOff (m_bcL r n c i) n from by unfold m_cnt2; rw [if_neg (by decide)]]
            exact hS4
          · exact (hfr2.trans ((hfd.weak (fun q hq => by omega) (fun _ z => z.elim)).trans (hf4.weak (fun q hq => by omega) (fun q hq => hq))))
        · skip
          refine r_aload_n hC dX5_firstComes_76 rfl ?_
          refine r_getR (j := 4) hC dX5_firstComes_77 fl_X5_47 rfl rfl hS2.o.o hS2.o.p4 ?_
          refine r_dup hC dX5_firstComes_80 rfl ?_
          refine r_getIv (j := 6) (v := (m_takeOff (m_bcL r n c i) n) 7) hC dX5_firstComes_81 fl_X5_160 rfl rfl hS2.o.l.o hS2.l.2.2.2.2.2.1 ?_
          refine r_iconst hC dX5_firstComes_84 ?_
          refine r_iadd hC dX5_firstComes_85 ?_
          refine r_putI (j := 6) hC dX5_firstComes_86 fl_X5_160 rfl hS2.o.l.o (by rintro _ ⟨⟩; rfl) (Or.inl rfl) ?_
          refine r_aload_n hC dX5_firstComes_89 rfl ?_
          refine r_getR (j := 3) hC dX5_firstComes_90 fl_X5_39 rfl rfl hS2.o.o hS2.o.p3 ?_
          refine r_iload_n hC dX5_firstComes_93 rfl ?_
          refine r_aald hC dX5_firstComes_94 hS2.o.a3 (le_b rfl) (lt_b rfl) ⟨by omega, by omega⟩ (hS2.o.pc hc) ?_
          refine r_iload_n hC dX5_firstComes_95 rfl ?_
          refine r_V0v (u := (sI w2 (a + 34) 6 ((m_takeOff (m_bcL r n c i) n) 7 + 1))) hC dX5_firstComes_96 mi_X3_answerComes se_X3_answerComes ml_X5_163 (rm := rmX3_answerComes) rfl (hS2.o.c hc).o rfl rfl rfl rfl ⟨le_b rfl, le_b rfl⟩ (k_Re_answer (u := sI w2 (a + 34) 6 ((m_takeOff (m_bcL r n c i) n) 7 + 1)) hfC (hS2.o.c hc) hgrr) ?_ rfl
          rw [show mI (sI w2 (a + 34) 6 ((m_takeOff (m_bcL r n c i) n) 7 + 1)) (a + 28 + 2 * c) = mI w2 (a + 28 + 2 * c) from up_mI_n _ _ _ (by omega)]
          refine r_goto (t := 118) hC dX5_firstComes_99 (by rfl) ?_
          refine r_iload hC dX5_firstComes_118 rfl ?_
          refine r_iret hC hR dX5_firstComes_120 (le_b rfl) (le_b rfl) ?_
          refine ⟨by rw [heff], ?_, ?_⟩
          · have hk1 : m_way r n 0 = 1 := by omega
            have hi0 : i = 0 := by have := hz hk1; omega
            subst hi0
            have := (rs_answer hS2 hB2 hc hgrr hgr).1
            unfold m_stepN
            rw [if_neg (by omega)]
            rw [show m_answerComes r n = m_ansR (m_takeOff (m_bcL r n c 0) n) c (m_way r n 4) from by unfold m_answerComes m_ansR; rw [hcw]; rfl]
            exact this
          · have := (rs_answer hS2 hB2 hc hgrr hgr).2
            exact (hfr2.trans (this.weak (fun q hq => by omega) (fun _ z => z.elim)))
      · skip
        refine r_iload hC dX5_firstComes_35 rfl ?_
        refine r_aload_n hC dX5_firstComes_37 rfl ?_
        refine r_aload_n hC dX5_firstComes_38 rfl ?_
        refine r_getR (j := 0) hC dX5_firstComes_39 fl_X5_148 rfl rfl hMw.o hMw.p ?_
        refine r_iload hC dX5_firstComes_42 rfl ?_
        refine r_ialdv (v := m_rowOf r n i) hC dX5_firstComes_44 hMw.a ⟨by omega, by omega⟩ (by rw [e1]; exact m6 i (by omega)) ?_
        refine r_iload_n hC dX5_firstComes_45 rfl ?_
        obtain ⟨K, hK⟩ : ∃ K : Nat, m_rowOf r n i = K := ⟨(m_rowOf r n i).toNat, by have := hrw i (by omega); omega⟩
        have hKr := hrw i (by omega)
        rw [hK] at hKr ⊢
        refine r_V0p hC dX5_firstComes_46 mi_X5_rowComes se_X5_rowComes ml_X5_150 (rm := rmX5_rowComes) rfl hSw.o.o rfl rfl rfl rfl ⟨le_b rfl, le_b rfl⟩ (k_St_rowComes hfC hSw hBw (c := c) (k := K) hc (by rw [hlo 2 (by omega)]; exact hKr.2)) ?_ rfl
        rintro _ w1 ⟨rfl, hS1, hf1⟩
        rw [← hK, ← hst (by omega)] at hS1
        show VW C 49 _ (xI _ :: xI _ :: []) w1 0 0
        refine r_iadd hC dX5_firstComes_49 ?_
        refine r_istore (lv' := [_, _, _, _, _, _]) hC dX5_firstComes_50 (lt_b rfl) rfl (lt_b rfl) rfl ?_
        refine r_iinc (lv' := [_, _, _, _, _, _]) hC dX5_firstComes_52 rfl (lt_b rfl) rfl (lt_b rfl) rfl ?_
        refine r_goto (t := 26) hC dX5_firstComes_55 (by rfl) ?_
        refine vw_lv ?_ (ih _ (by omega) (i + 1) w1 rfl (by omega) hS1 (hfr.trans (hf1.weak (fun q hq => by omega) (fun _ z => z))))
        simp only [c_eff]; rw [hK]; rfl
  show VW C 0 [some (xA a), none, none, none, none, none] [] u 0 0
  refine r_aload_n hC dX5_firstComes_0 rfl ?_
  refine r_getR (j := 4) hC dX5_firstComes_1 fl_X5_47 rfl rfl hS.o.o hS.o.p4 ?_
  refine r_getR (j := 0) hC dX5_firstComes_4 fl_X5_135 rfl rfl hS.o.l.o hS.o.l.p ?_
  refine r_iconst hC dX5_firstComes_7 ?_
  refine r_aald hC dX5_firstComes_8 hS.o.l.a (le_b rfl) (lt_b rfl) ⟨by omega, by omega⟩ hp0 ?_
  refine r_astore_n (lv' := [_, _, _, _, _, _]) hC dX5_firstComes_9 (lt_b rfl) rfl (lt_b rfl) rfl ?_
  refine r_aload_n hC dX5_firstComes_10 rfl ?_
  refine r_getIv (j := 2) (v := c) hC dX5_firstComes_11 fl_X5_139 rfl rfl hMq.o (by rw [m2]; exact hcw) ?_
  refine r_istore_n (lv' := [_, _, _, _, _, _]) hC dX5_firstComes_14 (lt_b rfl) rfl (lt_b rfl) rfl ?_
  refine r_aload_n hC dX5_firstComes_15 rfl ?_
  refine r_getIv (j := 5) (v := m_way r n 4) hC dX5_firstComes_16 fl_X5_144 rfl rfl hMq.o m5 ?_
  refine r_istore_n (lv' := [_, _, _, _, _, _]) hC dX5_firstComes_19 (lt_b rfl) rfl (lt_b rfl) rfl ?_
  refine r_iconst hC dX5_firstComes_20 ?_
  refine r_istore (lv' := [_, _, _, _, _, _]) hC dX5_firstComes_21 (lt_b rfl) rfl (lt_b rfl) rfl ?_
  refine r_iconst hC dX5_firstComes_23 ?_
  refine r_istore (lv' := [_, _, _, _, _, _]) hC dX5_firstComes_24 (lt_b rfl) rfl (lt_b rfl) rfl ?_
  exact lp _ 0 u rfl (by omega) hS (Fr.refl _ _ _)
