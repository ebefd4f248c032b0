theorem b_and255 (x : Int) : 0 ≤ b_and x 255 ∧ b_and x 255 ≤ 255 := by
  obtain ⟨j, hj, e⟩ := pk_andE (Int32.ofInt x) (m := 255) 8 (by decide)
  unfold b_and
  rw [show Int32.ofInt 255 = 255 from rfl, e, nI_toInt (by omega)]
  omega
theorem m_rowOf_rg (r : RW) (n k : Int) : 0 ≤ m_rowOf r n k ∧ m_rowOf r n k ≤ 255 := b_and255 _
theorem m_works7_out (f : RW) {c k : Int} (hc : 0 ≤ c ∧ c < 3) (h2 : 0 ≤ m_of f c 2 ∧ m_of f c 2 ≤ 20) {j : Int} (hj : j < 697 ∨ 811 ≤ j) : (m_works7 f c k) j = f j := by
  unfold m_works7 m_works4
  dsimp only
  rw [up_n _ _ (by omega), up_n _ _ (by omega), up_n _ _ (by omega), up_n _ _ (by omega), up_n _ _ (by omega), up_n _ _ (by omega), up_n _ _ (by omega)]
theorem m_works_out (f : RW) {c k : Int} (hc : 0 ≤ c ∧ c < 3) (hk : 0 ≤ k ∧ k < 200) (h2 : 0 ≤ m_of f c 2 ∧ m_of f c 2 ≤ 20) {j : Int} (hj : j < 97 ∨ 811 ≤ j ∨ (j < 697 ∧ j ≠ 97 + 3 * k + 2)) : (m_works f c k) j = f j := by
  unfold m_works m_setm
  rw [up_n _ _ (by omega)]
  split
  · exact m_works7_out f hc h2 (by omega)
  · rw [up_n _ _ (by omega), up_n _ _ (by omega)]
    unfold m_shift
    rw [if_neg (by omega)]
    exact m_works7_out f hc h2 (by omega)
theorem m_works_known (f : RW) {c k : Int} (hc : 0 ≤ c ∧ c < 3) (hk : 0 ≤ k ∧ k < 200) (h2 : 0 ≤ m_of f c 2 ∧ m_of f c 2 ≤ 20) (h16 : f 16 ≤ 20) : 0 ≤ m_of (m_works f c k) c 2 ∧ m_of (m_works f c k) c 2 ≤ 20 := by
  have h7 := m_works7_out f (c := c) (k := k) hc h2 (j := 16) (by omega)
  rw [show m_of (m_works f c k) c 2 = (m_works f c k) (697 + 38 * c + 2) from rfl]
  unfold m_works m_setm
  rw [up_n _ _ (by omega)]
  split
  · rename_i hle
    rw [h7] at hle
    have e : (m_works7 f c k) (697 + 38 * c + 2) = wr (m_of f c 2 + 1) := up_s _ _ _
    rw [e, wr_id ⟨by omega, by omega⟩]
    omega
  · rw [up_s, wr_id ⟨by omega, by omega⟩]
    exact h2
/-- does the row w come again to receiver c -/
def m_rep (g : RW) (c w : Int) : Bool := if g 15 = 1 then decide (m_num g w ≤ m_of g c 1) else m_mem g c (m_num g w) (m_of g c 2).toNat
def m_bc1 (g : RW) (n c k : Int) : RW := if m_rep g c (m_rowOf g n k) = true then up g (697 + 38 * c + 5) (m_of g c 5 + 1) else m_works g c (m_rowOf g n k)
def m_bcL (f : RW) (n c : Int) : Nat → RW
  | 0 => f
  | k + 1 => m_bc1 (m_bcL f n c k) n c k
theorem rf_bc1 {g : RW} (h : RF g) (n c k : Int) : RF (m_bc1 g n c k) := rf_ite (rf_up h _ _) (rf_works h _ _)
theorem rf_bcL {f : RW} (h : RF f) (n c : Int) (k : Nat) : RF (m_bcL f n c k) := by
  induction k with
  | zero => exact h
  | succ k ih => exact rf_bc1 ih _ _ _
/-- what a message must be that comes to its receiver -/
def BP (f : RW) (n : Int) : Prop := (0 < f 9 ∧ f 9 ≤ 100) ∧ (0 ≤ n ∧ n < f 9) ∧ (0 ≤ m_way f n 1 ∧ m_way f n 1 < 3) ∧ (0 ≤ m_way f n 3 ∧ m_way f n 3 ≤ 8) ∧ (∀ k : Int, 0 ≤ k → k < m_way f n 3 → m_rowOf f n k < 200) ∧ (0 ≤ m_of f (m_way f n 1) 2 ∧ m_of f (m_way f n 1) 2 ≤ 20) ∧ f 16 ≤ 20
theorem m_rowOf_hi {f g : RW} {n k : Int} (hn : 0 ≤ n) (hk : 0 ≤ k) (h : ∀ j, 811 ≤ j → g j = f j) : m_rowOf g n k = m_rowOf f n k := by
  unfold m_rowOf m_way
  rw [h _ (by have := Int.tdiv_nonneg hk (by decide : (0:Int) ≤ 4); omega)]
theorem m_bcL_facts {f : RW} {n : Int} (hB : BP f n) (k : Nat) (hk : (k : Int) ≤ m_way f n 3) : (∀ j, (j < 97 ∨ 811 ≤ j) → (m_bcL f n (m_way f n 1) k) j = f j) ∧ (0 ≤ m_of (m_bcL f n (m_way f n 1) k) (m_way f n 1) 2 ∧ m_of (m_bcL f n (m_way f n 1) k) (m_way f n 1) 2 ≤ 20) := by
  obtain ⟨h9, hn, hc, hl, hr, h2, h16⟩ := hB
  induction k with
  | zero => exact ⟨fun _ _ => rfl, h2⟩
  | succ k ih =>
    obtain ⟨i1, i2⟩ := ih (by omega)
    have e := m_rowOf_hi (f := f) (g := m_bcL f n (m_way f n 1) k) (n := n) (k := k) hn.1 (by omega) (fun j hj => i1 j (Or.inr hj))
    have hw := m_rowOf_rg f n k
    have hw2 := hr k (by omega) (by omega)
    simp only [m_bcL, m_bc1]
    split
    · refine ⟨fun j hj => ?_, ?_⟩
      · rw [up_n _ _ (by omega)]; exact i1 j hj
      · show 0 ≤ up _ _ _ (697 + 38 * m_way f n 1 + 2) ∧ up _ _ _ (697 + 38 * m_way f n 1 + 2) ≤ 20
        rw [up_n _ _ (by omega)]; exact i2
    · rw [e]
      refine ⟨fun j hj => ?_, ?_⟩
      · rw [m_works_out _ hc ⟨hw.1, hw2⟩ i2 (by omega)]; exact i1 j hj
      · exact m_works_known _ hc ⟨hw.1, hw2⟩ i2 (by rw [i1 16 (by omega)]; exact h16)
def m_batchComes (f b : RW) (n : Int) : RW :=
  m_sends (m_takeOff (m_bcL f n (m_way f n 1) (m_way f n 3).toNat) n) b 1 (m_way f n 1) 0 (m_way (m_bcL f n (m_way f n 1) (m_way f n 3).toNat) n 4)
abbrev rmX8_batchComes : Room := { frames := 3, cells := 0, slots := 0, locals := 67 }
set_option maxRecDepth 100000 in
theorem k_batchComes {l : Launch} {D : DD} (hfl : l.stackTraces = false) {u : Mem} {m : Nat} (hM : MO u m) {f : RW} (hf : RF f) {b : Int} (hB : BP f b) : CT l D yX8_batchComes cX8_batchComes 6 none rmX8_batchComes [xA m, xI b] (sA u (m + 1) f) (RV (sA u (m + 1) (m_batchComes f (mI u (m + 7)) b))) := by
  refine CT.of hfl (by decide) (le_b rfl) ?_
  intro C hC hR hL hDD hN
  have hfC : (cxL C).stackTraces = false := by rw [hL]; exact hfl
  obtain ⟨h9, hn, hc, hl, hr, h2, h16⟩ := id hB
  have hn100 : 0 ≤ b ∧ b < 100 := ⟨by omega, by omega⟩
  obtain ⟨c, hcd⟩ : ∃ z, z = m_way f b 1 := ⟨_, rfl⟩
  have hfacts := fun k hk => m_bcL_facts hB k hk
  rw [← hcd] at hc h2 hfacts
  have lp : ∀ (n : Nat) (k : Nat) (w1 w2 : Option SV), ((m_way f b 3 - k).toNat = n) → ((k : Int) ≤ m_way f b 3) → VW C 9 [some (xA m), some (xI b), some (xI c), some (xI k), w1, w2] [] (sA u (m + 1) (m_bcL f b c k)) 0 0 := by
    intro n
    induction n using Nat.strongRecOn with
    | _ n ih =>
      intro k w1 w2 hk0 hk
      obtain ⟨q, hq⟩ : ∃ z, z = m_bcL f b c k := ⟨_, rfl⟩
      obtain ⟨f1, qk⟩ := hfacts k hk
      rw [← hq] at f1 qk ⊢
      have rq : RF q := by rw [hq]; exact rf_bcL hf _ _ _
      have e3 : m_way q b 3 = m_way f b 3 := f1 _ (by omega)
      have e4 : m_way q b 4 = m_way f b 4 := f1 _ (by omega)
      have q9 : q 9 = f 9 := f1 9 (by omega)
      have ew := m_rowOf_hi (f := f) (g := q) (n := b) (k := k) hn.1 (by omega) (fun j hj => f1 j (Or.inr hj))
      refine r_iload_n hC dX8_batchComes_9 rfl ?_
      refine r_aload_n hC dX8_batchComes_10 rfl ?_
      refine r_iload_n hC dX8_batchComes_11 rfl ?_
      refine r_iconst hC dX8_batchComes_12 ?_
      refine rM_V0 hC hM dX8_batchComes_13 mi_X8_way se_X8_way ml_X8_101 (rm := rmX8_way) rfl rfl rfl rfl ⟨le_b rfl, le_b rfl⟩ (k_way hfC hM rq ⟨by omega, by omega⟩) ?_ rfl
      refine r_icmp_ge (t := 109) hC dX8_batchComes_16 (by rfl) (by first | with_reducible exact rg_mI _ _ _ | (with_reducible refine rg_of ?_ _ _; (repeat (first | assumption | with_reducible apply rf_up | with_reducible apply rf_setm | with_reducible apply rf_mI | with_reducible apply rf_begins | with_reducible apply rf_writes | with_reducible apply rf_drops | with_reducible apply rf_commitL | with_reducible apply rf_commits | with_reducible apply rf_lost | with_reducible apply rf_sweepL | with_reducible apply rf_sweep1 | with_reducible apply rf_sweeps | with_reducible apply rf_sends0 | with_reducible apply rf_sendsA | with_reducible apply rf_pack | with_reducible apply rf_sends | with_reducible apply rf_works4 | with_reducible apply rf_works7 | with_reducible apply rf_shift | with_reducible apply rf_works | with_reducible apply rf_answerComes | with_reducible apply rf_bcL | with_reducible apply rf_bc1)); done) | (with_reducible refine rg_its ?_ _ _; (repeat (first | assumption | with_reducible apply rf_up | with_reducible apply rf_setm | with_reducible apply rf_mI | with_reducible apply rf_begins | with_reducible apply rf_writes | with_reducible apply rf_drops | with_reducible apply rf_commitL | with_reducible apply rf_commits | with_reducible apply rf_lost | with_reducible apply rf_sweepL | with_reducible apply rf_sweep1 | with_reducible apply rf_sweeps | with_reducible apply rf_sends0 | with_reducible apply rf_sendsA | with_reducible apply rf_pack | with_reducible apply rf_sends | with_reducible apply rf_works4 | with_reducible apply rf_works7 | with_reducible apply rf_shift | with_reducible apply rf_works | with_reducible apply rf_answerComes | with_reducible apply rf_bcL | with_reducible apply rf_bc1)); done) | (with_reducible refine rg_way ?_ _ _; (repeat (first | assumption | with_reducible apply rf_up | with_reducible apply rf_setm | with_reducible apply rf_mI | with_reducible apply rf_begins | with_reducible apply rf_writes | with_reducible apply rf_drops | with_reducible apply rf_commitL | with_reducible apply rf_commits | with_reducible apply rf_lost | with_reducible apply rf_sweepL | with_reducible apply rf_sweep1 | with_reducible apply rf_sweeps | with_reducible apply rf_sends0 | with_reducible apply rf_sendsA | with_reducible apply rf_pack | with_reducible apply rf_sends | with_reducible apply rf_works4 | with_reducible apply rf_works7 | with_reducible apply rf_shift | with_reducible apply rf_works | with_reducible apply rf_answerComes | with_reducible apply rf_bcL | with_reducible apply rf_bc1)); done) | with_reducible exact rg_and _ _ | (with_reducible refine rg_num ?_ ⟨by omega, by omega⟩; (repeat (first | assumption | with_reducible apply rf_up | with_reducible apply rf_setm | with_reducible apply rf_mI | with_reducible apply rf_begins | with_reducible apply rf_writes | with_reducible apply rf_drops | with_reducible apply rf_commitL | with_reducible apply rf_commits | with_reducible apply rf_lost | with_reducible apply rf_sweepL | with_reducible apply rf_sweep1 | with_reducible apply rf_sweeps | with_reducible apply rf_sends0 | with_reducible apply rf_sendsA | with_reducible apply rf_pack | with_reducible apply rf_sends | with_reducible apply rf_works4 | with_reducible apply rf_works7 | with_reducible apply rf_shift | with_reducible apply rf_works | with_reducible apply rf_answerComes | with_reducible apply rf_bcL | with_reducible apply rf_bc1)); done) | (with_reducible refine rf_at ?_ _; (repeat (first | assumption | with_reducible apply rf_up | with_reducible apply rf_setm | with_reducible apply rf_mI | with_reducible apply rf_begins | with_reducible apply rf_writes | with_reducible apply rf_drops | with_reducible apply rf_commitL | with_reducible apply rf_commits | with_reducible apply rf_lost | with_reducible apply rf_sweepL | with_reducible apply rf_sweep1 | with_reducible apply rf_sweeps | with_reducible apply rf_sends0 | with_reducible apply rf_sendsA | with_reducible apply rf_pack | with_reducible apply rf_sends | with_reducible apply rf_works4 | with_reducible apply rf_works7 | with_reducible apply rf_shift | with_reducible apply rf_works | with_reducible apply rf_answerComes | with_reducible apply rf_bcL | with_reducible apply rf_bc1)); done) | exact ⟨by omega, by omega⟩) (by first | with_reducible exact rg_mI _ _ _ | (with_reducible refine rg_of ?_ _ _; (repeat (first | assumption | with_reducible apply rf_up | with_reducible apply rf_setm | with_reducible apply rf_mI | with_reducible apply rf_begins | with_reducible apply rf_writes | with_reducible apply rf_drops | with_reducible apply rf_commitL | with_reducible apply rf_commits | with_reducible apply rf_lost | with_reducible apply rf_sweepL | with_reducible apply rf_sweep1 | with_reducible apply rf_sweeps | with_reducible apply rf_sends0 | with_reducible apply rf_sendsA | with_reducible apply rf_pack | with_reducible apply rf_sends | with_reducible apply rf_works4 | with_reducible apply rf_works7 | with_reducible apply rf_shift | with_reducible apply rf_works | with_reducible apply rf_answerComes | with_reducible apply rf_bcL | with_reducible apply rf_bc1)); done) | (with_reducible refine rg_its ?_ _ _; (repeat (first | assumption | with_reducible apply rf_up | with_reducible apply rf_setm | with_reducible apply rf_mI | with_reducible apply rf_begins | with_reducible apply rf_writes | with_reducible apply rf_drops | with_reducible apply rf_commitL | with_reducible apply rf_commits | with_reducible apply rf_lost | with_reducible apply rf_sweepL | with_reducible apply rf_sweep1 | with_reducible apply rf_sweeps | with_reducible apply rf_sends0 | with_reducible apply rf_sendsA | with_reducible apply rf_pack | with_reducible apply rf_sends | with_reducible apply rf_works4 | with_reducible apply rf_works7 | with_reducible apply rf_shift | with_reducible apply rf_works | with_reducible apply rf_answerComes | with_reducible apply rf_bcL | with_reducible apply rf_bc1)); done) | (with_reducible refine rg_way ?_ _ _; (repeat (first | assumption | with_reducible apply rf_up | with_reducible apply rf_setm | with_reducible apply rf_mI | with_reducible apply rf_begins | with_reducible apply rf_writes | with_reducible apply rf_drops | with_reducible apply rf_commitL | with_reducible apply rf_commits | with_reducible apply rf_lost | with_reducible apply rf_sweepL | with_reducible apply rf_sweep1 | with_reducible apply rf_sweeps | with_reducible apply rf_sends0 | with_reducible apply rf_sendsA | with_reducible apply rf_pack | with_reducible apply rf_sends | with_reducible apply rf_works4 | with_reducible apply rf_works7 | with_reducible apply rf_shift | with_reducible apply rf_works | with_reducible apply rf_answerComes | with_reducible apply rf_bcL | with_reducible apply rf_bc1)); done) | with_reducible exact rg_and _ _ | (with_reducible refine rg_num ?_ ⟨by omega, by omega⟩; (repeat (first | assumption | with_reducible apply rf_up | with_reducible apply rf_setm | with_reducible apply rf_mI | with_reducible apply rf_begins | with_reducible apply rf_writes | with_reducible apply rf_drops | with_reducible apply rf_commitL | with_reducible apply rf_commits | with_reducible apply rf_lost | with_reducible apply rf_sweepL | with_reducible apply rf_sweep1 | with_reducible apply rf_sweeps | with_reducible apply rf_sends0 | with_reducible apply rf_sendsA | with_reducible apply rf_pack | with_reducible apply rf_sends | with_reducible apply rf_works4 | with_reducible apply rf_works7 | with_reducible apply rf_shift | with_reducible apply rf_works | with_reducible apply rf_answerComes | with_reducible apply rf_bcL | with_reducible apply rf_bc1)); done) | (with_reducible refine rf_at ?_ _; (repeat (first | assumption | with_reducible apply rf_up | with_reducible apply rf_setm | with_reducible apply rf_mI | with_reducible apply rf_begins | with_reducible apply rf_writes | with_reducible apply rf_drops | with_reducible apply rf_commitL | with_reducible apply rf_commits | with_reducible apply rf_lost | with_reducible apply rf_sweepL | with_reducible apply rf_sweep1 | with_reducible apply rf_sweeps | with_reducible apply rf_sends0 | with_reducible apply rf_sendsA | with_reducible apply rf_pack | with_reducible apply rf_sends | with_reducible apply rf_works4 | with_reducible apply rf_works7 | with_reducible apply rf_shift | with_reducible apply rf_works | with_reducible apply rf_answerComes | with_reducible apply rf_bcL | with_reducible apply rf_bc1)); done) | exact ⟨by omega, by omega⟩) (fun h_16 => ?_) (fun h_16 => ?_)
      · skip
        refine r_aload_n hC dX8_batchComes_109 rfl ?_
        refine r_iload_n hC dX8_batchComes_110 rfl ?_
        refine r_iconst hC dX8_batchComes_111 ?_
        refine rM_V0 hC hM dX8_batchComes_112 mi_X8_way se_X8_way ml_X8_101 (rm := rmX8_way) rfl rfl rfl rfl ⟨le_b rfl, le_b rfl⟩ (k_way hfC hM rq ⟨by omega, by omega⟩) ?_ rfl
        refine r_istore_n (lv' := [_, _, _, _, _, _]) hC dX8_batchComes_115 (lt_b rfl) rfl (lt_b rfl) rfl ?_
        refine r_aload_n hC dX8_batchComes_116 rfl ?_
        refine r_iload_n hC dX8_batchComes_117 rfl ?_
        refine rM_V0v hC hM dX8_batchComes_118 mi_X8_takeOff se_X8_takeOff ml_X8_116 (rm := rmX8_takeOff) rfl rfl rfl rfl ⟨le_b rfl, le_b rfl⟩ (k_takeOff hfC hM rq (by rw [q9]; exact h9) ⟨by omega, by omega⟩) ?_ rfl
        obtain ⟨q1, hq1⟩ : ∃ z, z = m_takeOff q b := ⟨_, rfl⟩
        have rq1 : RF q1 := by rw [hq1]; exact rf_takeOff rq (by rw [q9]; exact h9) b
        rw [← hq1]
        refine r_aload_n hC dX8_batchComes_121 rfl ?_
        refine r_iconst hC dX8_batchComes_122 ?_
        refine r_iload_n hC dX8_batchComes_123 rfl ?_
        refine r_iconst hC dX8_batchComes_124 ?_
        refine r_iload_n hC dX8_batchComes_125 rfl ?_
        refine rM_V0v hC hM dX8_batchComes_126 mi_X8_sends se_X8_sends ml_X8_120 (rm := rmX8_sends) rfl rfl rfl rfl ⟨le_b rfl, le_b rfl⟩ (k_sends hfC hM rq1 ⟨by rw [hq1]; unfold m_takeOff; rw [if_pos rfl]; omega, by rw [hq1]; unfold m_takeOff; rw [if_pos rfl]; omega⟩ ⟨by omega, by omega⟩) ?_ rfl
        refine r_vret hC hR dX8_batchComes_129 (le_b rfl) (le_b rfl) ?_
        refine ⟨rfl, ?_⟩
        unfold m_batchComes
        rw [← hcd, show (m_way f b 3).toNat = k by omega, ← hq, hq1]
      · skip
        refine r_aload_n hC dX8_batchComes_19 rfl ?_
        refine r_iload_n hC dX8_batchComes_20 rfl ?_
        refine r_iload_n hC dX8_batchComes_21 rfl ?_
        refine rM_V0 hC hM dX8_batchComes_22 mi_X8_rowOf se_X8_rowOf ml_X8_107 (rm := rmX8_rowOf) rfl rfl rfl rfl ⟨le_b rfl, le_b rfl⟩ (k_rowOf hfC hM rq hn100 ⟨by omega, by omega⟩) ?_ rfl
        have hw := m_rowOf_rg f b k
        have hw2 := hr k (by omega) (by omega)
        rw [← ew] at hw hw2
        refine r_istore (lv' := [_, _, _, _, _, _]) hC dX8_batchComes_25 (lt_b rfl) rfl (lt_b rfl) rfl ?_
        refine r_aload_n hC dX8_batchComes_27 rfl ?_
        refine r_getR (j := 0) hC dX8_batchComes_28 fl_X8_7 rfl rfl hM.o hM.p_row ?_
        refine r_bipush hC dX8_batchComes_31 (by rfl) ?_
        refine rM_ald hC hM (by (repeat (first | assumption | with_reducible apply rf_up | with_reducible apply rf_setm | with_reducible apply rf_mI | with_reducible apply rf_begins | with_reducible apply rf_writes | with_reducible apply rf_drops | with_reducible apply rf_commitL | with_reducible apply rf_commits | with_reducible apply rf_lost | with_reducible apply rf_sweepL | with_reducible apply rf_sweep1 | with_reducible apply rf_sweeps | with_reducible apply rf_sends0 | with_reducible apply rf_sendsA | with_reducible apply rf_pack | with_reducible apply rf_sends | with_reducible apply rf_works4 | with_reducible apply rf_works7 | with_reducible apply rf_shift | with_reducible apply rf_works | with_reducible apply rf_answerComes | with_reducible apply rf_bcL | with_reducible apply rf_bc1))) dX8_batchComes_33 ⟨by omega, by omega⟩ ?_
        refine r_iconst hC dX8_batchComes_34 ?_
        refine r_icmp_ne (t := 61) hC dX8_batchComes_35 (by rfl) (by first | with_reducible exact rg_mI _ _ _ | (with_reducible refine rg_of ?_ _ _; (repeat (first | assumption | with_reducible apply rf_up | with_reducible apply rf_setm | with_reducible apply rf_mI | with_reducible apply rf_begins | with_reducible apply rf_writes | with_reducible apply rf_drops | with_reducible apply rf_commitL | with_reducible apply rf_commits | with_reducible apply rf_lost | with_reducible apply rf_sweepL | with_reducible apply rf_sweep1 | with_reducible apply rf_sweeps | with_reducible apply rf_sends0 | with_reducible apply rf_sendsA | with_reducible apply rf_pack | with_reducible apply rf_sends | with_reducible apply rf_works4 | with_reducible apply rf_works7 | with_reducible apply rf_shift | with_reducible apply rf_works | with_reducible apply rf_answerComes | with_reducible apply rf_bcL | with_reducible apply rf_bc1)); done) | (with_reducible refine rg_its ?_ _ _; (repeat (first | assumption | with_reducible apply rf_up | with_reducible apply rf_setm | with_reducible apply rf_mI | with_reducible apply rf_begins | with_reducible apply rf_writes | with_reducible apply rf_drops | with_reducible apply rf_commitL | with_reducible apply rf_commits | with_reducible apply rf_lost | with_reducible apply rf_sweepL | with_reducible apply rf_sweep1 | with_reducible apply rf_sweeps | with_reducible apply rf_sends0 | with_reducible apply rf_sendsA | with_reducible apply rf_pack | with_reducible apply rf_sends | with_reducible apply rf_works4 | with_reducible apply rf_works7 | with_reducible apply rf_shift | with_reducible apply rf_works | with_reducible apply rf_answerComes | with_reducible apply rf_bcL | with_reducible apply rf_bc1)); done) | (with_reducible refine rg_way ?_ _ _; (repeat (first | assumption | with_reducible apply rf_up | with_reducible apply rf_setm | with_reducible apply rf_mI | with_reducible apply rf_begins | with_reducible apply rf_writes | with_reducible apply rf_drops | with_reducible apply rf_commitL | with_reducible apply rf_commits | with_reducible apply rf_lost | with_reducible apply rf_sweepL | with_reducible apply rf_sweep1 | with_reducible apply rf_sweeps | with_reducible apply rf_sends0 | with_reducible apply rf_sendsA | with_reducible apply rf_pack | with_reducible apply rf_sends | with_reducible apply rf_works4 | with_reducible apply rf_works7 | with_reducible apply rf_shift | with_reducible apply rf_works | with_reducible apply rf_answerComes | with_reducible apply rf_bcL | with_reducible apply rf_bc1)); done) | with_reducible exact rg_and _ _ | (with_reducible refine rg_num ?_ ⟨by omega, by omega⟩; (repeat (first | assumption | with_reducible apply rf_up | with_reducible apply rf_setm | with_reducible apply rf_mI | with_reducible apply rf_begins | with_reducible apply rf_writes | with_reducible apply rf_drops | with_reducible apply rf_commitL | with_reducible apply rf_commits | with_reducible apply rf_lost | with_reducible apply rf_sweepL | with_reducible apply rf_sweep1 | with_reducible apply rf_sweeps | with_reducible apply rf_sends0 | with_reducible apply rf_sendsA | with_reducible apply rf_pack | with_reducible apply rf_sends | with_reducible apply rf_works4 | with_reducible apply rf_works7 | with_reducible apply rf_shift | with_reducible apply rf_works | with_reducible apply rf_answerComes | with_reducible apply rf_bcL | with_reducible apply rf_bc1)); done) | (with_reducible refine rf_at ?_ _; (repeat (first | assumption | with_reducible apply rf_up | with_reducible apply rf_setm | with_reducible apply rf_mI | with_reducible apply rf_begins | with_reducible apply rf_writes | with_reducible apply rf_drops | with_reducible apply rf_commitL | with_reducible apply rf_commits | with_reducible apply rf_lost | with_reducible apply rf_sweepL | with_reducible apply rf_sweep1 | with_reducible apply rf_sweeps | with_reducible apply rf_sends0 | with_reducible apply rf_sendsA | with_reducible apply rf_pack | with_reducible apply rf_sends | with_reducible apply rf_works4 | with_reducible apply rf_works7 | with_reducible apply rf_shift | with_reducible apply rf_works | with_reducible apply rf_answerComes | with_reducible apply rf_bcL | with_reducible apply rf_bc1)); done) | exact ⟨by omega, by omega⟩) (by first | with_reducible exact rg_mI _ _ _ | (with_reducible refine rg_of ?_ _ _; (repeat (first | assumption | with_reducible apply rf_up | with_reducible apply rf_setm | with_reducible apply rf_mI | with_reducible apply rf_begins | with_reducible apply rf_writes | with_reducible apply rf_drops | with_reducible apply rf_commitL | with_reducible apply rf_commits | with_reducible apply rf_lost | with_reducible apply rf_sweepL | with_reducible apply rf_sweep1 | with_reducible apply rf_sweeps | with_reducible apply rf_sends0 | with_reducible apply rf_sendsA | with_reducible apply rf_pack | with_reducible apply rf_sends | with_reducible apply rf_works4 | with_reducible apply rf_works7 | with_reducible apply rf_shift | with_reducible apply rf_works | with_reducible apply rf_answerComes | with_reducible apply rf_bcL | with_reducible apply rf_bc1)); done) | (with_reducible refine rg_its ?_ _ _; (repeat (first | assumption | with_reducible apply rf_up | with_reducible apply rf_setm | with_reducible apply rf_mI | with_reducible apply rf_begins | with_reducible apply rf_writes | with_reducible apply rf_drops | with_reducible apply rf_commitL | with_reducible apply rf_commits | with_reducible apply rf_lost | with_reducible apply rf_sweepL | with_reducible apply rf_sweep1 | with_reducible apply rf_sweeps | with_reducible apply rf_sends0 | with_reducible apply rf_sendsA | with_reducible apply rf_pack | with_reducible apply rf_sends | with_reducible apply rf_works4 | with_reducible apply rf_works7 | with_reducible apply rf_shift | with_reducible apply rf_works | with_reducible apply rf_answerComes | with_reducible apply rf_bcL | with_reducible apply rf_bc1)); done) | (with_reducible refine rg_way ?_ _ _; (repeat (first | assumption | with_reducible apply rf_up | with_reducible apply rf_setm | with_reducible apply rf_mI | with_reducible apply rf_begins | with_reducible apply rf_writes | with_reducible apply rf_drops | with_reducible apply rf_commitL | with_reducible apply rf_commits | with_reducible apply rf_lost | with_reducible apply rf_sweepL | with_reducible apply rf_sweep1 | with_reducible apply rf_sweeps | with_reducible apply rf_sends0 | with_reducible apply rf_sendsA | with_reducible apply rf_pack | with_reducible apply rf_sends | with_reducible apply rf_works4 | with_reducible apply rf_works7 | with_reducible apply rf_shift | with_reducible apply rf_works | with_reducible apply rf_answerComes | with_reducible apply rf_bcL | with_reducible apply rf_bc1)); done) | with_reducible exact rg_and _ _ | (with_reducible refine rg_num ?_ ⟨by omega, by omega⟩; (repeat (first | assumption | with_reducible apply rf_up | with_reducible apply rf_setm | with_reducible apply rf_mI | with_reducible apply rf_begins | with_reducible apply rf_writes | with_reducible apply rf_drops | with_reducible apply rf_commitL | with_reducible apply rf_commits | with_reducible apply rf_lost | with_reducible apply rf_sweepL | with_reducible apply rf_sweep1 | with_reducible apply rf_sweeps | with_reducible apply rf_sends0 | with_reducible apply rf_sendsA | with_reducible apply rf_pack | with_reducible apply rf_sends | with_reducible apply rf_works4 | with_reducible apply rf_works7 | with_reducible apply rf_shift | with_reducible apply rf_works | with_reducible apply rf_answerComes | with_reducible apply rf_bcL | with_reducible apply rf_bc1)); done) | (with_reducible refine rf_at ?_ _; (repeat (first | assumption | with_reducible apply rf_up | with_reducible apply rf_setm | with_reducible apply rf_mI | with_reducible apply rf_begins | with_reducible apply rf_writes | with_reducible apply rf_drops | with_reducible apply rf_commitL | with_reducible apply rf_commits | with_reducible apply rf_lost | with_reducible apply rf_sweepL | with_reducible apply rf_sweep1 | with_reducible apply rf_sweeps | with_reducible apply rf_sends0 | with_reducible apply rf_sendsA | with_reducible apply rf_pack | with_reducible apply rf_sends | with_reducible apply rf_works4 | with_reducible apply rf_works7 | with_reducible apply rf_shift | with_reducible apply rf_works | with_reducible apply rf_answerComes | with_reducible apply rf_bcL | with_reducible apply rf_bc1)); done) | exact ⟨by omega, by omega⟩) (fun h_35 => ?_) (fun h_35 => ?_)
        · skip
          refine r_aload_n hC dX8_batchComes_61 rfl ?_
          refine r_iload_n hC dX8_batchComes_62 rfl ?_
          refine r_aload_n hC dX8_batchComes_63 rfl ?_
          refine r_iload hC dX8_batchComes_64 rfl ?_
          refine rM_V0 hC hM dX8_batchComes_66 mi_X8_numberOf se_X8_numberOf ml_X8_55 (rm := rmX8_numberOf) rfl rfl rfl rfl ⟨le_b rfl, le_b rfl⟩ (k_numberOf hfC hM rq ⟨by omega, by omega⟩) ?_ rfl
          refine rM_V0 hC hM dX8_batchComes_69 mi_X8_remembers se_X8_remembers ml_X8_110 (rm := rmX8_remembers) rfl rfl rfl rfl ⟨le_b rfl, le_b rfl⟩ (k_remembers hfC hM rq hc (rg_num rq ⟨by omega, by omega⟩) ⟨by omega, by omega⟩) ?_ rfl
          refine r_istore (lv' := [_, _, _, _, _, _]) hC dX8_batchComes_72 (lt_b rfl) rfl (lt_b rfl) rfl ?_
          refine r_iload hC dX8_batchComes_74 rfl ?_
          refine r_beq (t := 96) hC dX8_batchComes_76 (by rfl) (fun h_76 => ?_) (fun h_76 => ?_)
          · skip
            refine r_aload_n hC dX8_batchComes_96 rfl ?_
            refine r_iload_n hC dX8_batchComes_97 rfl ?_
            refine r_iload hC dX8_batchComes_98 rfl ?_
            refine rM_V0v hC hM dX8_batchComes_100 mi_X8_works se_X8_works ml_X8_113 (rm := rmX8_works) rfl rfl rfl rfl ⟨le_b rfl, le_b rfl⟩ (k_works hfC hM rq hc ⟨by omega, by omega⟩ qk) ?_ rfl
            refine r_iinc (lv' := [_, _, _, _, _, _]) hC dX8_batchComes_103 rfl (lt_b rfl) rfl (lt_b rfl) rfl ?_
            refine r_goto (t := 9) hC dX8_batchComes_106 (by rfl) ?_
            refine vw_mem ?_ (ih _ (by omega) (k + 1) _ _ rfl (by omega))
            simp only [m_bcL, m_bc1]
            rw [← hq]
            by_cases hz : m_rep q c (m_rowOf q b k) = true
            · rw [if_pos hz] <;> first | rfl | (exfalso; unfold m_rep at hz; first | (rw [if_pos h_35, decide_eq_true_eq] at hz; omega) | (rw [if_neg h_35] at hz; exact h_76 hz))
            · rw [if_neg hz] <;> first | rfl | (exfalso; unfold m_rep at hz; first | (rw [if_pos h_35, decide_eq_true_eq] at hz; omega) | (rw [if_neg h_35] at hz; exact hz h_76))
          · skip
            refine r_aload_n hC dX8_batchComes_79 rfl ?_
            refine r_iload_n hC dX8_batchComes_80 rfl ?_
            refine r_iconst hC dX8_batchComes_81 ?_
            refine r_aload_n hC dX8_batchComes_82 rfl ?_
            refine r_iload_n hC dX8_batchComes_83 rfl ?_
            refine r_iconst hC dX8_batchComes_84 ?_
            refine rM_V0 hC hM dX8_batchComes_85 mi_X8_of se_X8_of ml_X8_58 (rm := rmX8_of) rfl rfl rfl rfl ⟨le_b rfl, le_b rfl⟩ (k_of hfC hM rq ⟨by omega, by omega⟩) ?_ rfl
            refine r_iconst hC dX8_batchComes_88 ?_
            refine r_iadd hC dX8_batchComes_89 ?_
            refine rM_V0v hC hM dX8_batchComes_90 mi_X8_lay se_X8_lay ml_X8_31 (rm := rmX8_lay) rfl rfl rfl rfl ⟨le_b rfl, le_b rfl⟩ (k_lay hfC hM rq ⟨by omega, by omega⟩) ?_ rfl
            refine r_goto (t := 103) hC dX8_batchComes_93 (by rfl) ?_
            refine r_iinc (lv' := [_, _, _, _, _, _]) hC dX8_batchComes_103 rfl (lt_b rfl) rfl (lt_b rfl) rfl ?_
            refine r_goto (t := 9) hC dX8_batchComes_106 (by rfl) ?_
            refine vw_mem ?_ (ih _ (by omega) (k + 1) _ _ rfl (by omega))
            simp only [m_bcL, m_bc1]
            rw [← hq]
            by_cases hz : m_rep q c (m_rowOf q b k) = true
            · rw [if_pos hz] <;> first | rfl | (exfalso; unfold m_rep at hz; first | (rw [if_pos h_35, decide_eq_true_eq] at hz; omega) | (rw [if_neg h_35] at hz; exact h_76 hz))
            · rw [if_neg hz] <;> first | rfl | (exfalso; unfold m_rep at hz; first | (rw [if_pos h_35, decide_eq_true_eq] at hz; omega) | (rw [if_neg h_35] at hz; exact hz h_76))
        · skip
          refine r_aload_n hC dX8_batchComes_38 rfl ?_
          refine r_iload hC dX8_batchComes_39 rfl ?_
          refine rM_V0 hC hM dX8_batchComes_41 mi_X8_numberOf se_X8_numberOf ml_X8_55 (rm := rmX8_numberOf) rfl rfl rfl rfl ⟨le_b rfl, le_b rfl⟩ (k_numberOf hfC hM rq ⟨by omega, by omega⟩) ?_ rfl
          refine r_aload_n hC dX8_batchComes_44 rfl ?_
          refine r_iload_n hC dX8_batchComes_45 rfl ?_
          refine r_iconst hC dX8_batchComes_46 ?_
          refine rM_V0 hC hM dX8_batchComes_47 mi_X8_of se_X8_of ml_X8_58 (rm := rmX8_of) rfl rfl rfl rfl ⟨le_b rfl, le_b rfl⟩ (k_of hfC hM rq ⟨by omega, by omega⟩) ?_ rfl
          refine r_icmp_gt (t := 57) hC dX8_batchComes_50 (by rfl) (rg_num rq ⟨by omega, by omega⟩) (by first | with_reducible exact rg_mI _ _ _ | (with_reducible refine rg_of ?_ _ _; (repeat (first | assumption | with_reducible apply rf_up | with_reducible apply rf_setm | with_reducible apply rf_mI | with_reducible apply rf_begins | with_reducible apply rf_writes | with_reducible apply rf_drops | with_reducible apply rf_commitL | with_reducible apply rf_commits | with_reducible apply rf_lost | with_reducible apply rf_sweepL | with_reducible apply rf_sweep1 | with_reducible apply rf_sweeps | with_reducible apply rf_sends0 | with_reducible apply rf_sendsA | with_reducible apply rf_pack | with_reducible apply rf_sends | with_reducible apply rf_works4 | with_reducible apply rf_works7 | with_reducible apply rf_shift | with_reducible apply rf_works | with_reducible apply rf_answerComes | with_reducible apply rf_bcL | with_reducible apply rf_bc1)); done) | (with_reducible refine rg_its ?_ _ _; (repeat (first | assumption | with_reducible apply rf_up | with_reducible apply rf_setm | with_reducible apply rf_mI | with_reducible apply rf_begins | with_reducible apply rf_writes | with_reducible apply rf_drops | with_reducible apply rf_commitL | with_reducible apply rf_commits | with_reducible apply rf_lost | with_reducible apply rf_sweepL | with_reducible apply rf_sweep1 | with_reducible apply rf_sweeps | with_reducible apply rf_sends0 | with_reducible apply rf_sendsA | with_reducible apply rf_pack | with_reducible apply rf_sends | with_reducible apply rf_works4 | with_reducible apply rf_works7 | with_reducible apply rf_shift | with_reducible apply rf_works | with_reducible apply rf_answerComes | with_reducible apply rf_bcL | with_reducible apply rf_bc1)); done) | (with_reducible refine rg_way ?_ _ _; (repeat (first | assumption | with_reducible apply rf_up | with_reducible apply rf_setm | with_reducible apply rf_mI | with_reducible apply rf_begins | with_reducible apply rf_writes | with_reducible apply rf_drops | with_reducible apply rf_commitL | with_reducible apply rf_commits | with_reducible apply rf_lost | with_reducible apply rf_sweepL | with_reducible apply rf_sweep1 | with_reducible apply rf_sweeps | with_reducible apply rf_sends0 | with_reducible apply rf_sendsA | with_reducible apply rf_pack | with_reducible apply rf_sends | with_reducible apply rf_works4 | with_reducible apply rf_works7 | with_reducible apply rf_shift | with_reducible apply rf_works | with_reducible apply rf_answerComes | with_reducible apply rf_bcL | with_reducible apply rf_bc1)); done) | with_reducible exact rg_and _ _ | (with_reducible refine rg_num ?_ ⟨by omega, by omega⟩; (repeat (first | assumption | with_reducible apply rf_up | with_reducible apply rf_setm | with_reducible apply rf_mI | with_reducible apply rf_begins | with_reducible apply rf_writes | with_reducible apply rf_drops | with_reducible apply rf_commitL | with_reducible apply rf_commits | with_reducible apply rf_lost | with_reducible apply rf_sweepL | with_reducible apply rf_sweep1 | with_reducible apply rf_sweeps | with_reducible apply rf_sends0 | with_reducible apply rf_sendsA | with_reducible apply rf_pack | with_reducible apply rf_sends | with_reducible apply rf_works4 | with_reducible apply rf_works7 | with_reducible apply rf_shift | with_reducible apply rf_works | with_reducible apply rf_answerComes | with_reducible apply rf_bcL | with_reducible apply rf_bc1)); done) | (with_reducible refine rf_at ?_ _; (repeat (first | assumption | with_reducible apply rf_up | with_reducible apply rf_setm | with_reducible apply rf_mI | with_reducible apply rf_begins | with_reducible apply rf_writes | with_reducible apply rf_drops | with_reducible apply rf_commitL | with_reducible apply rf_commits | with_reducible apply rf_lost | with_reducible apply rf_sweepL | with_reducible apply rf_sweep1 | with_reducible apply rf_sweeps | with_reducible apply rf_sends0 | with_reducible apply rf_sendsA | with_reducible apply rf_pack | with_reducible apply rf_sends | with_reducible apply rf_works4 | with_reducible apply rf_works7 | with_reducible apply rf_shift | with_reducible apply rf_works | with_reducible apply rf_answerComes | with_reducible apply rf_bcL | with_reducible apply rf_bc1)); done) | exact ⟨by omega, by omega⟩) (fun h_50 => ?_) (fun h_50 => ?_)
          · skip
            refine r_iconst hC dX8_batchComes_57 ?_
            refine r_goto (t := 72) hC dX8_batchComes_58 (by rfl) ?_
            refine r_istore (lv' := [_, _, _, _, _, _]) hC dX8_batchComes_72 (lt_b rfl) rfl (lt_b rfl) rfl ?_
            refine r_iload hC dX8_batchComes_74 rfl ?_
            refine r_if_eq (t := 96) hC dX8_batchComes_76 (by rfl) (by first | with_reducible exact rg_mI _ _ _ | (with_reducible refine rg_of ?_ _ _; (repeat (first | assumption | with_reducible apply rf_up | with_reducible apply rf_setm | with_reducible apply rf_mI | with_reducible apply rf_begins | with_reducible apply rf_writes | with_reducible apply rf_drops | with_reducible apply rf_commitL | with_reducible apply rf_commits | with_reducible apply rf_lost | with_reducible apply rf_sweepL | with_reducible apply rf_sweep1 | with_reducible apply rf_sweeps | with_reducible apply rf_sends0 | with_reducible apply rf_sendsA | with_reducible apply rf_pack | with_reducible apply rf_sends | with_reducible apply rf_works4 | with_reducible apply rf_works7 | with_reducible apply rf_shift | with_reducible apply rf_works | with_reducible apply rf_answerComes | with_reducible apply rf_bcL | with_reducible apply rf_bc1)); done) | (with_reducible refine rg_its ?_ _ _; (repeat (first | assumption | with_reducible apply rf_up | with_reducible apply rf_setm | with_reducible apply rf_mI | with_reducible apply rf_begins | with_reducible apply rf_writes | with_reducible apply rf_drops | with_reducible apply rf_commitL | with_reducible apply rf_commits | with_reducible apply rf_lost | with_reducible apply rf_sweepL | with_reducible apply rf_sweep1 | with_reducible apply rf_sweeps | with_reducible apply rf_sends0 | with_reducible apply rf_sendsA | with_reducible apply rf_pack | with_reducible apply rf_sends | with_reducible apply rf_works4 | with_reducible apply rf_works7 | with_reducible apply rf_shift | with_reducible apply rf_works | with_reducible apply rf_answerComes | with_reducible apply rf_bcL | with_reducible apply rf_bc1)); done) | (with_reducible refine rg_way ?_ _ _; (repeat (first | assumption | with_reducible apply rf_up | with_reducible apply rf_setm | with_reducible apply rf_mI | with_reducible apply rf_begins | with_reducible apply rf_writes | with_reducible apply rf_drops | with_reducible apply rf_commitL | with_reducible apply rf_commits | with_reducible apply rf_lost | with_reducible apply rf_sweepL | with_reducible apply rf_sweep1 | with_reducible apply rf_sweeps | with_reducible apply rf_sends0 | with_reducible apply rf_sendsA | with_reducible apply rf_pack | with_reducible apply rf_sends | with_reducible apply rf_works4 | with_reducible apply rf_works7 | with_reducible apply rf_shift | with_reducible apply rf_works | with_reducible apply rf_answerComes | with_reducible apply rf_bcL | with_reducible apply rf_bc1)); done) | with_reducible exact rg_and _ _ | (with_reducible refine rg_num ?_ ⟨by omega, by omega⟩; (repeat (first | assumption | with_reducible apply rf_up | with_reducible apply rf_setm | with_reducible apply rf_mI | with_reducible apply rf_begins | with_reducible apply rf_writes | with_reducible apply rf_drops | with_reducible apply rf_commitL | with_reducible apply rf_commits | with_reducible apply rf_lost | with_reducible apply rf_sweepL | with_reducible apply rf_sweep1 | with_reducible apply rf_sweeps | with_reducible apply rf_sends0 | with_reducible apply rf_sendsA | with_reducible apply rf_pack | with_reducible apply rf_sends | with_reducible apply rf_works4 | with_reducible apply rf_works7 | with_reducible apply rf_shift | with_reducible apply rf_works | with_reducible apply rf_answerComes | with_reducible apply rf_bcL | with_reducible apply rf_bc1)); done) | (with_reducible refine rf_at ?_ _; (repeat (first | assumption | with_reducible apply rf_up | with_reducible apply rf_setm | with_reducible apply rf_mI | with_reducible apply rf_begins | with_reducible apply rf_writes | with_reducible apply rf_drops | with_reducible apply rf_commitL | with_reducible apply rf_commits | with_reducible apply rf_lost | with_reducible apply rf_sweepL | with_reducible apply rf_sweep1 | with_reducible apply rf_sweeps | with_reducible apply rf_sends0 | with_reducible apply rf_sendsA | with_reducible apply rf_pack | with_reducible apply rf_sends | with_reducible apply rf_works4 | with_reducible apply rf_works7 | with_reducible apply rf_shift | with_reducible apply rf_works | with_reducible apply rf_answerComes | with_reducible apply rf_bcL | with_reducible apply rf_bc1)); done) | exact ⟨by omega, by omega⟩) (fun h_76 => ?_) (fun h_76 => (by omega))
            refine r_aload_n hC dX8_batchComes_96 rfl ?_
            refine r_iload_n hC dX8_batchComes_97 rfl ?_
            refine r_iload hC dX8_batchComes_98 rfl ?_
            refine rM_V0v hC hM dX8_batchComes_100 mi_X8_works se_X8_works ml_X8_113 (rm := rmX8_works) rfl rfl rfl rfl ⟨le_b rfl, le_b rfl⟩ (k_works hfC hM rq hc ⟨by omega, by omega⟩ qk) ?_ rfl
            refine r_iinc (lv' := [_, _, _, _, _, _]) hC dX8_batchComes_103 rfl (lt_b rfl) rfl (lt_b rfl) rfl ?_
            refine r_goto (t := 9) hC dX8_batchComes_106 (by rfl) ?_
            refine vw_mem ?_ (ih _ (by omega) (k + 1) _ _ rfl (by omega))
            simp only [m_bcL, m_bc1]
            rw [← hq]
            by_cases hz : m_rep q c (m_rowOf q b k) = true
            · rw [if_pos hz] <;> first | rfl | (exfalso; unfold m_rep at hz; first | (rw [if_pos h_35, decide_eq_true_eq] at hz; omega) | (rw [if_neg h_35] at hz; exact h_76 hz))
            · rw [if_neg hz] <;> first | rfl | (exfalso; unfold m_rep at hz; first | (rw [if_pos h_35, decide_eq_true_eq] at hz; omega) | (rw [if_neg h_35] at hz; exact hz h_76))
          · skip
            refine r_iconst hC dX8_batchComes_53 ?_
            refine r_goto (t := 72) hC dX8_batchComes_54 (by rfl) ?_
            refine r_istore (lv' := [_, _, _, _, _, _]) hC dX8_batchComes_72 (lt_b rfl) rfl (lt_b rfl) rfl ?_
            refine r_iload hC dX8_batchComes_74 rfl ?_
            refine r_if_eq (t := 96) hC dX8_batchComes_76 (by rfl) (by first | with_reducible exact rg_mI _ _ _ | (with_reducible refine rg_of ?_ _ _; (repeat (first | assumption | with_reducible apply rf_up | with_reducible apply rf_setm | with_reducible apply rf_mI | with_reducible apply rf_begins | with_reducible apply rf_writes | with_reducible apply rf_drops | with_reducible apply rf_commitL | with_reducible apply rf_commits | with_reducible apply rf_lost | with_reducible apply rf_sweepL | with_reducible apply rf_sweep1 | with_reducible apply rf_sweeps | with_reducible apply rf_sends0 | with_reducible apply rf_sendsA | with_reducible apply rf_pack | with_reducible apply rf_sends | with_reducible apply rf_works4 | with_reducible apply rf_works7 | with_reducible apply rf_shift | with_reducible apply rf_works | with_reducible apply rf_answerComes | with_reducible apply rf_bcL | with_reducible apply rf_bc1)); done) | (with_reducible refine rg_its ?_ _ _; (repeat (first | assumption | with_reducible apply rf_up | with_reducible apply rf_setm | with_reducible apply rf_mI | with_reducible apply rf_begins | with_reducible apply rf_writes | with_reducible apply rf_drops | with_reducible apply rf_commitL | with_reducible apply rf_commits | with_reducible apply rf_lost | with_reducible apply rf_sweepL | with_reducible apply rf_sweep1 | with_reducible apply rf_sweeps | with_reducible apply rf_sends0 | with_reducible apply rf_sendsA | with_reducible apply rf_pack | with_reducible apply rf_sends | with_reducible apply rf_works4 | with_reducible apply rf_works7 | with_reducible apply rf_shift | with_reducible apply rf_works | with_reducible apply rf_answerComes | with_reducible apply rf_bcL | with_reducible apply rf_bc1)); done) | (with_reducible refine rg_way ?_ _ _; (repeat (first | assumption | with_reducible apply rf_up | with_reducible apply rf_setm | with_reducible apply rf_mI | with_reducible apply rf_begins | with_reducible apply rf_writes | with_reducible apply rf_drops | with_reducible apply rf_commitL | with_reducible apply rf_commits | with_reducible apply rf_lost | with_reducible apply rf_sweepL | with_reducible apply rf_sweep1 | with_reducible apply rf_sweeps | with_reducible apply rf_sends0 | with_reducible apply rf_sendsA | with_reducible apply rf_pack | with_reducible apply rf_sends | with_reducible apply rf_works4 | with_reducible apply rf_works7 | with_reducible apply rf_shift | with_reducible apply rf_works | with_reducible apply rf_answerComes | with_reducible apply rf_bcL | with_reducible apply rf_bc1)); done) | with_reducible exact rg_and _ _ | (with_reducible refine rg_num ?_ ⟨by omega, by omega⟩; (repeat (first | assumption | with_reducible apply rf_up | with_reducible apply rf_setm | with_reducible apply rf_mI | with_reducible apply rf_begins | with_reducible apply rf_writes | with_reducible apply rf_drops | with_reducible apply rf_commitL | with_reducible apply rf_commits | with_reducible apply rf_lost | with_reducible apply rf_sweepL | with_reducible apply rf_sweep1 | with_reducible apply rf_sweeps | with_reducible apply rf_sends0 | with_reducible apply rf_sendsA | with_reducible apply rf_pack | with_reducible apply rf_sends | with_reducible apply rf_works4 | with_reducible apply rf_works7 | with_reducible apply rf_shift | with_reducible apply rf_works | with_reducible apply rf_answerComes | with_reducible apply rf_bcL | with_reducible apply rf_bc1)); done) | (with_reducible refine rf_at ?_ _; (repeat (first | assumption | with_reducible apply rf_up | with_reducible apply rf_setm | with_reducible apply rf_mI | with_reducible apply rf_begins | with_reducible apply rf_writes | with_reducible apply rf_drops | with_reducible apply rf_commitL | with_reducible apply rf_commits | with_reducible apply rf_lost | with_reducible apply rf_sweepL | with_reducible apply rf_sweep1 | with_reducible apply rf_sweeps | with_reducible apply rf_sends0 | with_reducible apply rf_sendsA | with_reducible apply rf_pack | with_reducible apply rf_sends | with_reducible apply rf_works4 | with_reducible apply rf_works7 | with_reducible apply rf_shift | with_reducible apply rf_works | with_reducible apply rf_answerComes | with_reducible apply rf_bcL | with_reducible apply rf_bc1)); done) | exact ⟨by omega, by omega⟩) (fun h_76 => (by omega)) (fun h_76 => ?_)
            refine r_aload_n hC dX8_batchComes_79 rfl ?_
            refine r_iload_n hC dX8_batchComes_80 rfl ?_
            refine r_iconst hC dX8_batchComes_81 ?_
            refine r_aload_n hC dX8_batchComes_82 rfl ?_
            refine r_iload_n hC dX8_batchComes_83 rfl ?_
            refine r_iconst hC dX8_batchComes_84 ?_
            refine rM_V0 hC hM dX8_batchComes_85 mi_X8_of se_X8_of ml_X8_58 (rm := rmX8_of) rfl rfl rfl rfl ⟨le_b rfl, le_b rfl⟩ (k_of hfC hM rq ⟨by omega, by omega⟩) ?_ rfl
            refine r_iconst hC dX8_batchComes_88 ?_
            refine r_iadd hC dX8_batchComes_89 ?_
            refine rM_V0v hC hM dX8_batchComes_90 mi_X8_lay se_X8_lay ml_X8_31 (rm := rmX8_lay) rfl rfl rfl rfl ⟨le_b rfl, le_b rfl⟩ (k_lay hfC hM rq ⟨by omega, by omega⟩) ?_ rfl
            refine r_goto (t := 103) hC dX8_batchComes_93 (by rfl) ?_
            refine r_iinc (lv' := [_, _, _, _, _, _]) hC dX8_batchComes_103 rfl (lt_b rfl) rfl (lt_b rfl) rfl ?_
            refine r_goto (t := 9) hC dX8_batchComes_106 (by rfl) ?_
            refine vw_mem ?_ (ih _ (by omega) (k + 1) _ _ rfl (by omega))
            simp only [m_bcL, m_bc1]
            rw [← hq]
            by_cases hz : m_rep q c (m_rowOf q b k) = true
            · rw [if_pos hz] <;> first | rfl | (exfalso; unfold m_rep at hz; first | (rw [if_pos h_35, decide_eq_true_eq] at hz; omega) | (rw [if_neg h_35] at hz; exact h_76 hz))
            · rw [if_neg hz] <;> first | rfl | (exfalso; unfold m_rep at hz; first | (rw [if_pos h_35, decide_eq_true_eq] at hz; omega) | (rw [if_neg h_35] at hz; exact hz h_76))
  show VW C 0 [some (xA m), some (xI b), none, none, none, none] [] (sA u (m + 1) f) 0 0
  refine r_aload_n hC dX8_batchComes_0 rfl ?_
  refine r_iload_n hC dX8_batchComes_1 rfl ?_
  refine r_iconst hC dX8_batchComes_2 ?_
  refine rM_V0 hC hM dX8_batchComes_3 mi_X8_way se_X8_way ml_X8_101 (rm := rmX8_way) rfl rfl rfl rfl ⟨le_b rfl, le_b rfl⟩ (k_way hfC hM hf ⟨by omega, by omega⟩) ?_ rfl
  rw [← hcd]
  refine r_istore_n (lv' := [_, _, _, _, _, _]) hC dX8_batchComes_6 (lt_b rfl) rfl (lt_b rfl) rfl ?_
  refine r_iconst hC dX8_batchComes_7 ?_
  refine r_istore_n (lv' := [_, _, _, _, _, _]) hC dX8_batchComes_8 (lt_b rfl) rfl (lt_b rfl) rfl ?_
  exact lp _ 0 _ _ rfl (by omega)

