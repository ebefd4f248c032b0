/-! the looks -/
theorem vals_at {u : Mem} {b : Nat} {r : RW} {p : Int} (h : RSt u b r p) : ∀ n : Nat, (n : Int) ≤ m_its r p 1 → c_sumL u b n = m_valsL r p n := by
  intro n
  induction n with
  | zero => intro _; rfl
  | succ n ih =>
    intro hn
    simp only [c_sumL, m_valsL]
    rw [ih (by omega), (h.2.2 n (by omega)).2.2]
theorem tell_tr {u : Mem} {a : Nat} {f : RW} (hS : RS u a f) (hB : IB f) {p : Nat} (hp : p < 4) {w : Int} (hw : 0 ≤ w ∧ w ≤ 2) : (if mI u (a + 3 + 4 * p) 3 = 0 then -1 else if w = 0 then mI u (a + 3 + 4 * p) 4 else if w = 1 then (if mI u (a + 3 + 4 * p) 4 = 0 then -1 else mI u (a + 3 + 4 * p + 1) 0) else c_sumL u (a + 3 + 4 * p) (mI u (a + 3 + 4 * p) 4).toNat) = m_transV f p w := by
  have ht := hS.t hp
  have hP := hB.pl p hp
  have hv := vals_at ht (m_its f p 1).toNat (by omega)
  obtain ⟨h3, h4, hi⟩ := ht
  unfold m_transV
  rcases hP.1 with h | h
  · have ho : m_open f p = false := by unfold m_open; rw [h]; simp
    rw [if_pos ho, h3, if_pos h]
  · have ho : m_open f p = true := by unfold m_open; rw [h]; simp; omega
    rw [h3, if_neg (show ¬ m_its f (p : Int) 0 = 0 by omega), h4, if_neg (show ¬ m_open f (p : Int) = false by rw [ho]; decide)]
    by_cases w0 : w = 0
    · rw [if_pos w0, if_pos w0]
    · rw [if_neg w0, if_neg w0]
      by_cases w1 : w = 1
      · rw [if_pos w1, if_neg (show ¬ w = 2 by omega)]
        by_cases z : m_its f p 1 = 0
        · rw [if_pos z, if_pos z]
        · rw [if_neg z, if_neg z]
          have := (hi 0 (by omega)).1
          simpa using this
      · rw [if_neg w1, if_pos (show w = 2 by omega), hv]; rfl
theorem tell_ms {u : Mem} {q : Nat} {f : RW} {n w : Int} (h : RSm u q f n) : (if w = 0 then mI u q 1 else if w = 1 then mI u q 2 else if w = 2 then mI u q 3 - f 0 else if w = 3 then mI u q 4 else mI u q 5) = m_msgV f n w := by
  obtain ⟨h1, h2, h3, h4, h5, -⟩ := h
  unfold m_msgV
  rw [h1, h2, h3, h4, h5]
theorem since_at {u : Mem} {b o : Nat} {g f : RW} {c w : Int} (h : RSc u b g c) (k : RSc u o f c) (hw : 0 ≤ w ∧ w ≤ 3) : (if w = 0 then mI u b 4 - mI u o 4 else if w = 1 then mI u b 6 - mI u o 6 else if w = 2 then mI u b 7 - mI u o 7 else mI u b 10) = m_of g c (m_aix2 w) - m_bef f c w := by
  obtain ⟨h1, h2, h3, h4, h5, h6, h7, h8, h9, h10, -⟩ := h
  obtain ⟨k1, k2, k3, k4, k5, k6, k7, k8, k9, k10, -⟩ := k
  unfold m_aix2 m_bef m_aix
  by_cases w0 : w = 0
  · rw [if_pos w0, if_pos w0, if_neg (by omega), if_pos w0, h4, k4]
  · rw [if_neg w0, if_neg w0]
    by_cases w1 : w = 1
    · rw [if_pos w1, if_pos w1, if_neg (by omega), if_neg w0, if_pos w1, h6, k6]
    · rw [if_neg w1, if_neg w1]
      by_cases w2 : w = 2
      · rw [if_pos w2, if_pos w2, if_neg (by omega), if_neg w0, if_neg w1, h7, k7]
      · rw [if_neg w2, if_neg w2, if_pos (by omega), h10]; omega
/-- the row of a rank -/
theorem rank_at {u : Mem} {a : Nat} {f : RW} (hS : RS u a f) (hB : IB f) {k : Nat} (hk : (k : Int) < m_kept f) : ∃ j : Nat, mI u (a + 19 + 7) k = j ∧ (j : Int) < f 2 ∧ m_keptAt f k = j := by
  obtain ⟨o, hO, ho⟩ := hS.r.2.2.2.2
  have hk' : k < (m_kept f).toNat := by omega
  exact ⟨o k, ho k hk', (hO.1 k hk').1, keptAt_at hO (fun j hj => num_pos hB.ro (hO.1 j hj).1) k hk'⟩
/-- the message of a rank -/
theorem mrank_at {u : Mem} {a : Nat} {f : RW} (hS : RS u a f) (hB : IB f) {k : Nat} (hk : (k : Int) < f 9) : mP u (a + 34 + 1) k = some (qa u (a + 34) k) ∧ MsO u (qa u (a + 34) k) ∧ RSm u (qa u (a + 34) k) f (m_ranked f k) := by
  obtain ⟨s, h1, h2⟩ := hS.l.2.2.2.2.2.2
  have hni := hB.ni
  have hk' : k < (f 9).toNat := by omega
  exact ⟨hS.o.l.pq (by omega), hS.o.l.mq (by omega), by rw [ranked_at rfl h1 k hk']; exact h2 k hk'⟩
abbrev rmX7_row : Room := { frames := 6, cells := 1, slots := 6, locals := 88 }
set_option maxRecDepth 100000 in
theorem k_Rl_row {l : Launch} {D : DD} (hfl : l.stackTraces = false) {u : Mem} {x : Nat} {f : RW} {s : Int} {P : RW} {kp : Int} {K : RW} {T : Int} (hX0 : RX u x f s P kp K T) {i w : Int} (hi : rg i) (hw : rg w) : CTX l D yX7_row cX7_row 3 (some .int) rmX7_row [xA x, xI i, xI w] u (xP (q_row f i w) (RT (xI (m_rowV f (m_keptAt f i.toNat) w)) u)) (xQ u (q_row f i w) [xIO, xIA]) := by
  refine CTX.of hfl (by decide) (le_b rfl) ?_
  intro C hC hR hX hL hDD hN
  have hfC : (cxL C).stackTraces = false := by rw [hL]; exact hfl
  show VW C 0 [some (xA x), some (xI i), some (xI w)] [] u 0 0
  have hkr : rg (m_kept f) := by
    have := hX0.2.2.1.2.b.co.1
    have := hX0.2.2.1.2.b.co.2.1
    unfold m_kept
    exact ⟨by omega, by omega⟩
  refine r_iload_n hC dX7_row_0 rfl ?_
  refine r_aload_n hC dX7_row_1 rfl ?_
  refine r_getR (j := 0) hC dX7_row_2 fl_X7_10 rfl rfl hX0.1.1 hX0.1.2.1 ?_
  refine r_getR (j := 2) hC dX7_row_5 fl_X7_90 rfl rfl hX0.2.2.1.1.o.o hX0.2.2.1.1.o.p2 ?_
  refine r_getIv (j := 8) (v := m_kept f) hC dX7_row_8 fl_X7_94 rfl rfl hX0.2.2.1.1.o.r.o hX0.2.2.1.1.r.2.1 ?_
  refine r_S0 hC dX7_row_11 mi_X7_isBelow ss_X7_isBelow ml_X7_63 (rm := rmX7_isBelow) rfl rfl rfl ⟨le_b rfl, le_b rfl⟩ (k_isBelow hfC hi hkr) ?_ rfl
  refine r_bne (t := 27) hC dX7_row_14 (by rfl) (fun h_14 => ?_) (fun h_14 => ?_)
  · skip
    refine r_iload_n hC dX7_row_27 rfl ?_
    refine r_bipush hC dX7_row_28 (by rfl) ?_
    refine r_S0 hC dX7_row_30 mi_X7_isBelow ss_X7_isBelow ml_X7_63 (rm := rmX7_isBelow) rfl rfl rfl ⟨le_b rfl, le_b rfl⟩ (k_isBelow hfC hw ⟨by decide, by decide⟩) ?_ rfl
    refine r_bne (t := 46) hC dX7_row_33 (by rfl) (fun h_33 => ?_) (fun h_33 => ?_)
    · skip
      have hik : 0 ≤ i ∧ i < m_kept f := h_14
      have hw8 : 0 ≤ w ∧ w < 8 := h_33
      obtain ⟨k, rfl⟩ : ∃ k : Nat, i = k := ⟨i.toNat, by omega⟩
      obtain ⟨j, j1, j2, j3⟩ := rank_at hX0.2.2.1.1 hX0.2.2.1.2.b (by omega : (k : Int) < m_kept f)
      refine r_aload_n hC dX7_row_46 rfl ?_
      refine r_getR (j := 0) hC dX7_row_47 fl_X7_10 rfl rfl hX0.1.1 hX0.1.2.1 ?_
      refine r_aload_n hC dX7_row_50 rfl ?_
      refine r_getR (j := 0) hC dX7_row_51 fl_X7_10 rfl rfl hX0.1.1 hX0.1.2.1 ?_
      refine r_getR (j := 2) hC dX7_row_54 fl_X7_90 rfl rfl hX0.2.2.1.1.o.o hX0.2.2.1.1.o.p2 ?_
      refine r_getR (j := 6) hC dX7_row_57 fl_X7_198 rfl rfl hX0.2.2.1.1.o.r.o hX0.2.2.1.1.o.r.p6 ?_
      refine r_iload_n hC dX7_row_60 rfl ?_
      refine r_ialdv (v := (j : Int)) hC dX7_row_61 hX0.2.2.1.1.o.r.a6 ⟨by omega, by have := hX0.2.2.1.2.co.2.2.1; omega⟩ j1 ?_
      refine r_iload_n hC dX7_row_62 rfl ?_
      refine r_V0 hC dX7_row_63 mi_X5_rowNumber se_X5_rowNumber ml_X7_201 (rm := rmX5_rowNumber) rfl hX0.2.2.1.1.o.o rfl rfl rfl rfl ⟨le_b rfl, le_b rfl⟩ (k_St_rowNum hfC hX0.2.2.1.1 hX0.2.2.1.2.b (k := j) j2 ⟨hw8.1, by omega⟩) ?_ rfl
      refine r_iret hC hR dX7_row_66 (le_b rfl) (le_b rfl) ?_
      exact ⟨by unfold q_row; rw [if_neg (fun h => h ⟨by omega, by omega⟩), if_neg (fun h => h ⟨by omega, by omega⟩)], by rw [Int.toNat_natCast, j3], rfl⟩
    · skip
      refine r_throw hC hX 1 (lt_b rfl) tx_196 rfl dX7_row_36 dX7_row_39 dX7_row_40 dX7_row_42 dX7_row_45 ⟨le_b rfl, le_b rfl⟩ (le_b rfl) (le_b rfl) (fun n1 hn1 => ?_)
      have hik : 0 ≤ i ∧ i < m_kept f := h_14
      exact ⟨⟨1, by unfold q_row; rw [if_neg (fun h => h ⟨by omega, by omega⟩), if_pos (fun h => h_33 ⟨h.1, by omega⟩)]; rfl, rfl⟩, n1, hn1, rfl⟩
  · skip
    refine r_throw hC hX 2 (lt_b rfl) tx_194 rfl dX7_row_17 dX7_row_20 dX7_row_21 dX7_row_23 dX7_row_26 ⟨le_b rfl, le_b rfl⟩ (le_b rfl) (le_b rfl) (fun n1 hn1 => ?_)
    exact ⟨⟨0, by unfold q_row; rw [if_pos (fun h => h_14 ⟨h.1, by omega⟩)]; rfl, rfl⟩, n1, hn1, rfl⟩

abbrev rmX7_transaction : Room := { frames := 6, cells := 1, slots := 6, locals := 82 }
set_option maxRecDepth 100000 in
theorem k_Rl_transaction {l : Launch} {D : DD} (hfl : l.stackTraces = false) {u : Mem} {x : Nat} {f : RW} {s : Int} {P : RW} {kp : Int} {K : RW} {T : Int} (hX0 : RX u x f s P kp K T) {p w : Int} (hp : rg p) (hw : rg w) : CTX l D yX7_transaction cX7_transaction 3 (some .int) rmX7_transaction [xA x, xI p, xI w] u (xP (q_trans p w) (RT (xI (m_transV f p w)) u)) (xQ u (q_trans p w) [xIO, xIA]) := by
  refine CTX.of hfl (by decide) (le_b rfl) ?_
  intro C hC hR hX hL hDD hN
  have hfC : (cxL C).stackTraces = false := by rw [hL]; exact hfl
  show VW C 0 [some (xA x), some (xI p), some (xI w)] [] u 0 0
  refine r_iload_n hC dX7_transaction_0 rfl ?_
  refine r_iconst hC dX7_transaction_1 ?_
  refine r_S0 hC dX7_transaction_2 mi_X7_isBelow ss_X7_isBelow ml_X7_63 (rm := rmX7_isBelow) rfl rfl rfl ⟨le_b rfl, le_b rfl⟩ (k_isBelow hfC hp ⟨by decide, by decide⟩) ?_ rfl
  refine r_bne (t := 18) hC dX7_transaction_5 (by rfl) (fun h_5 => ?_) (fun h_5 => ?_)
  · skip
    refine r_iload_n hC dX7_transaction_18 rfl ?_
    refine r_iconst hC dX7_transaction_19 ?_
    refine r_S0 hC dX7_transaction_20 mi_X7_isBelow ss_X7_isBelow ml_X7_63 (rm := rmX7_isBelow) rfl rfl rfl ⟨le_b rfl, le_b rfl⟩ (k_isBelow hfC hw ⟨by decide, by decide⟩) ?_ rfl
    refine r_bne (t := 36) hC dX7_transaction_23 (by rfl) (fun h_23 => ?_) (fun h_23 => ?_)
    · skip
      have hp4 : 0 ≤ p ∧ p < 4 := h_5
      have hw8 : 0 ≤ w ∧ w < 3 := h_23
      obtain ⟨k, rfl⟩ : ∃ k : Nat, p = k := ⟨p.toNat, by omega⟩
      have hval := tell_tr hX0.2.2.1.1 hX0.2.2.1.2.b (p := k) (by omega) (w := w) ⟨hw8.1, by omega⟩
      refine r_aload_n hC dX7_transaction_36 rfl ?_
      refine r_getR (j := 0) hC dX7_transaction_37 fl_X7_10 rfl rfl hX0.1.1 hX0.1.2.1 ?_
      refine r_getR (j := 1) hC dX7_transaction_40 fl_X7_207 rfl rfl hX0.2.2.1.1.o.o hX0.2.2.1.1.o.p1 ?_
      refine r_iload_n hC dX7_transaction_43 rfl ?_
      refine r_aald hC dX7_transaction_44 hX0.2.2.1.1.o.a1 (le_b rfl) (lt_b rfl) ⟨by omega, by omega⟩ (hX0.2.2.1.1.o.pt (p := k) (by omega)) ?_
      refine r_iload_n hC dX7_transaction_45 rfl ?_
      refine r_V0 hC dX7_transaction_46 mi_X6_tell se_X6_tell ml_X7_211 (rm := rmX6_tell) rfl (hX0.2.2.1.1.o.t (p := k) (by omega)).o rfl rfl rfl rfl ⟨le_b rfl, le_b rfl⟩ (k_Tr_tell hfC (hX0.2.2.1.1.o.t (p := k) (by omega)) hw (by rw [(hX0.2.2.1.1.t (p := k) (by omega)).2.1]; exact (hX0.2.2.1.2.b.pl k (by omega)).2.1)) ?_ rfl
      refine r_iret hC hR dX7_transaction_49 (le_b rfl) (le_b rfl) ?_
      exact ⟨by unfold q_trans; rw [if_neg (fun h => h ⟨by omega, by omega⟩), if_neg (fun h => h ⟨by omega, by omega⟩)], by rw [hval], rfl⟩
    · skip
      refine r_throw hC hX 1 (lt_b rfl) tx_196 rfl dX7_transaction_26 dX7_transaction_29 dX7_transaction_30 dX7_transaction_32 dX7_transaction_35 ⟨le_b rfl, le_b rfl⟩ (le_b rfl) (le_b rfl) (fun n1 hn1 => ?_)
      have hp4 : 0 ≤ p ∧ p < 4 := h_5
      exact ⟨⟨1, by unfold q_trans; rw [if_neg (fun h => h ⟨by omega, by omega⟩), if_pos (fun h => h_23 ⟨h.1, by omega⟩)]; rfl, rfl⟩, n1, hn1, rfl⟩
  · skip
    refine r_throw hC hX 2 (lt_b rfl) tx_205 rfl dX7_transaction_8 dX7_transaction_11 dX7_transaction_12 dX7_transaction_14 dX7_transaction_17 ⟨le_b rfl, le_b rfl⟩ (le_b rfl) (le_b rfl) (fun n1 hn1 => ?_)
    exact ⟨⟨0, by unfold q_trans; rw [if_pos (fun h => h_5 ⟨h.1, by omega⟩)]; rfl, rfl⟩, n1, hn1, rfl⟩

abbrev rmX7_receiver : Room := { frames := 6, cells := 1, slots := 6, locals := 88 }
set_option maxRecDepth 100000 in
theorem k_Rl_receiver {l : Launch} {D : DD} (hfl : l.stackTraces = false) {u : Mem} {x : Nat} {f : RW} {s : Int} {P : RW} {kp : Int} {K : RW} {T : Int} (hX0 : RX u x f s P kp K T) {c w : Int} (hc : rg c) (hw : rg w) : CTX l D yX7_receiver cX7_receiver 3 (some .int) rmX7_receiver [xA x, xI c, xI w] u (xP (q_recv c w) (RT (xI (m_recvV f c w)) u)) (xQ u (q_recv c w) [xIO, xIA]) := by
  refine CTX.of hfl (by decide) (le_b rfl) ?_
  intro C hC hR hX hL hDD hN
  have hfC : (cxL C).stackTraces = false := by rw [hL]; exact hfl
  show VW C 0 [some (xA x), some (xI c), some (xI w)] [] u 0 0
  refine r_iload_n hC dX7_receiver_0 rfl ?_
  refine r_iconst hC dX7_receiver_1 ?_
  refine r_S0 hC dX7_receiver_2 mi_X7_isBelow ss_X7_isBelow ml_X7_63 (rm := rmX7_isBelow) rfl rfl rfl ⟨le_b rfl, le_b rfl⟩ (k_isBelow hfC hc ⟨by decide, by decide⟩) ?_ rfl
  refine r_bne (t := 18) hC dX7_receiver_5 (by rfl) (fun h_5 => ?_) (fun h_5 => ?_)
  · skip
    refine r_iload_n hC dX7_receiver_18 rfl ?_
    refine r_bipush hC dX7_receiver_19 (by rfl) ?_
    refine r_S0 hC dX7_receiver_21 mi_X7_isBelow ss_X7_isBelow ml_X7_63 (rm := rmX7_isBelow) rfl rfl rfl ⟨le_b rfl, le_b rfl⟩ (k_isBelow hfC hw ⟨by decide, by decide⟩) ?_ rfl
    refine r_bne (t := 37) hC dX7_receiver_24 (by rfl) (fun h_24 => ?_) (fun h_24 => ?_)
    · skip
      have hp4 : 0 ≤ c ∧ c < 3 := h_5
      have hw8 : 0 ≤ w ∧ w < 14 := h_24
      obtain ⟨k, rfl⟩ : ∃ k : Nat, c = k := ⟨c.toNat, by omega⟩
      refine r_aload_n hC dX7_receiver_37 rfl ?_
      refine r_getR (j := 0) hC dX7_receiver_38 fl_X7_10 rfl rfl hX0.1.1 hX0.1.2.1 ?_
      refine r_iload_n hC dX7_receiver_41 rfl ?_
      refine r_iload_n hC dX7_receiver_42 rfl ?_
      refine r_V0 hC dX7_receiver_43 mi_X5_receiverNumber se_X5_receiverNumber ml_X7_216 (rm := rmX5_receiverNumber) rfl hX0.2.2.1.1.o.o rfl rfl rfl rfl ⟨le_b rfl, le_b rfl⟩ (k_St_recv hfC hX0.2.2.1.1 hX0.2.2.1.2.b (c := k) (by omega) ⟨hw8.1, by omega⟩) ?_ rfl
      refine r_iret hC hR dX7_receiver_46 (le_b rfl) (le_b rfl) ?_
      exact ⟨by unfold q_recv; rw [if_neg (fun h => h ⟨by omega, by omega⟩), if_neg (fun h => h ⟨by omega, by omega⟩)], rfl, rfl⟩
    · skip
      refine r_throw hC hX 1 (lt_b rfl) tx_196 rfl dX7_receiver_27 dX7_receiver_30 dX7_receiver_31 dX7_receiver_33 dX7_receiver_36 ⟨le_b rfl, le_b rfl⟩ (le_b rfl) (le_b rfl) (fun n1 hn1 => ?_)
      have hp4 : 0 ≤ c ∧ c < 3 := h_5
      exact ⟨⟨1, by unfold q_recv; rw [if_neg (fun h => h ⟨by omega, by omega⟩), if_pos (fun h => h_24 ⟨h.1, by omega⟩)]; rfl, rfl⟩, n1, hn1, rfl⟩
  · skip
    refine r_throw hC hX 2 (lt_b rfl) tx_103 rfl dX7_receiver_8 dX7_receiver_11 dX7_receiver_12 dX7_receiver_14 dX7_receiver_17 ⟨le_b rfl, le_b rfl⟩ (le_b rfl) (le_b rfl) (fun n1 hn1 => ?_)
    exact ⟨⟨0, by unfold q_recv; rw [if_pos (fun h => h_5 ⟨h.1, by omega⟩)]; rfl, rfl⟩, n1, hn1, rfl⟩

abbrev rmX7_message : Room := { frames := 6, cells := 1, slots := 6, locals := 82 }
set_option maxRecDepth 100000 in
theorem k_Rl_message {l : Launch} {D : DD} (hfl : l.stackTraces = false) {u : Mem} {x : Nat} {f : RW} {s : Int} {P : RW} {kp : Int} {K : RW} {T : Int} (hX0 : RX u x f s P kp K T) {i w : Int} (hi : rg i) (hw : rg w) : CTX l D yX7_message cX7_message 3 (some .int) rmX7_message [xA x, xI i, xI w] u (xP (q_msg f i w) (RT (xI (m_msgV f (m_ranked f i) w)) u)) (xQ u (q_msg f i w) [xIO, xIA]) := by
  refine CTX.of hfl (by decide) (le_b rfl) ?_
  intro C hC hR hX hL hDD hN
  have hfC : (cxL C).stackTraces = false := by rw [hL]; exact hfl
  show VW C 0 [some (xA x), some (xI i), some (xI w)] [] u 0 0
  refine r_iload_n hC dX7_message_0 rfl ?_
  refine r_aload_n hC dX7_message_1 rfl ?_
  refine r_getR (j := 0) hC dX7_message_2 fl_X7_10 rfl rfl hX0.1.1 hX0.1.2.1 ?_
  refine r_getR (j := 4) hC dX7_message_5 fl_X7_123 rfl rfl hX0.2.2.1.1.o.o hX0.2.2.1.1.o.p4 ?_
  refine r_getIv (j := 1) (v := f 9) hC dX7_message_8 fl_X7_127 rfl rfl hX0.2.2.1.1.o.l.o hX0.2.2.1.1.l.1 ?_
  refine r_S0 hC dX7_message_11 mi_X7_isBelow ss_X7_isBelow ml_X7_63 (rm := rmX7_isBelow) rfl rfl rfl ⟨le_b rfl, le_b rfl⟩ (k_isBelow hfC hi (rf_at hX0.2.2.1.2.rf 9)) ?_ rfl
  refine r_bne (t := 27) hC dX7_message_14 (by rfl) (fun h_14 => ?_) (fun h_14 => ?_)
  · skip
    refine r_iload_n hC dX7_message_27 rfl ?_
    refine r_iconst hC dX7_message_28 ?_
    refine r_S0 hC dX7_message_29 mi_X7_isBelow ss_X7_isBelow ml_X7_63 (rm := rmX7_isBelow) rfl rfl rfl ⟨le_b rfl, le_b rfl⟩ (k_isBelow hfC hw ⟨by decide, by decide⟩) ?_ rfl
    refine r_bne (t := 45) hC dX7_message_32 (by rfl) (fun h_32 => ?_) (fun h_32 => ?_)
    · skip
      have hik : 0 ≤ i ∧ i < f 9 := h_14
      have hw8 : 0 ≤ w ∧ w < 5 := h_32
      obtain ⟨k, rfl⟩ : ∃ k : Nat, i = k := ⟨i.toNat, by omega⟩
      have hni := hX0.2.2.1.2.b.ni
      obtain ⟨hq1, hq2, hq3⟩ := mrank_at hX0.2.2.1.1 hX0.2.2.1.2.b (by omega : (k : Int) < f 9)
      have hMK : MK f := IMe.mk hX0.2.2.1.2.me
      have hz0 : m_way f (m_ranked f k) 0 = 0 ∨ m_way f (m_ranked f k) 0 = 1 := by
        obtain ⟨sg, hsg, -⟩ := hX0.2.2.1.1.l.2.2.2.2.2.2
        have h1 := hsg.1 k (by omega)
        rw [ranked_at rfl hsg k (by omega)]
        exact (hMK (sg k) (by omega)).1
      have hval := tell_ms (w := w) hq3
      refine r_aload_n hC dX7_message_45 rfl ?_
      refine r_getR (j := 0) hC dX7_message_46 fl_X7_10 rfl rfl hX0.1.1 hX0.1.2.1 ?_
      refine r_getR (j := 4) hC dX7_message_49 fl_X7_123 rfl rfl hX0.2.2.1.1.o.o hX0.2.2.1.1.o.p4 ?_
      refine r_getR (j := 0) hC dX7_message_52 fl_X7_219 rfl rfl hX0.2.2.1.1.o.l.o hX0.2.2.1.1.o.l.p ?_
      refine r_iload_n hC dX7_message_55 rfl ?_
      refine r_aald hC dX7_message_56 hX0.2.2.1.1.o.l.a (le_b rfl) (lt_b rfl) ⟨by omega, by omega⟩ hq1 ?_
      refine r_iload_n hC dX7_message_57 rfl ?_
      refine r_aload_n hC dX7_message_58 rfl ?_
      refine r_getR (j := 0) hC dX7_message_59 fl_X7_10 rfl rfl hX0.1.1 hX0.1.2.1 ?_
      refine r_getIv (j := 5) (v := f 0) hC dX7_message_62 fl_X7_188 rfl rfl hX0.2.2.1.1.o.o hX0.2.2.1.1.tick ?_
      refine r_V0 hC dX7_message_65 mi_X1_tell se_X1_tell ml_X7_223 (rm := rmX1_tell) rfl hq2.o rfl rfl rfl rfl ⟨le_b rfl, le_b rfl⟩ (k_Ms_tell hfC hq2 hw (by rw [hq3.1]; exact hz0)) ?_ rfl
      refine r_iret hC hR dX7_message_68 (le_b rfl) (le_b rfl) ?_
      exact ⟨by unfold q_msg; rw [if_neg (fun h => h ⟨by omega, by omega⟩), if_neg (fun h => h ⟨by omega, by omega⟩)], by rw [hval], rfl⟩
    · skip
      refine r_throw hC hX 1 (lt_b rfl) tx_196 rfl dX7_message_35 dX7_message_38 dX7_message_39 dX7_message_41 dX7_message_44 ⟨le_b rfl, le_b rfl⟩ (le_b rfl) (le_b rfl) (fun n1 hn1 => ?_)
      have hik : 0 ≤ i ∧ i < f 9 := h_14
      exact ⟨⟨1, by unfold q_msg; rw [if_neg (fun h => h ⟨by omega, by omega⟩), if_pos (fun h => h_32 ⟨h.1, by omega⟩)]; rfl, rfl⟩, n1, hn1, rfl⟩
  · skip
    refine r_throw hC hX 2 (lt_b rfl) tx_194 rfl dX7_message_17 dX7_message_20 dX7_message_21 dX7_message_23 dX7_message_26 ⟨le_b rfl, le_b rfl⟩ (le_b rfl) (le_b rfl) (fun n1 hn1 => ?_)
    exact ⟨⟨0, by unfold q_msg; rw [if_pos (fun h => h_14 ⟨h.1, by omega⟩)]; rfl, rfl⟩, n1, hn1, rfl⟩

abbrev rmX7_count : Room := { frames := 6, cells := 1, slots := 6, locals := 82 }
set_option maxRecDepth 100000 in
theorem k_Rl_count {l : Launch} {D : DD} (hfl : l.stackTraces = false) {u : Mem} {x : Nat} {f : RW} {s : Int} {P : RW} {kp : Int} {K : RW} {T : Int} (hX0 : RX u x f s P kp K T) {w : Int} (hw : rg w) : CTX l D yX7_count cX7_count 2 (some .int) rmX7_count [xA x, xI w] u (xP (q_count w) (RT (xI (m_countV f s w)) u)) (xQ u (q_count w) [xIA]) := by
  refine CTX.of hfl (by decide) (le_b rfl) ?_
  intro C hC hR hX hL hDD hN
  have hfC : (cxL C).stackTraces = false := by rw [hL]; exact hfl
  show VW C 0 [some (xA x), some (xI w)] [] u 0 0
  refine r_iload_n hC dX7_count_0 rfl ?_
  refine r_bipush hC dX7_count_1 (by rfl) ?_
  refine r_S0 hC dX7_count_3 mi_X7_isBelow ss_X7_isBelow ml_X7_63 (rm := rmX7_isBelow) rfl rfl rfl ⟨le_b rfl, le_b rfl⟩ (k_isBelow hfC hw ⟨by decide, by decide⟩) ?_ rfl
  refine r_bne (t := 19) hC dX7_count_6 (by rfl) (fun h_6 => ?_) (fun h_6 => ?_)
  · skip
    have hw8 : 0 ≤ w ∧ w < 12 := h_6
    refine r_iload_n hC dX7_count_19 rfl ?_
    refine r_bipush hC dX7_count_20 (by rfl) ?_
    refine r_icmp_ne (t := 32) hC dX7_count_22 (by rfl) (by first | exact rg_mI _ _ _ | exact ⟨by omega, by omega⟩ | assumption) (by first | exact rg_mI _ _ _ | exact ⟨by omega, by omega⟩ | assumption) (fun h_22 => ?_) (fun h_22 => ?_)
    · skip
      refine r_aload_n hC dX7_count_32 rfl ?_
      refine r_getR (j := 0) hC dX7_count_33 fl_X7_10 rfl rfl hX0.1.1 hX0.1.2.1 ?_
      refine r_iload_n hC dX7_count_36 rfl ?_
      refine r_V0 hC dX7_count_37 mi_X5_counted se_X5_counted ml_X7_227 (rm := rmX5_counted) rfl hX0.2.2.1.1.o.o rfl rfl rfl rfl ⟨le_b rfl, le_b rfl⟩ (k_St_count (t := s) hfC hX0.2.2.1.1 hX0.2.2.1.2.b ⟨by omega, by omega⟩) ?_ rfl
      refine r_iret hC hR dX7_count_40 (le_b rfl) (le_b rfl) ?_
      exact ⟨by unfold q_count; rw [if_neg (fun h => h ⟨by omega, by omega⟩)], by first | rfl | (unfold m_countV; rw [if_neg (by omega), if_neg (by omega), if_neg (by omega), if_neg (by omega), if_neg (by omega), if_neg (by omega), if_neg (by omega), if_neg (by omega), if_neg (by omega)]), rfl⟩
    · skip
      refine r_aload_n hC dX7_count_25 rfl ?_
      refine r_getIv (j := 3) (v := s) hC dX7_count_26 fl_X7_27 rfl rfl hX0.1.1 hX0.2.2.2.1.1 ?_
      refine r_goto (t := 40) hC dX7_count_29 (by rfl) ?_
      refine r_iret hC hR dX7_count_40 (le_b rfl) (le_b rfl) ?_
      exact ⟨by unfold q_count; rw [if_neg (fun h => h ⟨by omega, by omega⟩)], by first | rfl | (unfold m_countV; rw [if_neg (by omega), if_neg (by omega), if_neg (by omega), if_neg (by omega), if_neg (by omega), if_neg (by omega), if_neg (by omega), if_neg (by omega), if_neg (by omega)]), rfl⟩
  · skip
    refine r_throw hC hX 1 (lt_b rfl) tx_196 rfl dX7_count_9 dX7_count_12 dX7_count_13 dX7_count_15 dX7_count_18 ⟨le_b rfl, le_b rfl⟩ (le_b rfl) (le_b rfl) (fun n1 hn1 => ?_)
    exact ⟨⟨0, by unfold q_count; rw [if_pos (fun h => h_6 ⟨h.1, by omega⟩)]; rfl, rfl⟩, n1, hn1, rfl⟩

abbrev rmX7_setting : Room := { frames := 6, cells := 1, slots := 6, locals := 82 }
set_option maxRecDepth 100000 in
theorem k_Rl_setting {l : Launch} {D : DD} (hfl : l.stackTraces = false) {u : Mem} {x : Nat} {f : RW} {s : Int} {P : RW} {kp : Int} {K : RW} {T : Int} (hX0 : RX u x f s P kp K T) {i : Int} (hi : rg i) : CTX l D yX7_setting cX7_setting 2 (some .int) rmX7_setting [xA x, xI i] u (xP (q_sett i) (RT (xI (f (10 + i))) u)) (xQ u (q_sett i) [xIO]) := by
  refine CTX.of hfl (by decide) (le_b rfl) ?_
  intro C hC hR hX hL hDD hN
  have hfC : (cxL C).stackTraces = false := by rw [hL]; exact hfl
  show VW C 0 [some (xA x), some (xI i)] [] u 0 0
  refine r_iload_n hC dX7_setting_0 rfl ?_
  refine r_bipush hC dX7_setting_1 (by rfl) ?_
  refine r_S0 hC dX7_setting_3 mi_X7_isBelow ss_X7_isBelow ml_X7_63 (rm := rmX7_isBelow) rfl rfl rfl ⟨le_b rfl, le_b rfl⟩ (k_isBelow hfC hi ⟨by decide, by decide⟩) ?_ rfl
  refine r_bne (t := 19) hC dX7_setting_6 (by rfl) (fun h_6 => ?_) (fun h_6 => ?_)
  · skip
    have hw8 : 0 ≤ i ∧ i < 7 := h_6
    obtain ⟨k, rfl⟩ : ∃ k : Nat, i = k := ⟨i.toNat, by omega⟩
    refine r_aload_n hC dX7_setting_19 rfl ?_
    refine r_getR (j := 0) hC dX7_setting_20 fl_X7_10 rfl rfl hX0.1.1 hX0.1.2.1 ?_
    refine r_getR (j := 0) hC dX7_setting_23 fl_X7_155 rfl rfl hX0.2.2.1.1.o.o hX0.2.2.1.1.o.p0 ?_
    refine r_iload_n hC dX7_setting_26 rfl ?_
    refine r_ialdv (v := f (10 + (k : Int))) hC dX7_setting_27 hX0.2.2.1.1.o.a0 ⟨by omega, by omega⟩ (hX0.2.2.1.1.set (by omega)) ?_
    refine r_iret hC hR dX7_setting_28 (le_b rfl) (le_b rfl) ?_
    exact ⟨by unfold q_sett; rw [if_neg (fun h => h ⟨by omega, by omega⟩)], rfl, rfl⟩
  · skip
    refine r_throw hC hX 2 (lt_b rfl) tx_143 rfl dX7_setting_9 dX7_setting_12 dX7_setting_13 dX7_setting_15 dX7_setting_18 ⟨le_b rfl, le_b rfl⟩ (le_b rfl) (le_b rfl) (fun n1 hn1 => ?_)
    exact ⟨⟨0, by unfold q_sett; rw [if_pos (fun h => h_6 ⟨h.1, by omega⟩)]; rfl, rfl⟩, n1, hn1, rfl⟩

abbrev rmX7_skips : Room := { frames := 6, cells := 1, slots := 6, locals := 82 }
set_option maxRecDepth 100000 in
theorem k_Rl_skips {l : Launch} {D : DD} (hfl : l.stackTraces = false) {u : Mem} {x : Nat} {f : RW} {s : Int} {P : RW} {kp : Int} {K : RW} {T : Int} (hX0 : RX u x f s P kp K T) {p c : Int} (hp : rg p) (hc : rg c) : CTX l D yX7_skips cX7_skips 3 (some .int) rmX7_skips [xA x, xI p, xI c] u (xP (q_skips p c) (RT (xI (m_skip f p c)) u)) (xQ u (q_skips p c) [xIO]) := by
  refine CTX.of hfl (by decide) (le_b rfl) ?_
  intro C hC hR hX hL hDD hN
  have hfC : (cxL C).stackTraces = false := by rw [hL]; exact hfl
  show VW C 0 [some (xA x), some (xI p), some (xI c)] [] u 0 0
  refine r_iload_n hC dX7_skips_0 rfl ?_
  refine r_iconst hC dX7_skips_1 ?_
  refine r_S0 hC dX7_skips_2 mi_X7_isBelow ss_X7_isBelow ml_X7_63 (rm := rmX7_isBelow) rfl rfl rfl ⟨le_b rfl, le_b rfl⟩ (k_isBelow hfC hp ⟨by decide, by decide⟩) ?_ rfl
  refine r_beq (t := 16) hC dX7_skips_5 (by rfl) (fun h_5 => ?_) (fun h_5 => ?_)
  · skip
    refine r_throw hC hX 2 (lt_b rfl) tx_246 rfl dX7_skips_16 dX7_skips_19 dX7_skips_20 dX7_skips_22 dX7_skips_25 ⟨le_b rfl, le_b rfl⟩ (le_b rfl) (le_b rfl) (fun n1 hn1 => ?_)
    first
    | exact ⟨⟨0, by unfold q_skips; rw [if_pos (Or.inl (fun h => h_5 ⟨h.1, by omega⟩))]; rfl, rfl⟩, n1, hn1, rfl⟩
    | exact ⟨⟨0, by unfold q_skips; rw [if_pos (Or.inr (fun h => h_13 ⟨h.1, by omega⟩))]; rfl, rfl⟩, n1, hn1, rfl⟩
  · skip
    refine r_iload_n hC dX7_skips_8 rfl ?_
    refine r_iconst hC dX7_skips_9 ?_
    refine r_S0 hC dX7_skips_10 mi_X7_isBelow ss_X7_isBelow ml_X7_63 (rm := rmX7_isBelow) rfl rfl rfl ⟨le_b rfl, le_b rfl⟩ (k_isBelow hfC hc ⟨by decide, by decide⟩) ?_ rfl
    refine r_bne (t := 26) hC dX7_skips_13 (by rfl) (fun h_13 => ?_) (fun h_13 => ?_)
    · skip
      have hp4 : 0 ≤ p ∧ p < 4 := h_5
      have hw8 : 0 ≤ c ∧ c < 3 := h_13
      obtain ⟨k, rfl⟩ : ∃ k : Nat, c = k := ⟨c.toNat, by omega⟩
      refine r_aload_n hC dX7_skips_26 rfl ?_
      refine r_getR (j := 0) hC dX7_skips_27 fl_X7_10 rfl rfl hX0.1.1 hX0.1.2.1 ?_
      refine r_iload_n hC dX7_skips_30 rfl ?_
      refine r_iload_n hC dX7_skips_31 rfl ?_
      refine r_V0 hC dX7_skips_32 mi_X5_skipped se_X5_skipped ml_X7_248 (rm := rmX5_skipped) rfl hX0.2.2.1.1.o.o rfl rfl rfl rfl ⟨le_b rfl, le_b rfl⟩ (k_St_skip hfC hX0.2.2.1.1 hX0.2.2.1.2.b (c := k) hp (by omega)) ?_ rfl
      refine r_iret hC hR dX7_skips_35 (le_b rfl) (le_b rfl) ?_
      exact ⟨by unfold q_skips; rw [if_neg (fun h => h.elim (fun h => h ⟨by omega, by omega⟩) (fun h => h ⟨by omega, by omega⟩))], rfl, rfl⟩
    · skip
      refine r_throw hC hX 2 (lt_b rfl) tx_246 rfl dX7_skips_16 dX7_skips_19 dX7_skips_20 dX7_skips_22 dX7_skips_25 ⟨le_b rfl, le_b rfl⟩ (le_b rfl) (le_b rfl) (fun n1 hn1 => ?_)
      first
      | exact ⟨⟨0, by unfold q_skips; rw [if_pos (Or.inl (fun h => h_5 ⟨h.1, by omega⟩))]; rfl, rfl⟩, n1, hn1, rfl⟩
      | exact ⟨⟨0, by unfold q_skips; rw [if_pos (Or.inr (fun h => h_13 ⟨h.1, by omega⟩))]; rfl, rfl⟩, n1, hn1, rfl⟩
