theorem m_nextL_spec (r : RW) (a : Int) (n : Nat) (h : m_nextL r a n ≠ -1) : a < m_num r (m_nextL r a n) ∧ m_mark r (m_nextL r a n) 0 = false := by
  induction n with
  | zero => exact absurd rfl h
  | succ n ih =>
    simp only [m_nextL] at h ⊢
    split
    · rename_i q; exact ⟨q.1.2, q.1.1⟩
    · rename_i q; rw [if_neg q] at h; exact ih h
theorem m_next_spec (r : RW) (a : Int) (h : m_next r a ≠ -1) : a < m_num r (m_next r a) ∧ m_mark r (m_next r a) 0 = false := m_nextL_spec r a _ h
def m_cntL (r : RW) (a : Int) : Nat → Nat
  | 0 => 0
  | k + 1 => m_cntL r a k + (if a < m_num r k then 1 else 0)
def m_cnt (r : RW) (a : Int) : Nat := m_cntL r a (r 2).toNat
theorem m_cntL_le (r : RW) (a : Int) (n : Nat) : m_cntL r a n ≤ n := by
  induction n with
  | zero => exact Nat.le_refl _
  | succ n ih => simp only [m_cntL]; split <;> omega
theorem m_cntL_mono (r : RW) {a a2 : Int} (h : a ≤ a2) (n : Nat) : m_cntL r a2 n ≤ m_cntL r a n := by
  induction n with
  | zero => exact Nat.le_refl _
  | succ n ih => simp only [m_cntL]; split <;> split <;> omega
theorem m_cntL_lt (r : RW) {a : Int} {k n : Nat} (hk : k < n) (h : a < m_num r k) : m_cntL r (m_num r k) n < m_cntL r a n := by
  induction n with
  | zero => omega
  | succ n ih =>
    simp only [m_cntL]
    rcases Nat.lt_or_ge k n with q | q
    · have := ih q
      split <;> split <;> omega
    · have e : k = n := by omega
      subst e
      have := m_cntL_mono r (Int.le_of_lt h) k
      rw [if_neg (by omega), if_pos h]; omega
theorem m_cnt_lt (r : RW) {a : Int} (h2 : 0 ≤ r 2) (h : m_next r a ≠ -1) : m_cnt r (m_num r (m_next r a)) < m_cnt r a := by
  have h1 := m_next_rg r a h2
  have h3 := (m_next_spec r a h).1
  obtain ⟨k, hk⟩ : ∃ k : Nat, m_next r a = k := ⟨(m_next r a).toNat, by omega⟩
  rw [hk] at h3 ⊢
  exact m_cntL_lt r (by omega) h3
/-- the batch is filled: how many, and the batch -/
def m_gat (f : RW) (c : Int) : Nat → Int → Int → RW → Int × RW
  | 0, _, n, b => (n, b)
  | s + 1, a, n, b => if m_next f a = -1 ∨ f 12 ≤ n then (n, b) else if m_wants f c (m_topic f (m_next f a)) = true then m_gat f c s (m_num f (m_next f a)) (n + 1) (up b n (m_next f a)) else m_gat f c s (m_num f (m_next f a)) n b
def m_gather (f : RW) (c : Int) (b : RW) : Int × RW := m_gat f c 201 (m_of f c 8) 0 b
theorem m_gat_facts (f : RW) (c : Int) (h2 : 0 ≤ f 2 ∧ f 2 ≤ 200) (h12 : f 12 ≤ 8) (s : Nat) : ∀ (a n : Int) (b : RW), RF b → 0 ≤ n → n ≤ 8 → (∀ i, 0 ≤ i → i < n → 0 ≤ b i ∧ b i < f 2) → RF (m_gat f c s a n b).2 ∧ n ≤ (m_gat f c s a n b).1 ∧ (m_gat f c s a n b).1 ≤ 8 ∧ ∀ i, 0 ≤ i → i < (m_gat f c s a n b).1 → 0 ≤ (m_gat f c s a n b).2 i ∧ (m_gat f c s a n b).2 i < f 2 := by
  induction s with
  | zero => intro a n b rb h0 h8 hb; exact ⟨rb, Int.le_refl _, h8, hb⟩
  | succ s ih =>
    intro a n b rb h0 h8 hb
    have hx := m_next_rg f a h2.1
    simp only [m_gat]
    split
    · exact ⟨rb, Int.le_refl _, h8, hb⟩
    · rename_i q
      have q1 : m_next f a ≠ -1 := fun e => q (Or.inl e)
      have q2 : n < f 12 := by
        rcases Int.lt_or_le n (f 12) with z | z
        · exact z
        · exact absurd (Or.inr z) q
      split
      · obtain ⟨i1, i2, i3, i4⟩ := ih (m_num f (m_next f a)) (n + 1) (up b n (m_next f a)) (rf_up rb _ _) (by omega) (by omega) (fun i hi0 hi => by
          by_cases e : i = n
          · subst e; rw [up_s, wr_id ⟨by omega, by omega⟩]; omega
          · rw [up_n _ _ e]; exact hb i hi0 (by omega))
        exact ⟨i1, by omega, i3, i4⟩
      · exact ih _ n b rb h0 h8 hb
abbrev rmX8_gather : Room := { frames := 3, cells := 0, slots := 0, locals := 66 }
set_option maxRecDepth 100000 in
theorem k_gather {l : Launch} {D : DD} (hfl : l.stackTraces = false) {u : Mem} {m : Nat} (hM : MO u m) {f : RW} (hf : RF f) (h2 : 0 ≤ f 2 ∧ f 2 ≤ 200) (h12 : 1 ≤ f 12 ∧ f 12 ≤ 8) {c : Int} (hc : 0 ≤ c ∧ c < 3) : CT l D yX8_gather cX8_gather 4 (some .int) rmX8_gather [xA m, xI c] (sA u (m + 1) f) (RT (xI (m_gather f c (mI u (m + 7))).1) (sA (sA u (m + 7) (m_gather f c (mI u (m + 7))).2) (m + 1) f)) := by
  refine CT.of hfl (by decide) (le_b rfl) ?_
  intro C hC hR hL hDD hN
  have hfC : (cxL C).stackTraces = false := by rw [hL]; exact hfl
  obtain ⟨b0, hb0⟩ : ∃ z, z = mI u (m + 7) := ⟨_, rfl⟩
  have eu : sA u (m + 7) b0 = u := by rw [hb0]; exact sA_mI u (m + 7)
  rw [← hb0] at hR
  have lp : ∀ (s : Nat) (a n : Int) (b : RW), m_cnt f a < s → 0 ≤ n → n ≤ 8 → m_gather f c b0 = m_gat f c s a n b → VW C 14 [some (xA m), some (xI c), some (xI n), some (xI (m_next f a))] [] (sA (sA u (m + 7) b) (m + 1) f) 0 0 := by
    intro s
    induction s with
    | zero => intro a n b h; omega
    | succ s ih =>
      intro a n b hs hn0 hn8 he
      have hx := m_next_rg f a h2.1
      refine r_iload_n hC dX8_gather_14 rfl ?_
      refine r_iconst hC dX8_gather_15 ?_
      refine r_icmp_eq (t := 66) hC dX8_gather_16 (by rfl) (by first | with_reducible exact rg_mI _ _ _ | (with_reducible refine rg_of ?_ _ _; (repeat (first | assumption | with_reducible apply rf_up | with_reducible apply rf_setm | with_reducible apply rf_mI | with_reducible apply rf_begins | with_reducible apply rf_writes | with_reducible apply rf_drops | with_reducible apply rf_commitL | with_reducible apply rf_commits | with_reducible apply rf_lost | with_reducible apply rf_sweepL | with_reducible apply rf_sweep1 | with_reducible apply rf_sweeps | with_reducible apply rf_sends0 | with_reducible apply rf_sendsA | with_reducible apply rf_pack | with_reducible apply rf_sends | with_reducible apply rf_works4 | with_reducible apply rf_works7 | with_reducible apply rf_shift | with_reducible apply rf_works | with_reducible apply rf_answerComes | with_reducible apply rf_bcL | with_reducible apply rf_bc1)); done) | (with_reducible refine rg_its ?_ _ _; (repeat (first | assumption | with_reducible apply rf_up | with_reducible apply rf_setm | with_reducible apply rf_mI | with_reducible apply rf_begins | with_reducible apply rf_writes | with_reducible apply rf_drops | with_reducible apply rf_commitL | with_reducible apply rf_commits | with_reducible apply rf_lost | with_reducible apply rf_sweepL | with_reducible apply rf_sweep1 | with_reducible apply rf_sweeps | with_reducible apply rf_sends0 | with_reducible apply rf_sendsA | with_reducible apply rf_pack | with_reducible apply rf_sends | with_reducible apply rf_works4 | with_reducible apply rf_works7 | with_reducible apply rf_shift | with_reducible apply rf_works | with_reducible apply rf_answerComes | with_reducible apply rf_bcL | with_reducible apply rf_bc1)); done) | (with_reducible refine rg_way ?_ _ _; (repeat (first | assumption | with_reducible apply rf_up | with_reducible apply rf_setm | with_reducible apply rf_mI | with_reducible apply rf_begins | with_reducible apply rf_writes | with_reducible apply rf_drops | with_reducible apply rf_commitL | with_reducible apply rf_commits | with_reducible apply rf_lost | with_reducible apply rf_sweepL | with_reducible apply rf_sweep1 | with_reducible apply rf_sweeps | with_reducible apply rf_sends0 | with_reducible apply rf_sendsA | with_reducible apply rf_pack | with_reducible apply rf_sends | with_reducible apply rf_works4 | with_reducible apply rf_works7 | with_reducible apply rf_shift | with_reducible apply rf_works | with_reducible apply rf_answerComes | with_reducible apply rf_bcL | with_reducible apply rf_bc1)); done) | with_reducible exact rg_and _ _ | (with_reducible refine rg_num ?_ ⟨by omega, by omega⟩; (repeat (first | assumption | with_reducible apply rf_up | with_reducible apply rf_setm | with_reducible apply rf_mI | with_reducible apply rf_begins | with_reducible apply rf_writes | with_reducible apply rf_drops | with_reducible apply rf_commitL | with_reducible apply rf_commits | with_reducible apply rf_lost | with_reducible apply rf_sweepL | with_reducible apply rf_sweep1 | with_reducible apply rf_sweeps | with_reducible apply rf_sends0 | with_reducible apply rf_sendsA | with_reducible apply rf_pack | with_reducible apply rf_sends | with_reducible apply rf_works4 | with_reducible apply rf_works7 | with_reducible apply rf_shift | with_reducible apply rf_works | with_reducible apply rf_answerComes | with_reducible apply rf_bcL | with_reducible apply rf_bc1)); done) | (with_reducible refine rf_at ?_ _; (repeat (first | assumption | with_reducible apply rf_up | with_reducible apply rf_setm | with_reducible apply rf_mI | with_reducible apply rf_begins | with_reducible apply rf_writes | with_reducible apply rf_drops | with_reducible apply rf_commitL | with_reducible apply rf_commits | with_reducible apply rf_lost | with_reducible apply rf_sweepL | with_reducible apply rf_sweep1 | with_reducible apply rf_sweeps | with_reducible apply rf_sends0 | with_reducible apply rf_sendsA | with_reducible apply rf_pack | with_reducible apply rf_sends | with_reducible apply rf_works4 | with_reducible apply rf_works7 | with_reducible apply rf_shift | with_reducible apply rf_works | with_reducible apply rf_answerComes | with_reducible apply rf_bcL | with_reducible apply rf_bc1)); done) | exact ⟨by omega, by omega⟩) (by first | with_reducible exact rg_mI _ _ _ | (with_reducible refine rg_of ?_ _ _; (repeat (first | assumption | with_reducible apply rf_up | with_reducible apply rf_setm | with_reducible apply rf_mI | with_reducible apply rf_begins | with_reducible apply rf_writes | with_reducible apply rf_drops | with_reducible apply rf_commitL | with_reducible apply rf_commits | with_reducible apply rf_lost | with_reducible apply rf_sweepL | with_reducible apply rf_sweep1 | with_reducible apply rf_sweeps | with_reducible apply rf_sends0 | with_reducible apply rf_sendsA | with_reducible apply rf_pack | with_reducible apply rf_sends | with_reducible apply rf_works4 | with_reducible apply rf_works7 | with_reducible apply rf_shift | with_reducible apply rf_works | with_reducible apply rf_answerComes | with_reducible apply rf_bcL | with_reducible apply rf_bc1)); done) | (with_reducible refine rg_its ?_ _ _; (repeat (first | assumption | with_reducible apply rf_up | with_reducible apply rf_setm | with_reducible apply rf_mI | with_reducible apply rf_begins | with_reducible apply rf_writes | with_reducible apply rf_drops | with_reducible apply rf_commitL | with_reducible apply rf_commits | with_reducible apply rf_lost | with_reducible apply rf_sweepL | with_reducible apply rf_sweep1 | with_reducible apply rf_sweeps | with_reducible apply rf_sends0 | with_reducible apply rf_sendsA | with_reducible apply rf_pack | with_reducible apply rf_sends | with_reducible apply rf_works4 | with_reducible apply rf_works7 | with_reducible apply rf_shift | with_reducible apply rf_works | with_reducible apply rf_answerComes | with_reducible apply rf_bcL | with_reducible apply rf_bc1)); done) | (with_reducible refine rg_way ?_ _ _; (repeat (first | assumption | with_reducible apply rf_up | with_reducible apply rf_setm | with_reducible apply rf_mI | with_reducible apply rf_begins | with_reducible apply rf_writes | with_reducible apply rf_drops | with_reducible apply rf_commitL | with_reducible apply rf_commits | with_reducible apply rf_lost | with_reducible apply rf_sweepL | with_reducible apply rf_sweep1 | with_reducible apply rf_sweeps | with_reducible apply rf_sends0 | with_reducible apply rf_sendsA | with_reducible apply rf_pack | with_reducible apply rf_sends | with_reducible apply rf_works4 | with_reducible apply rf_works7 | with_reducible apply rf_shift | with_reducible apply rf_works | with_reducible apply rf_answerComes | with_reducible apply rf_bcL | with_reducible apply rf_bc1)); done) | with_reducible exact rg_and _ _ | (with_reducible refine rg_num ?_ ⟨by omega, by omega⟩; (repeat (first | assumption | with_reducible apply rf_up | with_reducible apply rf_setm | with_reducible apply rf_mI | with_reducible apply rf_begins | with_reducible apply rf_writes | with_reducible apply rf_drops | with_reducible apply rf_commitL | with_reducible apply rf_commits | with_reducible apply rf_lost | with_reducible apply rf_sweepL | with_reducible apply rf_sweep1 | with_reducible apply rf_sweeps | with_reducible apply rf_sends0 | with_reducible apply rf_sendsA | with_reducible apply rf_pack | with_reducible apply rf_sends | with_reducible apply rf_works4 | with_reducible apply rf_works7 | with_reducible apply rf_shift | with_reducible apply rf_works | with_reducible apply rf_answerComes | with_reducible apply rf_bcL | with_reducible apply rf_bc1)); done) | (with_reducible refine rf_at ?_ _; (repeat (first | assumption | with_reducible apply rf_up | with_reducible apply rf_setm | with_reducible apply rf_mI | with_reducible apply rf_begins | with_reducible apply rf_writes | with_reducible apply rf_drops | with_reducible apply rf_commitL | with_reducible apply rf_commits | with_reducible apply rf_lost | with_reducible apply rf_sweepL | with_reducible apply rf_sweep1 | with_reducible apply rf_sweeps | with_reducible apply rf_sends0 | with_reducible apply rf_sendsA | with_reducible apply rf_pack | with_reducible apply rf_sends | with_reducible apply rf_works4 | with_reducible apply rf_works7 | with_reducible apply rf_shift | with_reducible apply rf_works | with_reducible apply rf_answerComes | with_reducible apply rf_bcL | with_reducible apply rf_bc1)); done) | exact ⟨by omega, by omega⟩) (fun h_16 => ?_) (fun h_16 => ?_)
      · skip
        refine r_iload_n hC dX8_gather_66 rfl ?_
        refine r_iret hC hR dX8_gather_67 (le_b rfl) (le_b rfl) ?_
        have e : m_gat f c (s + 1) a n b = (n, b) := by simp only [m_gat]; rw [if_pos (by omega)]
        rw [he, e]; exact ⟨rfl, rfl⟩
      · skip
        refine r_iload_n hC dX8_gather_19 rfl ?_
        refine r_aload_n hC dX8_gather_20 rfl ?_
        refine r_getR (j := 0) hC dX8_gather_21 fl_X8_7 rfl rfl hM.o hM.p_row ?_
        refine r_bipush hC dX8_gather_24 (by rfl) ?_
        refine rM_ald hC (hM.sA _ _) (by (repeat (first | assumption | with_reducible apply rf_up | with_reducible apply rf_setm | with_reducible apply rf_mI | with_reducible apply rf_begins | with_reducible apply rf_writes | with_reducible apply rf_drops | with_reducible apply rf_commitL | with_reducible apply rf_commits | with_reducible apply rf_lost | with_reducible apply rf_sweepL | with_reducible apply rf_sweep1 | with_reducible apply rf_sweeps | with_reducible apply rf_sends0 | with_reducible apply rf_sendsA | with_reducible apply rf_pack | with_reducible apply rf_sends | with_reducible apply rf_works4 | with_reducible apply rf_works7 | with_reducible apply rf_shift | with_reducible apply rf_works | with_reducible apply rf_answerComes | with_reducible apply rf_bcL | with_reducible apply rf_bc1))) dX8_gather_26 ⟨by omega, by omega⟩ ?_
        refine r_icmp_ge (t := 66) hC dX8_gather_27 (by rfl) (by first | with_reducible exact rg_mI _ _ _ | (with_reducible refine rg_of ?_ _ _; (repeat (first | assumption | with_reducible apply rf_up | with_reducible apply rf_setm | with_reducible apply rf_mI | with_reducible apply rf_begins | with_reducible apply rf_writes | with_reducible apply rf_drops | with_reducible apply rf_commitL | with_reducible apply rf_commits | with_reducible apply rf_lost | with_reducible apply rf_sweepL | with_reducible apply rf_sweep1 | with_reducible apply rf_sweeps | with_reducible apply rf_sends0 | with_reducible apply rf_sendsA | with_reducible apply rf_pack | with_reducible apply rf_sends | with_reducible apply rf_works4 | with_reducible apply rf_works7 | with_reducible apply rf_shift | with_reducible apply rf_works | with_reducible apply rf_answerComes | with_reducible apply rf_bcL | with_reducible apply rf_bc1)); done) | (with_reducible refine rg_its ?_ _ _; (repeat (first | assumption | with_reducible apply rf_up | with_reducible apply rf_setm | with_reducible apply rf_mI | with_reducible apply rf_begins | with_reducible apply rf_writes | with_reducible apply rf_drops | with_reducible apply rf_commitL | with_reducible apply rf_commits | with_reducible apply rf_lost | with_reducible apply rf_sweepL | with_reducible apply rf_sweep1 | with_reducible apply rf_sweeps | with_reducible apply rf_sends0 | with_reducible apply rf_sendsA | with_reducible apply rf_pack | with_reducible apply rf_sends | with_reducible apply rf_works4 | with_reducible apply rf_works7 | with_reducible apply rf_shift | with_reducible apply rf_works | with_reducible apply rf_answerComes | with_reducible apply rf_bcL | with_reducible apply rf_bc1)); done) | (with_reducible refine rg_way ?_ _ _; (repeat (first | assumption | with_reducible apply rf_up | with_reducible apply rf_setm | with_reducible apply rf_mI | with_reducible apply rf_begins | with_reducible apply rf_writes | with_reducible apply rf_drops | with_reducible apply rf_commitL | with_reducible apply rf_commits | with_reducible apply rf_lost | with_reducible apply rf_sweepL | with_reducible apply rf_sweep1 | with_reducible apply rf_sweeps | with_reducible apply rf_sends0 | with_reducible apply rf_sendsA | with_reducible apply rf_pack | with_reducible apply rf_sends | with_reducible apply rf_works4 | with_reducible apply rf_works7 | with_reducible apply rf_shift | with_reducible apply rf_works | with_reducible apply rf_answerComes | with_reducible apply rf_bcL | with_reducible apply rf_bc1)); done) | with_reducible exact rg_and _ _ | (with_reducible refine rg_num ?_ ⟨by omega, by omega⟩; (repeat (first | assumption | with_reducible apply rf_up | with_reducible apply rf_setm | with_reducible apply rf_mI | with_reducible apply rf_begins | with_reducible apply rf_writes | with_reducible apply rf_drops | with_reducible apply rf_commitL | with_reducible apply rf_commits | with_reducible apply rf_lost | with_reducible apply rf_sweepL | with_reducible apply rf_sweep1 | with_reducible apply rf_sweeps | with_reducible apply rf_sends0 | with_reducible apply rf_sendsA | with_reducible apply rf_pack | with_reducible apply rf_sends | with_reducible apply rf_works4 | with_reducible apply rf_works7 | with_reducible apply rf_shift | with_reducible apply rf_works | with_reducible apply rf_answerComes | with_reducible apply rf_bcL | with_reducible apply rf_bc1)); done) | (with_reducible refine rf_at ?_ _; (repeat (first | assumption | with_reducible apply rf_up | with_reducible apply rf_setm | with_reducible apply rf_mI | with_reducible apply rf_begins | with_reducible apply rf_writes | with_reducible apply rf_drops | with_reducible apply rf_commitL | with_reducible apply rf_commits | with_reducible apply rf_lost | with_reducible apply rf_sweepL | with_reducible apply rf_sweep1 | with_reducible apply rf_sweeps | with_reducible apply rf_sends0 | with_reducible apply rf_sendsA | with_reducible apply rf_pack | with_reducible apply rf_sends | with_reducible apply rf_works4 | with_reducible apply rf_works7 | with_reducible apply rf_shift | with_reducible apply rf_works | with_reducible apply rf_answerComes | with_reducible apply rf_bcL | with_reducible apply rf_bc1)); done) | exact ⟨by omega, by omega⟩) (by first | with_reducible exact rg_mI _ _ _ | (with_reducible refine rg_of ?_ _ _; (repeat (first | assumption | with_reducible apply rf_up | with_reducible apply rf_setm | with_reducible apply rf_mI | with_reducible apply rf_begins | with_reducible apply rf_writes | with_reducible apply rf_drops | with_reducible apply rf_commitL | with_reducible apply rf_commits | with_reducible apply rf_lost | with_reducible apply rf_sweepL | with_reducible apply rf_sweep1 | with_reducible apply rf_sweeps | with_reducible apply rf_sends0 | with_reducible apply rf_sendsA | with_reducible apply rf_pack | with_reducible apply rf_sends | with_reducible apply rf_works4 | with_reducible apply rf_works7 | with_reducible apply rf_shift | with_reducible apply rf_works | with_reducible apply rf_answerComes | with_reducible apply rf_bcL | with_reducible apply rf_bc1)); done) | (with_reducible refine rg_its ?_ _ _; (repeat (first | assumption | with_reducible apply rf_up | with_reducible apply rf_setm | with_reducible apply rf_mI | with_reducible apply rf_begins | with_reducible apply rf_writes | with_reducible apply rf_drops | with_reducible apply rf_commitL | with_reducible apply rf_commits | with_reducible apply rf_lost | with_reducible apply rf_sweepL | with_reducible apply rf_sweep1 | with_reducible apply rf_sweeps | with_reducible apply rf_sends0 | with_reducible apply rf_sendsA | with_reducible apply rf_pack | with_reducible apply rf_sends | with_reducible apply rf_works4 | with_reducible apply rf_works7 | with_reducible apply rf_shift | with_reducible apply rf_works | with_reducible apply rf_answerComes | with_reducible apply rf_bcL | with_reducible apply rf_bc1)); done) | (with_reducible refine rg_way ?_ _ _; (repeat (first | assumption | with_reducible apply rf_up | with_reducible apply rf_setm | with_reducible apply rf_mI | with_reducible apply rf_begins | with_reducible apply rf_writes | with_reducible apply rf_drops | with_reducible apply rf_commitL | with_reducible apply rf_commits | with_reducible apply rf_lost | with_reducible apply rf_sweepL | with_reducible apply rf_sweep1 | with_reducible apply rf_sweeps | with_reducible apply rf_sends0 | with_reducible apply rf_sendsA | with_reducible apply rf_pack | with_reducible apply rf_sends | with_reducible apply rf_works4 | with_reducible apply rf_works7 | with_reducible apply rf_shift | with_reducible apply rf_works | with_reducible apply rf_answerComes | with_reducible apply rf_bcL | with_reducible apply rf_bc1)); done) | with_reducible exact rg_and _ _ | (with_reducible refine rg_num ?_ ⟨by omega, by omega⟩; (repeat (first | assumption | with_reducible apply rf_up | with_reducible apply rf_setm | with_reducible apply rf_mI | with_reducible apply rf_begins | with_reducible apply rf_writes | with_reducible apply rf_drops | with_reducible apply rf_commitL | with_reducible apply rf_commits | with_reducible apply rf_lost | with_reducible apply rf_sweepL | with_reducible apply rf_sweep1 | with_reducible apply rf_sweeps | with_reducible apply rf_sends0 | with_reducible apply rf_sendsA | with_reducible apply rf_pack | with_reducible apply rf_sends | with_reducible apply rf_works4 | with_reducible apply rf_works7 | with_reducible apply rf_shift | with_reducible apply rf_works | with_reducible apply rf_answerComes | with_reducible apply rf_bcL | with_reducible apply rf_bc1)); done) | (with_reducible refine rf_at ?_ _; (repeat (first | assumption | with_reducible apply rf_up | with_reducible apply rf_setm | with_reducible apply rf_mI | with_reducible apply rf_begins | with_reducible apply rf_writes | with_reducible apply rf_drops | with_reducible apply rf_commitL | with_reducible apply rf_commits | with_reducible apply rf_lost | with_reducible apply rf_sweepL | with_reducible apply rf_sweep1 | with_reducible apply rf_sweeps | with_reducible apply rf_sends0 | with_reducible apply rf_sendsA | with_reducible apply rf_pack | with_reducible apply rf_sends | with_reducible apply rf_works4 | with_reducible apply rf_works7 | with_reducible apply rf_shift | with_reducible apply rf_works | with_reducible apply rf_answerComes | with_reducible apply rf_bcL | with_reducible apply rf_bc1)); done) | exact ⟨by omega, by omega⟩) (fun h_27 => ?_) (fun h_27 => ?_)
        · skip
          refine r_iload_n hC dX8_gather_66 rfl ?_
          refine r_iret hC hR dX8_gather_67 (le_b rfl) (le_b rfl) ?_
          have e : m_gat f c (s + 1) a n b = (n, b) := by simp only [m_gat]; rw [if_pos (by omega)]
          rw [he, e]; exact ⟨rfl, rfl⟩
        · skip
          have q1 : ¬ (m_next f a = -1 ∨ f 12 ≤ n) := by rintro (q | q) <;> omega
          have hlt := m_cnt_lt f (a := a) h2.1 (by omega)
          refine r_aload_n hC dX8_gather_30 rfl ?_
          refine r_iload_n hC dX8_gather_31 rfl ?_
          refine r_aload_n hC dX8_gather_32 rfl ?_
          refine r_iload_n hC dX8_gather_33 rfl ?_
          refine rM_V0 hC (hM.sA _ _) dX8_gather_34 mi_X8_topicOf se_X8_topicOf ml_X8_61 (rm := rmX8_topicOf) rfl rfl rfl rfl ⟨le_b rfl, le_b rfl⟩ (k_topicOf hfC (hM.sA _ _) hf ⟨by omega, by omega⟩) ?_ rfl
          refine rM_V0 hC (hM.sA _ _) dX8_gather_37 mi_X8_wants se_X8_wants ml_X8_64 (rm := rmX8_wants) rfl rfl rfl rfl ⟨le_b rfl, le_b rfl⟩ (k_wants hfC (hM.sA _ _) hf hc) ?_ rfl
          refine r_beq (t := 53) hC dX8_gather_40 (by rfl) (fun h_40 => ?_) (fun h_40 => ?_)
          · skip
            refine r_aload_n hC dX8_gather_53 rfl ?_
            refine r_aload_n hC dX8_gather_54 rfl ?_
            refine r_iload_n hC dX8_gather_55 rfl ?_
            refine rM_V0 hC (hM.sA _ _) dX8_gather_56 mi_X8_numberOf se_X8_numberOf ml_X8_55 (rm := rmX8_numberOf) rfl rfl rfl rfl ⟨le_b rfl, le_b rfl⟩ (k_numberOf hfC (hM.sA _ _) hf ⟨by omega, by omega⟩) ?_ rfl
            refine rM_V0 hC (hM.sA _ _) dX8_gather_59 mi_X8_next se_X8_next ml_X8_124 (rm := rmX8_next) rfl rfl rfl rfl ⟨le_b rfl, le_b rfl⟩ (k_next hfC (hM.sA _ _) hf h2 (rg_num hf ⟨by omega, by omega⟩)) ?_ rfl
            refine r_istore_n (lv' := [_, _, _, _]) hC dX8_gather_62 (lt_b rfl) rfl (lt_b rfl) rfl ?_
            refine r_goto (t := 14) hC dX8_gather_63 (by rfl) ?_
            exact (ih (m_num f (m_next f a)) _ _ (by omega) (by omega) (by omega) (by rw [he]; simp only [m_gat]; rw [if_neg q1]; first | rw [if_pos h_40] | rw [if_neg h_40]))
          · skip
            refine r_aload_n hC dX8_gather_43 rfl ?_
            refine r_getR (j := 10) hC dX8_gather_44 fl_X8_28 rfl rfl hM.o hM.p_batch ?_
            refine r_iload_n hC dX8_gather_47 rfl ?_
            refine r_iload_n hC dX8_gather_48 rfl ?_
            refine rM_ast3 hC dX8_gather_49 hM.a_batch rfl ⟨by omega, by omega⟩ ?_
            refine r_iinc (lv' := [_, _, _, _]) hC dX8_gather_50 rfl (lt_b rfl) rfl (lt_b rfl) rfl ?_
            refine r_aload_n hC dX8_gather_53 rfl ?_
            refine r_aload_n hC dX8_gather_54 rfl ?_
            refine r_iload_n hC dX8_gather_55 rfl ?_
            refine rM_V0 hC (hM.sA _ _) dX8_gather_56 mi_X8_numberOf se_X8_numberOf ml_X8_55 (rm := rmX8_numberOf) rfl rfl rfl rfl ⟨le_b rfl, le_b rfl⟩ (k_numberOf hfC (hM.sA _ _) hf ⟨by omega, by omega⟩) ?_ rfl
            refine rM_V0 hC (hM.sA _ _) dX8_gather_59 mi_X8_next se_X8_next ml_X8_124 (rm := rmX8_next) rfl rfl rfl rfl ⟨le_b rfl, le_b rfl⟩ (k_next hfC (hM.sA _ _) hf h2 (rg_num hf ⟨by omega, by omega⟩)) ?_ rfl
            refine r_istore_n (lv' := [_, _, _, _]) hC dX8_gather_62 (lt_b rfl) rfl (lt_b rfl) rfl ?_
            refine r_goto (t := 14) hC dX8_gather_63 (by rfl) ?_
            exact (ih (m_num f (m_next f a)) _ _ (by omega) (by omega) (by omega) (by rw [he]; simp only [m_gat]; rw [if_neg q1]; first | rw [if_pos h_40] | rw [if_neg h_40]))
  have L0 : VW C 0 [some (xA m), some (xI c), none, none] [] (sA (sA u (m + 7) b0) (m + 1) f) 0 0 := by
    refine r_iconst hC dX8_gather_0 ?_
    refine r_istore_n (lv' := [_, _, _, _]) hC dX8_gather_1 (lt_b rfl) rfl (lt_b rfl) rfl ?_
    refine r_aload_n hC dX8_gather_2 rfl ?_
    refine r_aload_n hC dX8_gather_3 rfl ?_
    refine r_iload_n hC dX8_gather_4 rfl ?_
    refine r_bipush hC dX8_gather_5 (by rfl) ?_
    refine rM_V0 hC (hM.sA _ _) dX8_gather_7 mi_X8_of se_X8_of ml_X8_58 (rm := rmX8_of) rfl rfl rfl rfl ⟨le_b rfl, le_b rfl⟩ (k_of hfC (hM.sA _ _) hf ⟨by omega, by omega⟩) ?_ rfl
    refine rM_V0 hC (hM.sA _ _) dX8_gather_10 mi_X8_next se_X8_next ml_X8_124 (rm := rmX8_next) rfl rfl rfl rfl ⟨le_b rfl, le_b rfl⟩ (k_next hfC (hM.sA _ _) hf h2 (rg_of hf _ _)) ?_ rfl
    refine r_istore_n (lv' := [_, _, _, _]) hC dX8_gather_13 (lt_b rfl) rfl (lt_b rfl) rfl ?_
    exact lp 201 (m_of f c 8) 0 b0 (by have := m_cntL_le f (m_of f c 8) (f 2).toNat; unfold m_cnt; omega) (by omega) (by omega) rfl
  rw [eu] at L0
  exact L0

