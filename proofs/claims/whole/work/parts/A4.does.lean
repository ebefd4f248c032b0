/-! ===== how much a tick's effects are; what an order answers is a number ===== -/
theorem eff_steps {b : RW} {T : Int} (hT : T ≤ 2000000) : ∀ (s : Nat) (r : RW) (D : Int), Mid r T 0 0 D → 0 ≤ D → D + dcN r ≤ 57 → m_eff r ≤ m_eff (m_steps b s r) ∧ m_eff (m_steps b s r) ≤ m_eff r + 8 * dcN r := by
  intro s
  induction s with
  | zero =>
    intro r D hM h0 hD
    have h9 := hM.nine
    have hz := (dcN_rg r h9.1).1
    simp only [m_steps]
    omega
  | succ s ih =>
    intro r D hM h0 hD
    have h9 := hM.nine
    have hz := (dcN_rg r h9.1).1
    by_cases e : dcN r = 0
    · simp only [m_steps]
      rw [if_pos (due_none e)]
      omega
    · obtain ⟨N, n, hN, hm, hw, hdue, k1, k2, k3, k4, k5, k6⟩ := hM.step (b := b) hT ⟨h0, by omega⟩ (by omega)
      have hst : m_step r b = m_stepN r b n := step_is hdue
      have hne : m_due r ≠ -1 := by rw [hdue]; omega
      obtain ⟨i1, i2⟩ := ih (m_stepN r b n) (D + 1) k1 (by omega) (by rw [k4]; omega)
      simp only [m_steps]
      rw [if_neg hne, hst]
      have hc := c_eff_rg r n (m_way r n 1) (m_way r n 3).toNat
      have h3 : 0 ≤ m_way r n 3 ∧ m_way r n 3 ≤ 8 := by
        obtain ⟨og, hG⟩ := hM.2.1
        have hmn := hm.1
        exact (hG n (by omega)).1.2.2.2.1
      rw [k4] at i2
      omega
theorem eff_tick {r b : RW} {T : Int} (h : Inv r T) (hT : T + 1 ≤ 2000000) (hb : RF b) : m_eff r ≤ m_eff (m_tick r b).1 ∧ m_eff (m_tick r b).1 ≤ m_eff r + 500 := by
  obtain ⟨hM, hx, he⟩ := h.start hT
  have h9 := hM.nine
  have hdc := dcN_rg _ h9.1
  obtain ⟨s1, s2, s3, s4, s5⟩ := steps_mid (b := b) hT 200 _ 0 hM (Int.le_refl _) (by omega) (by omega)
  rw [Int.zero_add] at s1
  obtain ⟨r1, r2, r3, r4, r5, r6⟩ := rel3_mid (s1.lift s4) hb hT ⟨by omega, by omega⟩
  obtain ⟨e1, e2⟩ := eff_steps (b := b) hT 200 _ 0 hM (Int.le_refl _) (by omega)
  have e0 : m_eff (up r 0 (r 0 + 1)) = m_eff r := m_eff_same (fun d hd => by unfold m_of; exact he _ (by omega))
  have hd0 : m_tick r b = m_rel3 (m_steps b 200 (up r 0 (r 0 + 1))) b := rfl
  rw [hd0, r6]
  omega
theorem eff_pass {r b : RW} {T : Int} (h : Inv r T) (hb : RF b) : ∀ n : Nat, T + n ≤ 2000000 → m_eff r ≤ m_eff (m_pass r b n).1 ∧ m_eff (m_pass r b n).1 ≤ m_eff r + 500 * n := by
  intro n
  induction n with
  | zero => intro _; simp only [m_pass]; omega
  | succ n ih =>
    intro hT
    obtain ⟨i1, i2⟩ := ih (by omega)
    obtain ⟨p1, p2, p3, p4⟩ := pass_inv h hb n (by omega)
    obtain ⟨t1, t2⟩ := eff_tick p1 (by omega) p2
    simp only [m_pass]
    omega
theorem sweepN_rg (r : RW) (n : Nat) : 0 ≤ m_sweepN r n ∧ m_sweepN r n ≤ n := by
  induction n with
  | zero => exact ⟨Int.le_refl _, Int.le_refl _⟩
  | succ n ih =>
    simp only [m_sweepN]
    split <;> omega
/-- what the doing of an order leaves -/
theorem inv_doesT {f B N : RW} {k T : Int} (h : Inv f T) (hB : RF B) (hT : T + 99 ≤ 2000000) (hk : k = 116 → 1 ≤ N 0 ∧ N 0 ≤ 99) (hO : ∃ o, Ord f (m_kept f).toNat o) : Inv (m_does f B N k).1 (T + (if k = 116 then N 0 else 1)) ∧ RF (m_does f B N k).2 ∧ DoesOK f B N k ∧ rg (m_doesC f B N k) := by
  obtain ⟨-, d2, d3⟩ := inv_does h hB hT hk hO
  refine ⟨?_, d2, d3, ?_⟩
  · unfold m_does
    by_cases h1 : k = 98
    · rw [if_pos h1, if_neg (show ¬ k = 116 by omega)]
      by_cases h2 : m_free f = -1
      · show Inv (if m_free f = -1 then f else m_begins f) (T + 1)
        rw [if_pos h2]; exact h.more (by omega)
      · show Inv (if m_free f = -1 then f else m_begins f) (T + 1)
        rw [if_neg h2]; exact (inv_begins h h2).more (by omega)
    · rw [if_neg h1]
      by_cases h2 : k = 119
      · rw [if_pos h2, if_neg (show ¬ k = 116 by omega)]; exact (inv_writes h (by omega) _ _ _)
      · rw [if_neg h2]
        by_cases h3 : k = 99
        · rw [if_pos h3, if_neg (show ¬ k = 116 by omega)]; exact (inv_commits h _).more (by omega)
        · rw [if_neg h3]
          by_cases h4 : k = 100
          · rw [if_pos h4, if_neg (show ¬ k = 116 by omega)]; exact (inv_drops h _).more (by omega)
          · rw [if_neg h4]
            by_cases h5 : k = 116
            · rw [if_pos h5, if_pos h5]
              have := hk h5
              exact (pass_inv h hB (N 0).toNat (by omega)).1.more (by omega)
            · rw [if_neg h5, if_neg h5]
              obtain ⟨o, ho⟩ := hO
              have h3' := h.co.2.1
              exact (inv_sweeps h ho (by unfold m_kept; omega)).more (by omega)
  · unfold m_doesC
    by_cases h1 : k = 98
    · rw [if_pos h1]
      rcases free_rg f with q | ⟨q, q1, q2, -⟩
      · rw [if_pos q]; exact ⟨by omega, by omega⟩
      · rw [if_neg (by omega), q2]; exact ⟨by omega, by omega⟩
    · rw [if_neg h1]
      by_cases h2 : k = 119
      · rw [if_pos h2]
        unfold m_writesC
        have hI := (inv_writes h (by omega) (N 0) (N 1) (N 2)).ti.2.1
        by_cases z1 : m_open f (N 0) = false
        · rw [if_pos z1]; exact ⟨by omega, by omega⟩
        · rw [if_neg z1]
          by_cases z2 : ¬ ((0 ≤ N 1 ∧ N 1 ≤ 3) ∧ (0 ≤ N 2 ∧ N 2 ≤ 99))
          · rw [if_pos z2]; exact ⟨by omega, by omega⟩
          · rw [if_neg z2]
            by_cases z3 : m_its f (N 0) 1 = 6
            · rw [if_pos z3]; exact ⟨by omega, by omega⟩
            · rw [if_neg z3]
              have e : m_writes f (N 0) (N 1) (N 2) = m_writesR f (N 0) (N 1) (N 2) := by unfold m_writes; rw [if_neg z1, if_neg z2, if_neg z3]
              rw [e] at hI
              exact ⟨by omega, by omega⟩
      · rw [if_neg h2]
        by_cases h3 : k = 99
        · rw [if_pos h3]
          have hI := (inv_commits h (N 0)).co
          unfold m_commitsC
          by_cases z1 : m_open f (N 0) = false
          · rw [if_pos z1]; exact ⟨by omega, by omega⟩
          · rw [if_neg z1]
            by_cases z2 : m_kept f + m_its f (N 0) 1 > 60 ∨ f 2 + m_its f (N 0) 1 > 200
            · rw [if_pos z2]; exact ⟨by omega, by omega⟩
            · rw [if_neg z2]
              have e : m_commits f (N 0) = up (m_commitL f (N 0) (m_its f (N 0) 1).toNat) (17 + 20 * N 0 + 0) 0 := by unfold m_commits; rw [if_neg z1, if_neg z2]
              rw [← e]
              have h1' := hI.1
              have h2' := hI.2.1
              unfold m_kept
              exact ⟨by omega, by omega⟩
        · rw [if_neg h3]
          by_cases h4 : k = 100
          · rw [if_pos h4]
            unfold m_dropsC
            by_cases z1 : m_open f (N 0) = false
            · rw [if_pos z1]; exact ⟨by omega, by omega⟩
            · rw [if_neg z1]
              exact rg_its (inv_drops h (N 0)).rf _ _
          · rw [if_neg h4]
            by_cases h5 : k = 116
            · rw [if_pos h5]
              have := hk h5
              have e := eff_pass h hB (N 0).toNat (by omega)
              exact ⟨by omega, by omega⟩
            · rw [if_neg h5]
              have e := sweepN_rg f (f 2).toNat
              have h2' := h.co.1
              unfold m_sweepsC
              exact ⟨by omega, by omega⟩
/-! ===== the class's reading of an order, and the reference's numbers ===== -/
theorem t_run_cg {S b : RW} {n : Nat} (h : ∀ k : Nat, k < n → S k = b k) : ∀ k : Nat, k ≤ n → t_run S k = t_run b k := by
  intro k
  induction k with
  | zero => intro _; rfl
  | succ k ih =>
    intro hk
    show t_after (t_run S k) (S k) = t_after (t_run b k) (b k)
    rw [ih (by omega), h k (by omega)]
theorem dig_in {S b : RW} {n i : Nat} (h : ∀ k : Nat, k < n → S k = b k) (hi : i < n) (hd : 48 ≤ b i ∧ b i ≤ 57) : t_dig S n i = b i - 48 := by
  have e : t_sign S n i = b i := by unfold t_sign; rw [if_pos (by omega), h i hi]
  unfold t_dig; rw [e, if_pos hd]
theorem dig_out {S b : RW} {n i : Nat} (h : ∀ k : Nat, k < n → S k = b k) (hi : n ≤ i ∨ b i = 59) : t_dig S n i = -1 := by
  unfold t_dig
  by_cases z : i < n
  · have e : t_sign S n i = b i := by unfold t_sign; rw [if_pos (by omega), h i z]
    rw [e, if_neg (by omega)]
  · have e : t_sign S n i = -1 := by unfold t_sign; rw [if_neg (by omega)]
    rw [e, if_neg (by decide)]
theorem num_in {S b : RW} {n s c : Nat} {v : Int} (h : ∀ k : Nat, k < n → S k = b k) (hv : NumAt b s c v) (hc : c ≤ n) (hx : c = n ∨ b c = 59) : t_num S n s = v := by
  obtain ⟨h1, ⟨h2, h3⟩ | ⟨h2, h3, h4⟩⟩ := hv
  · have e1 := dig_in h (i := s) (by omega) h1
    have e2 : t_dig S n ((s + 1 : Nat) : Int) = -1 := dig_out h (i := s + 1) (by rw [h2] at hx; omega)
    unfold t_num
    rw [show (s : Int) + 1 = ((s + 1 : Nat) : Int) from rfl, if_pos e2, e1, h3]
  · have e1 := dig_in h (i := s) (by omega) h1
    have e2 := dig_in h (i := s + 1) (by omega) h3
    unfold t_num
    rw [show (s : Int) + 1 = ((s + 1 : Nat) : Int) from rfl, e2, if_neg (by omega), e1, h4]
theorem ord_t {b : RW} {a c : Nat} {M : RW} (h : OrdV b a c M) (h1 : a < c) : (if b a = 116 then M 0 else 1) ≤ 25 * ((c : Int) + 1 - a) := by
  rcases h with h | ⟨h, -⟩ | ⟨h, hv⟩ | ⟨h, -⟩
  · rw [if_neg (by omega)]; omega
  · rw [if_neg (by omega)]; omega
  · rw [if_pos h]
    obtain ⟨v1, ⟨v2, v3⟩ | ⟨v2, v3, v4⟩⟩ := hv <;> omega
  · rw [if_neg (by omega)]; omega
