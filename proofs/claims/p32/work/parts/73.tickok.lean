/-! ===== a whole tick ===== -/
theorem lexmin_ex (r : RW) : ∀ N : Nat, 0 < N → ∃ n, LexMin r N n := by
  intro N
  induction N with
  | zero => intro h; omega
  | succ N ih =>
    intro _
    by_cases q : N = 0
    · subst q; exact ⟨0, by omega, fun m hm hne => by omega⟩
    · obtain ⟨n, h1, h2⟩ := ih (by omega)
      by_cases z : m_way r N 2 < m_way r n 2
      · refine ⟨N, by omega, fun m hm hne => ?_⟩
        by_cases y : m = n
        · subst y; exact Or.inl z
        · have := h2 m (by omega) y
          unfold Lex at *; omega
      · refine ⟨n, by omega, fun m hm hne => ?_⟩
        by_cases y : m = N
        · subst y; unfold Lex; omega
        · exact h2 m (by omega) hne
theorem step_is {r : RW} {b : RW} {n : Nat} (h : m_due r = n) : m_step r b = m_stepN r b n := by
  unfold m_step m_stepN; rw [h]
theorem Mid.nine {r : RW} {T lo e D : Int} (h : Mid r T lo e D) : 0 ≤ r 9 ∧ r 9 ≤ 54 := ⟨h.1.co.2.2.2.1, h.1.ni⟩
/-- the next step, if one is due -/
theorem Mid.step {r b : RW} {T D : Int} (hM : Mid r T 0 0 D) (hT : T ≤ 2000000) (hD : 0 ≤ D ∧ D ≤ 60) (hd : 0 < dcN r) : ∃ N n : Nat, r 9 = N ∧ LexMin r N n ∧ m_way r n 2 ≤ r 0 ∧ m_due r = n ∧ Mid (m_stepN r b n) T 0 0 (D + 1) ∧ TF r (m_stepN r b n) ∧ m_stepN r b n 0 = r 0 ∧ dcN (m_stepN r b n) = dcN r - 1 ∧ BP r n ∧ m_eff (m_stepN r b n) = m_eff r + c_eff r n (m_way r n 1) (m_way r n 3).toNat := by
  have h9 := hM.nine
  obtain ⟨N, hN⟩ : ∃ N : Nat, r 9 = N := ⟨(r 9).toNat, by omega⟩
  have hle := (dcN_rg r h9.1).2
  obtain ⟨n, hm⟩ := lexmin_ex r N (by omega)
  have hw := dc_first hN hm hM.2.1 hd
  have hdue := due_at hN hm hM.2.1
  rw [if_pos hw] at hdue
  have := step_mid (b := b) hM hN hm hw hT hD
  exact ⟨N, n, hN, hm, hw, hdue, this.1, this.2.1, this.2.2.1, this.2.2.2.1, this.2.2.2.2⟩
theorem steps_mid {b : RW} {T : Int} (hT : T ≤ 2000000) : ∀ (s : Nat) (r : RW) (D : Int), Mid r T 0 0 D → 0 ≤ D → dcN r ≤ s → D + dcN r ≤ 57 → Mid (m_steps b s r) T 0 0 (D + dcN r) ∧ TF r (m_steps b s r) ∧ m_steps b s r 0 = r 0 ∧ dcN (m_steps b s r) = 0 ∧ (Rel3Pre (m_steps b s r) b → StepsOK b s r) := by
  intro s
  induction s with
  | zero =>
    intro r D hM h0 hs hD
    have h9 := hM.nine
    have hz := (dcN_rg r h9.1).1
    have e : dcN r = 0 := by omega
    simp only [m_steps]
    rw [e, Int.add_zero]
    exact ⟨hM, TF.refl r, trivial, rfl, fun h => ⟨⟨h9.1, by omega⟩, due_none e, h⟩⟩
  | succ s ih =>
    intro r D hM h0 hs hD
    have h9 := hM.nine
    have hz := (dcN_rg r h9.1).1
    by_cases e : dcN r = 0
    · simp only [m_steps]
      rw [if_pos (due_none e)]
      rw [e, Int.add_zero]
      exact ⟨hM, TF.refl r, rfl, rfl, fun h => ⟨⟨h9.1, by omega⟩, Or.inl ⟨due_none e, h⟩⟩⟩
    · obtain ⟨N, n, hN, hm, hw, hdue, k1, k2, k3, k4, k5, k6⟩ := hM.step (b := b) hT ⟨h0, by omega⟩ (by omega)
      have hst : m_step r b = m_stepN r b n := step_is hdue
      have hne : m_due r ≠ -1 := by rw [hdue]; omega
      obtain ⟨i1, i2, i3, i4, i5⟩ := ih (m_stepN r b n) (D + 1) k1 (by omega) (by rw [k4]; omega) (by rw [k4]; omega)
      simp only [m_steps]
      rw [if_neg hne, hst]
      rw [k4, show D + 1 + (dcN r - 1) = D + dcN r by omega] at i1
      exact ⟨i1, k2.trans i2, i3.trans k3, i4, fun h => ⟨⟨h9.1, by omega⟩, Or.inr ⟨hne, by unfold StepPre; rw [hdue]; exact k5, by rw [hst]; exact i5 h⟩⟩⟩
theorem Mid.lift {r : RW} {T D : Int} (hM : Mid r T 0 0 D) (hd : dcN r = 0) : Mid r T 1 0 D := by
  obtain ⟨hB, ⟨og, hG⟩, hI⟩ := hM
  have h9 := hB.co.2.2.2.1
  have h0 := (sumN_pos0 (f := fun m => if m_way r m 2 ≤ r 0 then 1 else 0) (r 9).toNat (fun k _ => by split <;> decide)).mp hd
  refine ⟨hB, ⟨og, fun n hn => ?_⟩, hI⟩
  obtain ⟨⟨a1, a2, a3, a4⟩, c, d⟩ := hG n hn
  have hz := h0 n (by omega)
  have : ¬ m_way r n 2 ≤ r 0 := fun q => by rw [if_pos q] at hz; omega
  exact ⟨⟨a1, a2, ⟨by omega, a3.2⟩, a4⟩, c, d⟩
theorem Inv.start {r : RW} {T : Int} (h : Inv r T) (hT : T + 1 ≤ 2000000) : Mid (up r 0 (r 0 + 1)) (T + 1) 0 0 0 ∧ (up r 0 (r 0 + 1)) 0 = r 0 + 1 ∧ ∀ j, j ≠ 0 → (up r 0 (r 0 + 1)) j = r j := by
  obtain ⟨⟨i0, i1⟩, i2, i3, i4, i5⟩ := h.ti
  have hx : (up r 0 (r 0 + 1)) 0 = r 0 + 1 := by rw [up_s, wr_id ⟨by omega, by omega⟩]
  have e : ∀ j, j ≠ 0 → (up r 0 (r 0 + 1)) j = r j := fun j hj => up_n _ _ hj
  have rG := rf_up h.rf 0 (r 0 + 1)
  have hni := h.nine
  generalize up r 0 (r 0 + 1) = g at hx e rG ⊢
  have eo : ∀ (c : Nat) (x : Int), 0 ≤ x → m_of g c x = m_of r c x := fun c x hx0 => by unfold m_of; exact e _ (by omega)
  have ei : ∀ (p : Nat) (x : Int), 0 ≤ x → m_its g p x = m_its r p x := fun c x hx0 => by unfold m_its; exact e _ (by omega)
  refine ⟨⟨⟨rG, ?_, ?_, fun p hp => ?_, fun j hj => ?_, fun c hc => ?_, by rw [e 9 (by decide)]; exact hni.2⟩, ?_, ?_⟩, hx, e⟩
  · obtain ⟨c1, c2, c3, c4⟩ := h.co
    unfold ICo m_kept at *
    rw [e 2 (by decide), e 3 (by decide), e 9 (by decide), e 5 (by decide), e 4 (by decide), e 6 (by decide), e 8 (by decide)]
    exact ⟨c1, c2, c3, c4⟩
  · have := h.se
    unfold ISe at *
    rw [e 10 (by decide), e 11 (by decide), e 12 (by decide), e 13 (by decide), e 14 (by decide), e 15 (by decide), e 16 (by decide)]
    exact this
  · have := h.pl p hp
    rw [ei p 0 (by decide), ei p 1 (by decide), e 1 (by decide)]
    exact ⟨this.1, this.2.1, fun i hi => by rw [ei p _ (by omega), ei p _ (by omega), ei p _ (by omega)]; exact this.2.2 i hi⟩
  · rw [e 2 (by decide)] at hj
    have := h.ro j hj
    unfold m_write at *
    rw [e (97 + 3 * (j : Int)) (by omega), e (97 + 3 * (j : Int) + 1) (by omega), e (97 + 3 * (j : Int) + 2) (by omega), e 1 (by decide)]
    exact this
  · have := h.re c hc
    rw [eo c 0 (by decide), eo c 1 (by decide), eo c 2 (by decide), eo c 8 (by decide), eo c 9 (by decide), eo c 11 (by decide), eo c 10 (by decide), hx]
    exact ⟨this.1, this.2.1, this.2.2.1, this.2.2.2.1, this.2.2.2.2.1, ⟨this.2.2.2.2.2.1.1, by have := this.2.2.2.2.2.1.2; omega⟩, this.2.2.2.2.2.2⟩
  · obtain ⟨og, ho⟩ := h.me
    refine ⟨og, fun n hn => ?_⟩
    rw [e 9 (by decide)] at hn
    obtain ⟨⟨a1, a2, a3, a4, a5, a6, a7, a8, a9, a10⟩, c, d⟩ := ho n hn
    have ew : ∀ (m : Nat) (x : Int), 0 ≤ x → m_way g m x = m_way r m x := fun m x h0 => way_keep (fun j hj => e j (by omega)) (by omega) h0
    refine ⟨?_, fun z => by rw [hx] at z; omega, fun m hm hne => by rw [e 9 (by decide)] at hm; rw [ew n 1 (by decide), ew m 1 (by decide)]; exact d m hm hne⟩
    unfold IMe1
    rw [hx, e 2 (by decide), ew n 0 (by decide), ew n 1 (by decide), ew n 2 (by decide), ew n 3 (by decide), ew n 4 (by decide)]
    refine ⟨a1, a2, ⟨by omega, by omega⟩, a4, a5, fun k hk => ?_, by omega, a8, a9, a10⟩
    rw [rowOf_keep (fun j hj => e j (by omega)) (by omega) (by omega)]; exact a6 k hk
  · unfold ITm
    rw [hx, e 1 (by decide), e 4 (by decide), e 6 (by decide)]
    exact ⟨⟨by omega, by omega⟩, ⟨by omega, by omega⟩, by omega, by omega, fun c hc => by rw [eo c 3 (by decide)]; have := i5 c hc; omega⟩
theorem Mid.done {r : RW} {T D : Int} (h : Mid r T 1 3 D) (hD : D ≤ 60) (hd : IDi r) : Inv r T := by
  obtain ⟨hB, hM, ⟨⟨i0, i1⟩, i2, i3, i4, i5⟩⟩ := h
  exact ⟨hB.rf, ⟨⟨by omega, i1⟩, i2, by omega, by omega, fun c hc => by have := i5 c hc; omega⟩, hB.co, hB.se, hB.pl, hB.ro, hd, hB.re, hM⟩
theorem rel3_mid {r b : RW} {T D : Int} (hM : Mid r T 1 0 D) (hb : RF b) (hT : T ≤ 2000000) (hD : 0 ≤ D ∧ D ≤ 57) : Mid (m_rel3 r b).1 T 1 3 (D + 3) ∧ TF r (m_rel3 r b).1 ∧ (m_rel3 r b).1 0 = r 0 ∧ Rel3Pre r b ∧ RF (m_rel3 r b).2 ∧ m_eff (m_rel3 r b).1 = m_eff r := by
  obtain ⟨a1, a2, a3, a4, a5, a6⟩ := relays_mid (c := 0) hM hb (by decide) hT ⟨hD.1, by omega⟩
  obtain ⟨b1, b2, b3, b4, b5, b6⟩ := relays_mid (c := 1) a1 a5 (by decide) hT ⟨by omega, by omega⟩
  obtain ⟨c1, c2, c3, c4, c5, c6⟩ := relays_mid (c := 2) b1 b5 (by decide) hT ⟨by omega, by omega⟩
  have c1' : Mid (m_rel3 r b).1 T 1 3 (D + 1 + 1 + 1) := c1
  rw [show D + 1 + 1 + 1 = D + 3 by omega] at c1'
  exact ⟨c1', a2.trans (b2.trans c2), c3.trans (b3.trans a3), ⟨a4, b4, c4⟩, c5, c6.trans (b6.trans a6)⟩
theorem tick_inv {r b : RW} {T : Int} (h : Inv r T) (hT : T + 1 ≤ 2000000) (hb : RF b) : Inv (m_tick r b).1 (T + 1) ∧ TickOK r b ∧ (m_tick r b).1 0 = r 0 + 1 ∧ RF (m_tick r b).2 ∧ TF r (m_tick r b).1 := by
  obtain ⟨hM, hx, he⟩ := h.start hT
  have h9 := hM.nine
  have hdc := dcN_rg _ h9.1
  obtain ⟨s1, s2, s3, s4, s5⟩ := steps_mid (b := b) hT 200 _ 0 hM (Int.le_refl _) (by omega) (by omega)
  rw [Int.zero_add] at s1
  obtain ⟨r1, r2, r3, r4, r5, -⟩ := rel3_mid (s1.lift s4) hb hT ⟨by omega, by omega⟩
  have hTF0 : TF r (up r 0 (r 0 + 1)) := ⟨fun j hj => he j (by omega), fun k hk => by unfold m_write; exact he _ (by omega)⟩
  have hTF : TF r (m_tick r b).1 := hTF0.trans (s2.trans r2)
  have hdi : IDi (m_tick r b).1 := hTF.di h.co.1.2 (fun p hp => (h.pl p hp).2.1.2) h.di
  exact ⟨Mid.done r1 (by omega) hdi, s5 r4, (r3.trans s3).trans hx, r5, hTF⟩
theorem pass_inv {r b : RW} {T : Int} (h : Inv r T) (hb : RF b) : ∀ n : Nat, T + n ≤ 2000000 → Inv (m_pass r b n).1 (T + n) ∧ RF (m_pass r b n).2 ∧ (m_pass r b n).1 0 = r 0 + n ∧ TF r (m_pass r b n).1 := by
  intro n
  induction n with
  | zero => intro _; rw [show T + ((0 : Nat) : Int) = T by omega]; exact ⟨h, hb, by simp [m_pass], TF.refl r⟩
  | succ n ih =>
    intro hT
    obtain ⟨i1, i2, i3, i4⟩ := ih (by omega)
    obtain ⟨t1, t2, t3, t4, t5⟩ := tick_inv i1 (by omega) i2
    rw [show T + (n : Int) + 1 = T + ((n + 1 : Nat) : Int) by omega] at t1
    exact ⟨t1, t4, by simp only [m_pass]; rw [t3, i3]; omega, i4.trans t5⟩
theorem pass_ok {r b : RW} {T : Int} (h : Inv r T) (hb : RF b) {n : Nat} (hT : T + n ≤ 2000000) : PassOK r b n := fun k hk => by
  obtain ⟨i1, i2, i3, i4⟩ := pass_inv h hb k (by omega)
  exact (tick_inv i1 (by omega) i2).2.1
