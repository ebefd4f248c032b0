/-! ===== a whole tick: what it leaves ===== -/
def φr (d : Nat) : Int → Int → Int → Int → Int := fun k w l _ => if k = 0 ∧ w = d then l else 0
def φk (κ : Int) : Int → Int → Int → Int → Int := fun k _ _ _ => if k = κ then 1 else 0
def φg (κ : Int) (d : Nat) (v : Int) : Int → Int → Int → Int → Int := fun k w _ x => if k = κ ∧ w = d ∧ v < x then 1 else 0
def φe (κ : Int) (d : Nat) (v : Int) : Int → Int → Int → Int → Int := fun k w _ x => if k = κ ∧ w = d ∧ x = v then 1 else 0
/-- v is the greatest of what stands there and what comes -/
def MX (r : RW) (κ s : Int) (d : Nat) (v : Int) : Prop := m_of r d s ≤ v ∧ dSum r (φg κ d v) = 0 ∧ (v = m_of r d s ∨ 0 < dSum r (φe κ d v))
theorem mx_step {r g : RW} {n : Nat} {κ s : Int} {d : Nat} {v : Int} (h1 : m_of g d s = if m_way r n 0 = κ ∧ m_way r n 1 = d then (if m_way r n 4 ≤ m_of r d s then m_of r d s else m_way r n 4) else m_of r d s) (hφ : ∀ φ, dSum g φ = dSum r φ - φ (m_way r n 0) (m_way r n 1) (m_way r n 3) (m_way r n 4)) (h : MX r κ s d v) : MX g κ s d v := by
  obtain ⟨a1, a2, a3⟩ := h
  have p1 := hφ (φg κ d v)
  have p2 := hφ (φe κ d v)
  have q1 : 0 ≤ dSum g (φg κ d v) := dSum_pos fun a b c e => by unfold φg; split <;> decide
  have q2 : 0 ≤ φg κ d v (m_way r n 0) (m_way r n 1) (m_way r n 3) (m_way r n 4) := by unfold φg; split <;> decide
  unfold MX
  by_cases z : m_way r n 0 = κ ∧ m_way r n 1 = d
  · rw [if_pos z] at h1
    have hle : ¬ v < m_way r n 4 := fun y => by
      have : φg κ d v (m_way r n 0) (m_way r n 1) (m_way r n 3) (m_way r n 4) = 1 := if_pos ⟨z.1, z.2, y⟩
      omega
    refine ⟨by rw [h1]; split <;> omega, by omega, ?_⟩
    by_cases y : m_way r n 4 = v
    · left; rw [h1]; split <;> omega
    · have : φe κ d v (m_way r n 0) (m_way r n 1) (m_way r n 3) (m_way r n 4) = 0 := if_neg fun x => y x.2.2
      rw [this] at p2
      rcases a3 with x | x
      · left; rw [h1]; split <;> omega
      · right; omega
  · rw [if_neg z] at h1
    have : φe κ d v (m_way r n 0) (m_way r n 1) (m_way r n 3) (m_way r n 4) = 0 := if_neg fun x => z ⟨x.1, x.2.1⟩
    rw [this] at p2
    exact ⟨by omega, by omega, by omega⟩
def StT (r g : RW) : Prop := (∀ d : Nat, d < 3 → ∀ v : Int, (MX r 0 1 d v → m_of g d 1 = v) ∧ (MX r 1 8 d v → m_of g d 8 = v)) ∧ (∀ d : Nat, d < 3 → m_of g d 3 + m_of g d 5 = m_of r d 3 + m_of r d 5 + dSum r (φr d)) ∧ g 7 = r 7 + dSum r (φk 1) ∧ g 4 = r 4 + dSum r (φk 0) ∧ g 6 = r 6 ∧ g 9 + g 5 - g 4 = r 9 + r 5 - r 4 - dcN r
theorem steps_e {b : RW} {T : Int} (hT : T ≤ 2000000) : ∀ (s : Nat) (r : RW) (D B : Int), Mid r T 0 0 D → Ew r B → 0 ≤ D → dcN r ≤ s → D + dcN r ≤ 57 → B + 8 * dcN r ≤ 1000000 → Ew (m_steps b s r) (B + 8 * dcN r) ∧ StT r (m_steps b s r) := by
  have base : ∀ (r : RW) (B : Int), Ew r B → dcN r = 0 → Ew r (B + 8 * dcN r) ∧ StT r r := fun r B hE e => by
    refine ⟨by rw [e]; simpa using hE, fun d hd v => ⟨fun h => ?_, fun h => ?_⟩, fun d hd => by rw [ds_none e]; omega, by rw [ds_none e]; omega, by rw [ds_none e]; omega, rfl, by omega⟩
    · have := h.2.2; rw [ds_none e] at this; omega
    · have := h.2.2; rw [ds_none e] at this; omega
  intro s
  induction s with
  | zero =>
    intro r D B hM hE h0 hs hD hB
    have h9 := hM.nine
    have hz := (dcN_rg r h9.1).1
    exact base r B hE (by omega)
  | succ s ih =>
    intro r D B hM hE h0 hs hD hB
    have h9 := hM.nine
    have hz := (dcN_rg r h9.1).1
    by_cases e : dcN r = 0
    · simp only [m_steps]
      rw [if_pos (due_none e)]
      exact base r B hE e
    · obtain ⟨N, n, hN, hm, hw, hdue, k1, k2, k3, k4, k5, k6⟩ := hM.step (b := b) hT ⟨h0, by omega⟩ (by omega)
      have hst : m_step r b = m_stepN r b n := step_is hdue
      have hne : m_due r ≠ -1 := by rw [hdue]; omega
      obtain ⟨s1, s2, s3, s4, ⟨s5, s6, s7, s8⟩, s9⟩ := step_e (b := b) hM hE hN hm hw hT ⟨h0, by omega⟩ (by omega)
      obtain ⟨i1, i2, i3, i4, i5, i6, i7⟩ := ih (m_stepN r b n) (D + 1) (B + 8) k1 s1 (by omega) (by rw [k4]; omega) (by rw [k4]; omega) (by rw [k4]; omega)
      simp only [m_steps]
      rw [if_neg hne, hst]
      rw [k4] at i1 i7
      rw [show B + 8 + 8 * (dcN r - 1) = B + 8 * dcN r by omega] at i1
      refine ⟨i1, fun d hd v => ⟨fun h => (i2 d hd v).1 (mx_step (s2 d hd) s9 h), fun h => (i2 d hd v).2 (mx_step (s3 d hd) s9 h)⟩, fun d hd => ?_, ?_, ?_, by omega, by omega⟩
      · rw [i3 d hd, s4 d hd, s9]
        show _ = _
        unfold φr; split <;> omega
      · rw [i4, s5, s9]
        unfold φk; split <;> omega
      · rw [i5, s6, s9]
        unfold φk; split <;> omega
theorem rel3_e {r b : RW} {T D Q : Int} (hM : Mid r T 1 0 D) (hE : Ew r Q) (hb : RF b) (hT : T ≤ 2000000) (hD : 0 ≤ D ∧ D ≤ 57) : Ew (m_rel3 r b).1 Q ∧ RlS r (m_rel3 r b).1 3 := by
  obtain ⟨a1, -, -, -, a5, -⟩ := relays_mid (c := 0) hM hb (by decide) hT ⟨hD.1, by omega⟩
  obtain ⟨e1, e2⟩ := relays_e (c := 0) hM hE hb (by decide) hT ⟨hD.1, by omega⟩
  obtain ⟨b1, -, -, -, b5, -⟩ := relays_mid (c := 1) a1 a5 (by decide) hT ⟨by omega, by omega⟩
  obtain ⟨f1, f2⟩ := relays_e (c := 1) a1 e1 a5 (by decide) hT ⟨by omega, by omega⟩
  obtain ⟨g1, g2⟩ := relays_e (c := 2) b1 f1 b5 (by decide) hT ⟨by omega, by omega⟩
  exact ⟨g1, (e2.trans f2).trans g2⟩
/-- what a tick brings, by what is due in it -/
def TkS (f g : RW) : Prop := (∀ d : Nat, d < 3 → ∀ v : Int, (MX (up f 0 (f 0 + 1)) 0 1 d v → m_of g d 1 = v) ∧ (MX (up f 0 (f 0 + 1)) 1 8 d v → m_of g d 8 = v)) ∧ (∀ d : Nat, d < 3 → m_of g d 3 + m_of g d 5 = m_of f d 3 + m_of f d 5 + dSum (up f 0 (f 0 + 1)) (φr d)) ∧ g 7 = f 7 + dSum (up f 0 (f 0 + 1)) (φk 1) ∧ g 4 - g 6 = f 4 - f 6 + dSum (up f 0 (f 0 + 1)) (φk 0) ∧ g 9 + g 5 - g 4 = f 9 + f 5 - f 4 - dcN (up f 0 (f 0 + 1)) ∧ f 6 ≤ g 6 ∧ g 6 ≤ f 6 + 3
theorem tick_e {f b : RW} {T B : Int} (h : Inv f T) (hE : Ew f B) (hT : T + 1 ≤ 2000000) (hb : RF b) (hB : B ≤ 900000) : Ew (m_tick f b).1 (B + 460) ∧ TkS f (m_tick f b).1 := by
  obtain ⟨hM, h0, hj⟩ := h.start hT
  have b2 := h.co.1
  have h24 : ∀ c : Nat, c < 3 → m_of f c 2 ≤ 24 := fun c hc => by have := (h.re c hc).2.2.1; omega
  have hE0 : Ew (up f 0 (f 0 + 1)) B := hE.same h.me.mk b2.2 h24 (fun j hj' => hj j (by omega)) (fun d x hd h1 h2 _ _ _ _ => by unfold m_of; exact hj _ (by omega))
  have hof : ∀ (d : Nat) (x : Int), 0 ≤ x → m_of (up f 0 (f 0 + 1)) d x = m_of f d x := fun d x hx => by unfold m_of; exact hj _ (by omega)
  have h9 := hM.nine
  have hdc := dcN_rg _ h9.1
  unfold m_tick
  obtain ⟨m1, -, -, m4, -⟩ := steps_mid (b := b) hT 200 _ 0 hM (by decide) (by omega) (by omega)
  obtain ⟨s1, s2, s3, s4, s5, s6, s7⟩ := steps_e (b := b) hT 200 _ 0 B hM hE0 (by decide) (by omega) (by omega) (by omega)
  obtain ⟨r1, r2, r3, r4, r5, r6, r7⟩ := rel3_e (m1.lift m4) s1 hb hT ⟨by omega, by omega⟩
  unfold TkS
  rw [hj 7 (by decide)] at s4
  rw [hj 4 (by decide)] at s5
  rw [hj 6 (by decide)] at s6
  rw [hj 9 (by decide), hj 5 (by decide), hj 4 (by decide)] at s7
  refine ⟨r1.more (by omega), fun d hd v => ⟨fun hx => ?_, fun hx => ?_⟩, fun d hd => ?_, by omega, by omega, by omega, by omega, by omega⟩
  · rw [(r2 d hd).1]; exact (s2 d hd v).1 hx
  · rw [(r2 d hd).2.2.2]; exact (s2 d hd v).2 hx
  · rw [(r2 d hd).2.1, (r2 d hd).2.2.1, s3 d hd, hof d 3 (by decide), hof d 5 (by decide)]
