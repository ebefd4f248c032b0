/-! ===== the relay and the row ===== -/
/-- in the block of length n at a all is as it was -/
def Lo (u w : Mem) (a n : Nat) : Prop := ∀ q, a ≤ q → q < a + n → mSh w q = mSh u q ∧ mI w q = mI u q ∧ mP w q = mP u q
theorem StO.loc {u w : Mem} {a : Nat} (h : StO u a) (e : ∀ q, a ≤ q → q < a + 146 → mSh w q = mSh u q ∧ mP w q = mP u q) : StO w a := by
  have hs : ∀ q, a ≤ q → q < a + 146 → mSh w q = mSh u q := fun q h1 h2 => (e q h1 h2).1
  have hp : ∀ q, a ≤ q → q < a + 146 → mP w q = mP u q := fun q h1 h2 => (e q h1 h2).2
  obtain ⟨h1, ⟨h2, h3⟩, ⟨h4, h5⟩, h6, ⟨h7, h8⟩, ⟨h9, h10⟩, h11, h12, h13⟩ := h
  have e0 : mP w a = mP u a := hp a (by omega) (by omega)
  refine ⟨by rw [hs a (by omega) (by omega)]; exact h1, ⟨by rw [e0]; exact h2, by rw [hs (a + 1) (by omega) (by omega)]; exact h3⟩, ⟨by rw [e0]; exact h4, by rw [hs (a + 2) (by omega) (by omega)]; exact h5⟩, fun p hp4 => ?_, ⟨by rw [e0]; exact h7, ?_⟩, ⟨by rw [e0]; exact h9, by rw [hs (a + 27) (by omega) (by omega)]; exact h10⟩, fun i hi => ?_, by rw [e0]; exact h12, ?_⟩
  · obtain ⟨a1, a2⟩ := h6 p hp4
    refine ⟨by rw [hp (a + 2) (by omega) (by omega)]; exact a1, ?_⟩
    unfold TrO at a2 ⊢
    rw [hs (a + 3 + 4 * p) (by omega) (by omega), hs (a + 3 + 4 * p + 1) (by omega) (by omega), hs (a + 3 + 4 * p + 2) (by omega) (by omega), hs (a + 3 + 4 * p + 3) (by omega) (by omega), hp (a + 3 + 4 * p) (by omega) (by omega)]; exact a2
  · unfold RoO at h8 ⊢
    rw [hs (a + 19) (by omega) (by omega), hs (a + 19 + 1) (by omega) (by omega), hs (a + 19 + 2) (by omega) (by omega), hs (a + 19 + 3) (by omega) (by omega), hs (a + 19 + 4) (by omega) (by omega), hs (a + 19 + 5) (by omega) (by omega), hs (a + 19 + 6) (by omega) (by omega), hs (a + 19 + 7) (by omega) (by omega), hp (a + 19) (by omega) (by omega)]; exact h8
  · obtain ⟨a1, a2⟩ := h11 i hi
    refine ⟨by rw [hp (a + 27) (by omega) (by omega)]; exact a1, ?_⟩
    unfold ReO at a2 ⊢
    rw [hs (a + 28 + 2 * i) (by omega) (by omega), hs (a + 28 + 2 * i + 1) (by omega) (by omega), hp (a + 28 + 2 * i) (by omega) (by omega)]; exact a2
  · obtain ⟨b1, b2, b3, b4⟩ := h13
    refine ⟨by rw [hs (a + 34) (by omega) (by omega)]; exact b1, ⟨by rw [hp (a + 34) (by omega) (by omega)]; exact b2.1, by rw [hs (a + 34 + 1) (by omega) (by omega)]; exact b2.2⟩, fun t ht => ?_, ?_⟩
    · have := b3 t ht
      unfold MsO at this ⊢
      rw [hs (a + 34 + 2 + 2 * t) (by omega) (by omega), hs (a + 34 + 2 + 2 * t + 1) (by omega) (by omega), hp (a + 34 + 2 + 2 * t) (by omega) (by omega)]; exact this
    · unfold QuO at b4 ⊢
      rw [hp (a + 34 + 1) (by omega) (by omega)]; exact b4
theorem RS.loc {u w : Mem} {a : Nat} {r : RW} (h : RS u a r) (hB : IB r) (hl : Lo u w a 146) : RS w a r := by
  have e : ∀ q, a ≤ q → q < a + 146 → mI w q = mI u q := fun q h1 h2 => (hl q h1 h2).2.1
  refine ⟨h.o.loc (fun q h1 h2 => ⟨(hl q h1 h2).1, (hl q h1 h2).2.2⟩), ⟨by rw [e a (by omega) (by omega)]; exact h.tick, by rw [e a (by omega) (by omega)]; exact h.writ⟩, fun i hi => by rw [e (a + 1) (by omega) (by omega)]; exact h.set hi, fun p hp => ?_, ?_, fun d hd => ?_, ?_⟩
  · exact (h.t hp).keep (fun q h1 h2 => e q (by omega) (by omega)) (fun j _ _ => rfl) (hB.pl p hp).2.1.2
  · exact h.r.keep (fun q h1 h2 => e q (by omega) (by omega)) (fun j _ => rfl) hB.co.1.2
  · exact (h.c hd).keep (e _ (by omega) (by omega)) (e _ (by omega) (by omega)) (fun j _ _ => rfl) (by have := (hB.re d hd).2.2.1; omega)
  · exact h.l.keep h.o.l (fun q h1 h2 => e q (by omega) (by omega)) (hl _ (by omega) (by omega)).2.2 (fun j _ => rfl) hB.ni
/-- the relay at x: now at x + 1, the saved ones' array at x + 147, the text at x + 148, its signs at x + 149; slots 0..5 saved, 6 the snapshot, 7 the trial -/
def qR (x i : Nat) : Nat := if i < 6 then x + 147 else x
def qK (i : Nat) : Int := if i < 6 then (i : Int) else (i : Int) - 2
def qS (u : Mem) (x i : Nat) : Option Nat := mP u (qR x i) (qK i)
def RXo (u : Mem) (x : Nat) : Prop := mSh u x = some (.inl 7) ∧ mP u x 0 = some (x + 1) ∧ (mP u x 1 = some (x + 147) ∧ mSh u (x + 147) = some (.inr (2, 6))) ∧ (mP u x 2 = some (x + 148) ∧ TeO u (x + 148))
def RXq (u : Mem) (x : Nat) : Prop := x + 150 ≤ mN u ∧ (∀ i, i < 8 → ∀ a, qS u x i = some a → (x + 150 ≤ a ∧ a + 146 ≤ mN u) ∧ StO u a) ∧ ∀ i j, i < 8 → j < 8 → i ≠ j → ∀ a b, qS u x i = some a → qS u x j = some b → a + 146 ≤ b ∨ b + 146 ≤ a
def RXs (u : Mem) (x : Nat) (s : Int) (P : RW) (T : Int) : Prop := mI u x 3 = s ∧ (0 ≤ s ∧ s ≤ 6) ∧ ∀ k : Nat, (k : Int) < s → ∃ a, qS u x k = some a ∧ RS u a (m_past P k) ∧ Inv (m_past P k) T
def RXk (u : Mem) (x : Nat) (kp : Int) (K : RW) (T : Int) : Prop := (kp = 0 ∧ qS u x 6 = none) ∨ (kp = 1 ∧ ∃ a, qS u x 6 = some a ∧ RS u a K ∧ Inv K T)
def RX (u : Mem) (x : Nat) (f : RW) (s : Int) (P : RW) (kp : Int) (K : RW) (T : Int) : Prop := RXo u x ∧ RXq u x ∧ (RS u (x + 1) f ∧ Inv f T) ∧ RXs u x s P T ∧ RXk u x kp K T
theorem q_ne {x i k : Nat} (hi : i < 8) (hk : k < 8) (h : k ≠ i) : qR x k ≠ qR x i ∨ qK k ≠ qK i := by
  unfold qR qK
  by_cases h1 : i < 6 <;> by_cases h2 : k < 6 <;> simp only [h1, h2, if_true, if_false] <;> omega
/-- slot i has been filled with what r says, at a; of what was there nothing else differs -/
def Fill (u w : Mem) (x i a : Nat) (r : RW) : Prop := qS w x i = some a ∧ RS w a r ∧ (x + 150 ≤ a ∧ a + 146 ≤ mN w) ∧ mN u ≤ mN w ∧ (qS u x i = some a ∨ mN u ≤ a) ∧ ∀ q, q < mN u → mSh w q = mSh u q ∧ mJ w q = mJ u q ∧ (¬ (a ≤ q ∧ q < a + 146) → mI w q = mI u q) ∧ ∀ j, (q ≠ qR x i ∨ j ≠ qK i) → mP w q j = mP u q j
theorem qR_lt {x i n : Nat} (h : x + 150 ≤ n) : qR x i < n := by unfold qR; split <;> omega
theorem Fill.slot {u w : Mem} {x i a : Nat} {r : RW} (h : Fill u w x i a r) (hn : x + 150 ≤ mN u) (hi : i < 8) {k : Nat} (hk : k < 8) (hne : k ≠ i) : qS w x k = qS u x k := (h.2.2.2.2.2 _ (qR_lt hn)).2.2.2 _ (q_ne hi hk hne)
/-- blocks away from x, x + 147 and the filled one are as they were -/
theorem Fill.lo {u w : Mem} {x i a : Nat} {r : RW} (h : Fill u w x i a r) {b n : Nat} (hb : b + n ≤ mN u) (hx : b + n ≤ x ∨ (x < b ∧ b + n ≤ x + 147) ∨ x + 148 ≤ b) (hd : a + 146 ≤ b ∨ b + n ≤ a) : Lo u w b n := fun q h1 h2 => by
  obtain ⟨e1, -, e3, e4⟩ := h.2.2.2.2.2 q (by omega)
  refine ⟨e1, e3 (by omega), funext fun j => e4 j (Or.inl ?_)⟩
  unfold qR; split <;> omega
theorem Fill.dis {u w : Mem} {x i a : Nat} {r : RW} (h : Fill u w x i a r) (hq : RXq u x) (hi : i < 8) {k b : Nat} (hk : k < 8) (hne : k ≠ i) (hb : qS u x k = some b) : a + 146 ≤ b ∨ b + 146 ≤ a := by
  rcases h.2.2.2.2.1 with z | z
  · exact hq.2.2 i k hi hk (fun e => hne e.symm) a b z hb
  · have := (hq.2.1 k hk b hb).1; omega
theorem Fill.keepS {u w : Mem} {x i a : Nat} {r : RW} (h : Fill u w x i a r) (hq : RXq u x) (hi : i < 8) {k b : Nat} (hk : k < 8) (hne : k ≠ i) (hb : qS u x k = some b) : Lo u w b 146 := by
  have := (hq.2.1 k hk b hb).1
  exact h.lo (by omega) (Or.inr (Or.inr (by omega))) (h.dis hq hi hk hne hb)
theorem Fill.o {u w : Mem} {x i a : Nat} {r : RW} (h : Fill u w x i a r) (hn : x + 150 ≤ mN u) (ho : RXo u x) : RXo w x := by
  obtain ⟨o1, o2, ⟨o3, o4⟩, o5, o6, o7, o8⟩ := ho
  have hs := fun q (hq : q < x + 150) => (h.2.2.2.2.2 q (by omega)).1
  have hp := fun q (hq : q < x + 150) j hj => (h.2.2.2.2.2 q (by omega)).2.2.2 j hj
  have hx : ∀ j : Int, j < 4 → (x ≠ qR x i ∨ j ≠ qK i) := fun j hj => by unfold qR qK; split <;> omega
  have ht : x + 148 ≠ qR x i := by unfold qR; split <;> omega
  refine ⟨(hs x (by omega)).trans o1, (hp x (by omega) 0 ?_).trans o2, ⟨(hp x (by omega) 1 ?_).trans o3, (hs (x + 147) (by omega)).trans o4⟩, (hp x (by omega) 2 ?_).trans o5, (hs (x + 148) (by omega)).trans o6, (hp (x + 148) (by omega) 0 (Or.inl ht)).trans o7, (hs (x + 148 + 1) (by omega)).trans o8⟩
  · unfold qR qK; by_cases z : i < 6
    · rw [if_pos z]; exact Or.inl (by omega)
    · rw [if_neg z, if_neg z]; right; omega
  · unfold qR qK; by_cases z : i < 6
    · rw [if_pos z]; exact Or.inl (by omega)
    · rw [if_neg z, if_neg z]; right; omega
  · unfold qR qK; by_cases z : i < 6
    · rw [if_pos z]; exact Or.inl (by omega)
    · rw [if_neg z, if_neg z]; right; omega
theorem Fill.q {u w : Mem} {x i a : Nat} {r : RW} (h : Fill u w x i a r) (hq : RXq u x) (hi : i < 8) : RXq w x := by
  have hn := hq.1
  have hnw := h.2.2.2.1
  refine ⟨by omega, fun k hk b hb => ?_, fun k j hk hj hne b c hb hc => ?_⟩
  · by_cases z : k = i
    · subst z
      rw [h.1] at hb
      have := Option.some.inj hb
      subst this
      exact ⟨h.2.2.1, h.2.1.o⟩
    · rw [h.slot hn hi hk z] at hb
      obtain ⟨h1, h2⟩ := hq.2.1 k hk b hb
      have hl := h.keepS hq hi hk z hb
      exact ⟨⟨h1.1, by omega⟩, h2.loc (fun q q1 q2 => ⟨(hl q q1 q2).1, (hl q q1 q2).2.2⟩)⟩
  · by_cases z : k = i
    · subst z
      rw [h.1] at hb
      have := Option.some.inj hb
      subst this
      rw [h.slot hn hk hj (fun e => hne e.symm)] at hc
      exact h.dis hq hk hj (fun e => hne e.symm) hc
    · rw [h.slot hn hi hk z] at hb
      by_cases y : j = i
      · subst y
        rw [h.1] at hc
        have := Option.some.inj hc
        subst this
        have := h.dis hq hj hk z hb
        omega
      · rw [h.slot hn hi hj y] at hc
        exact hq.2.2 k j hk hj hne b c hb hc
theorem Fill.now {u w : Mem} {x i a : Nat} {r f : RW} {T : Int} (h : Fill u w x i a r) (hn : x + 150 ≤ mN u) (hS : RS u (x + 1) f) (hI : Inv f T) : RS w (x + 1) f := by
  have ha := h.2.2.1.1
  exact hS.loc hI.b (h.lo (by omega) (Or.inr (Or.inl ⟨by omega, by omega⟩)) (Or.inr (by omega)))
/-- the trial is filled: the relay says what it said -/
theorem RX.trial {u w : Mem} {x a : Nat} {f r : RW} {s : Int} {P : RW} {kp : Int} {K : RW} {T : Int} (h : RX u x f s P kp K T) (hF : Fill u w x 7 a r) : RX w x f s P kp K T := by
  obtain ⟨ho, hq, ⟨hS, hI⟩, ⟨s1, s2, s3⟩, hk⟩ := h
  have hn := hq.1
  have hax := hF.2.2.1.1
  refine ⟨hF.o hn ho, hF.q hq (by decide), ⟨hF.now hn hS hI, hI⟩, ⟨?_, s2, fun k hk' => ?_⟩, ?_⟩
  · rw [(hF.2.2.2.2.2 x (by omega)).2.2.1 (by omega)]; exact s1
  · obtain ⟨b, b1, b2, b3⟩ := s3 k hk'
    have hl := hF.keepS hq (by decide) (k := k) (by omega) (by omega) b1
    exact ⟨b, by rw [hF.slot hn (by decide) (by omega) (by omega)]; exact b1, b2.loc b3.b hl, b3⟩
  · rcases hk with ⟨k1, k2⟩ | ⟨k1, b, b1, b2, b3⟩
    · exact Or.inl ⟨k1, by rw [hF.slot hn (by decide) (by decide) (by decide)]; exact k2⟩
    · have hl := hF.keepS hq (by decide) (by decide) (by decide) b1
      exact Or.inr ⟨k1, b, by rw [hF.slot hn (by decide) (by decide) (by decide)]; exact b1, b2.loc b3.b hl, b3⟩
/-- the snapshot is filled -/
theorem RX.kept {u w : Mem} {x a : Nat} {f r : RW} {s : Int} {P : RW} {kp : Int} {K : RW} {T : Int} (h : RX u x f s P kp K T) (hF : Fill u w x 6 a r) (hr : Inv r T) : RX w x f s P 1 r T := by
  obtain ⟨ho, hq, ⟨hS, hI⟩, ⟨s1, s2, s3⟩, hk⟩ := h
  have hn := hq.1
  have hax := hF.2.2.1.1
  refine ⟨hF.o hn ho, hF.q hq (by decide), ⟨hF.now hn hS hI, hI⟩, ⟨?_, s2, fun k hk' => ?_⟩, Or.inr ⟨rfl, a, hF.1, hF.2.1, hr⟩⟩
  · rw [(hF.2.2.2.2.2 x (by omega)).2.2.1 (by omega)]; exact s1
  · obtain ⟨b, b1, b2, b3⟩ := s3 k hk'
    have hl := hF.keepS hq (by decide) (k := k) (by omega) (by omega) b1
    exact ⟨b, by rw [hF.slot hn (by decide) (by omega) (by omega)]; exact b1, b2.loc b3.b hl, b3⟩
