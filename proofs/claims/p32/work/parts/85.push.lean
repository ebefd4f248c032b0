/-! ===== saving: the pure part ===== -/
/-- places that the relay does not own -/
def Out (u : Mem) (x q : Nat) : Prop := q < mN u ∧ ¬ (x ≤ q ∧ q < x + 150) ∧ ∀ i, i < 8 → ∀ a, qS u x i = some a → ¬ (a ≤ q ∧ q < a + 146)
def Kp (u w : Mem) (x : Nat) : Prop := mN u ≤ mN w ∧ ∀ q, Out u x q → Out w x q ∧ mSh w q = mSh u q ∧ mI w q = mI u q ∧ mP w q = mP u q ∧ mJ w q = mJ u q
theorem Kp.refl (u : Mem) (x : Nat) : Kp u u x := ⟨Nat.le_refl _, fun _ h => ⟨h, rfl, rfl, rfl, rfl⟩⟩
theorem Kp.trans {u v w : Mem} {x : Nat} (h : Kp u v x) (k : Kp v w x) : Kp u w x := ⟨Nat.le_trans h.1 k.1, fun q hq => by
  obtain ⟨a1, a2, a3, a4, a5⟩ := h.2 q hq
  obtain ⟨b1, b2, b3, b4, b5⟩ := k.2 q a1
  exact ⟨b1, b2.trans a2, b3.trans a3, b4.trans a4, b5.trans a5⟩⟩
theorem Fill.kp {u w : Mem} {x i a : Nat} {r : RW} (h : Fill u w x i a r) (hq : RXq u x) (hi : i < 8) : Kp u w x := by
  have hn := hq.1
  refine ⟨h.2.2.2.1, fun q ⟨h1, h2, h3⟩ => ?_⟩
  obtain ⟨e1, e2, e3, e4⟩ := h.2.2.2.2.2 q h1
  have hna : ¬ (a ≤ q ∧ q < a + 146) := by
    rcases h.2.2.2.2.1 with z | z
    · exact h3 i hi a z
    · omega
  refine ⟨⟨by have := h.2.2.2.1; omega, h2, fun k hk b hb => ?_⟩, e1, e3 hna, funext fun j => e4 j (Or.inl (by unfold qR; split <;> omega)), e2⟩
  by_cases z : k = i
  · subst z
    rw [h.1] at hb
    have := Option.some.inj hb
    subst this; exact hna
  · rw [h.slot hn hi hk z] at hb; exact h3 k hk b hb
/-- slot s is filled, one more is saved -/
theorem RX.push {u w : Mem} {x a : Nat} {f : RW} {s : Nat} {P : RW} {kp : Int} {K : RW} {T : Int} (h : RX u x f s P kp K T) (h6 : s < 6) (rP : RF P) (hF : Fill u w x s a f) : RX (sI w x 3 ((s : Int) + 1)) x f ((s : Int) + 1) (m_put P f s 1651) kp K T := by
  obtain ⟨ho, hq, ⟨hS, hI⟩, ⟨s1, s2, s3⟩, hk⟩ := h
  have hn := hq.1
  have hax := hF.2.2.1.1
  have ho' := hF.o hn ho
  have hq' := hF.q hq (by omega)
  have hS' := hF.now hn hS hI
  have hl : ∀ b n, x < b → Lo w (sI w x 3 ((s : Int) + 1)) b n := fun b n hb q h1 h2 => ⟨rfl, up_mI_n _ _ _ (by omega), rfl⟩
  have hIp := inv_cg hI (past_put_same P f s (by omega)) (rf_past (rf_put rP hI.rf _ _) _)
  refine ⟨ho', hq', ⟨hS'.loc hI.b (hl _ _ (by omega)), hI⟩, ⟨?_, by omega, fun k hk' => ?_⟩, ?_⟩
  · rw [mI_sI_s]; exact wr_id ⟨by omega, by omega⟩
  · by_cases z : k = s
    · subst z
      have hra := rs_cg hF.2.1 hI (past_put_same P f k (by omega))
      exact ⟨a, hF.1, hra.loc hIp.b (hl _ _ (by omega)), hIp⟩
    · obtain ⟨b, b1, b2, b3⟩ := s3 k (by omega)
      have hlo := hF.keepS hq (by omega) (k := k) (by omega) z b1
      have hbx := (hq.2.1 k (by omega) b b1).1.1
      have hc := past_put_other P f (s := s) (k := k) (Or.inl (by omega))
      have hIb := inv_cg b3 hc (rf_past (rf_put rP hI.rf _ _) _)
      exact ⟨b, (hF.slot hn (by omega) (by omega) z).trans b1, (rs_cg (b2.loc b3.b hlo) b3 hc).loc hIb.b (hl _ _ (by omega)), hIb⟩
  · rcases hk with ⟨k1, k2⟩ | ⟨k1, b, b1, b2, b3⟩
    · exact Or.inl ⟨k1, (hF.slot hn (by omega) (by decide) (by omega)).trans k2⟩
    · have hlo := hF.keepS hq (by omega) (k := 6) (by decide) (by omega) b1
      have hbx := (hq.2.1 6 (by decide) b b1).1.1
      exact Or.inr ⟨k1, b, (hF.slot hn (by omega) (by decide) (by omega)).trans b1, (b2.loc b3.b hlo).loc b3.b (hl _ _ (by omega)), b3⟩
/-- the array of the saved ones, turned by i - 1 places -/
def Rot (u w : Mem) (x i : Nat) : Prop := mSh w = mSh u ∧ mN w = mN u ∧ mI w = mI u ∧ mJ w = mJ u ∧ (∀ q, q ≠ x + 147 → mP w q = mP u q) ∧ ∀ k : Int, mP w (x + 147) k = if 0 ≤ k ∧ k + 1 < i then mP u (x + 147) (k + 1) else mP u (x + 147) k
theorem Rot.begin (u : Mem) (x : Nat) : Rot u u x 1 := ⟨rfl, rfl, rfl, rfl, fun _ _ => rfl, fun k => by rw [if_neg (by omega)]⟩
theorem Rot.step {u w : Mem} {x i : Nat} (h : Rot u w x i) (h1 : 1 ≤ i) : Rot u (sP w (x + 147) ((i : Int) - 1) (mP u (x + 147) i)) x (i + 1) := by
  obtain ⟨a1, a2, a3, a4, a5, a6⟩ := h
  refine ⟨a1, a2, a3, a4, fun q hq => ?_, fun k => ?_⟩
  · funext j; rw [mP_sP_a _ _ _ _ hq, a5 q hq]
  · by_cases z : k = (i : Int) - 1
    · subst z
      rw [mP_sP_s, if_pos (by omega)]; congr 1; omega
    · rw [mP_sP_k _ _ _ _ z, a6 k]
      by_cases y : 0 ≤ k ∧ k + 1 < i
      · rw [if_pos y, if_pos (by omega)]
      · rw [if_neg y, if_neg (by omega)]
/-- turned whole: the first is the last -/
theorem RX.rot {u w : Mem} {x : Nat} {f : RW} {P : RW} {kp : Int} {K : RW} {T : Int} (h : RX u x f 6 P kp K T) (rP : RF P) (hr : Rot u w x 6) : RX (sI (sP w (x + 147) 5 (mP u (x + 147) 0)) x 3 5) x f 5 (m_shf P 8255) kp K T ∧ Kp u (sI (sP w (x + 147) 5 (mP u (x + 147) 0)) x 3 5) x := by
  obtain ⟨ho, hq, ⟨hS, hI⟩, ⟨s1, s2, s3⟩, hk⟩ := h
  obtain ⟨a1, a2, a3, a4, a5, a6⟩ := hr
  obtain ⟨G, hG⟩ : ∃ G, G = sI (sP w (x + 147) 5 (mP u (x + 147) 0)) x 3 5 := ⟨_, rfl⟩
  rw [← hG]
  have gS : mSh G = mSh u := by rw [hG]; exact a1
  have gN : mN G = mN u := by rw [hG]; exact a2
  have gJ : mJ G = mJ u := by rw [hG]; exact a4
  have gI : ∀ q, q ≠ x → mI G q = mI u q := fun q hq => by rw [hG, up_mI_n _ _ _ hq, mI_sP, a3]
  have gx : mI G x 3 = 5 := by rw [hG, mI_sI_s]; rfl
  have gP : ∀ q, q ≠ x + 147 → mP G q = mP u q := fun q hq => by
    rw [hG]; show mP (sP w (x + 147) 5 (mP u (x + 147) 0)) q = _
    funext j; rw [mP_sP_a _ _ _ _ hq, a5 q hq]
  have gQ : ∀ k : Nat, k < 5 → mP G (x + 147) k = mP u (x + 147) ((k : Int) + 1) := fun k hk => by
    rw [hG]; show mP (sP w (x + 147) 5 (mP u (x + 147) 0)) (x + 147) k = _
    rw [mP_sP_k _ _ _ _ (by omega), a6, if_pos (by omega)]
  have gQ5 : mP G (x + 147) 5 = mP u (x + 147) 0 := by
    rw [hG]; show mP (sP w (x + 147) 5 (mP u (x + 147) 0)) (x + 147) 5 = _
    rw [mP_sP_s]
  have hsl : ∀ k, k < 8 → qS G x k = qS u x (if k < 5 then k + 1 else if k = 5 then 0 else k) := fun k hk => by
    unfold qS qR qK
    by_cases h5 : k < 5
    · rw [if_pos h5, if_pos (by omega), if_pos (by omega), if_pos (by omega), if_pos (by omega)]
      rw [gQ k h5]; congr 1
    · by_cases h55 : k = 5
      · subst h55
        exact gQ5
      · rw [if_neg h5, if_neg h55, if_neg (by omega), if_neg (by omega)]
        rw [gP x (by omega)]
  have hlo : ∀ b n, (b + n ≤ x ∨ (x < b ∧ b + n ≤ x + 147) ∨ x + 148 ≤ b) → Lo u G b n := fun b n hb q h1 h2 => ⟨by rw [gS], gI q (by omega), gP q (by omega)⟩
  have hmap : ∀ k, k < 8 → (if k < 5 then k + 1 else if k = 5 then 0 else k) < 8 := fun k hk => by split <;> (try split) <;> omega
  obtain ⟨o1, o2, ⟨o3, o4⟩, o5, o6, o7, o8⟩ := ho
  refine ⟨⟨⟨by rw [gS]; exact o1, by rw [gP x (by omega)]; exact o2, ⟨by rw [gP x (by omega)]; exact o3, by rw [gS]; exact o4⟩, by rw [gP x (by omega)]; exact o5, by rw [gS]; exact o6, by rw [gP (x + 148) (by omega)]; exact o7, by rw [gS]; exact o8⟩, ⟨by rw [gN]; exact hq.1, fun i hi a ha => ?_, fun i j hi hj hne a b ha hb => ?_⟩, ⟨hS.loc hI.b (hlo _ _ (Or.inr (Or.inl ⟨by omega, by omega⟩))), hI⟩, ⟨gx, by omega, fun k hk' => ?_⟩, ?_⟩, ⟨by rw [gN]; exact Nat.le_refl _, fun q ⟨h1, h2, h3⟩ => ⟨⟨by rw [gN]; exact h1, h2, fun i hi a ha => ?_⟩, by rw [gS], gI q (by omega), gP q (by omega), by rw [gJ]⟩⟩⟩
  · rw [hsl i hi] at ha
    obtain ⟨b1, b2⟩ := hq.2.1 _ (hmap i hi) a ha
    have hl := hlo a 146 (Or.inr (Or.inr (by omega)))
    exact ⟨⟨b1.1, by rw [gN]; exact b1.2⟩, b2.loc (fun q q1 q2 => ⟨(hl q q1 q2).1, (hl q q1 q2).2.2⟩)⟩
  · rw [hsl i hi] at ha
    rw [hsl j hj] at hb
    exact hq.2.2 _ _ (hmap i hi) (hmap j hj) (by (repeat' split) <;> omega) a b ha hb
  · obtain ⟨b, b1, b2, b3⟩ := s3 (k + 1) (by omega)
    have hbx := (hq.2.1 (k + 1) (by omega) b b1).1.1
    have hc := past_shf P (k := k) ⟨by omega, by omega⟩
    rw [show ((k + 1 : Nat) : Int) = (k : Int) + 1 by omega] at b2 b3
    have hIb := inv_cg b3 hc (rf_past (rf_shf rP _) _)
    refine ⟨b, ?_, rs_cg (b2.loc b3.b (hlo _ _ (Or.inr (Or.inr (by omega))))) b3 hc, hIb⟩
    rw [hsl k (by omega), if_pos (by omega)]; exact b1
  · have e6 : qS G x 6 = qS u x 6 := by rw [hsl 6 (by decide)]; rfl
    rcases hk with ⟨k1, k2⟩ | ⟨k1, b, b1, b2, b3⟩
    · exact Or.inl ⟨k1, e6.trans k2⟩
    · have hbx := (hq.2.1 6 (by decide) b b1).1.1
      exact Or.inr ⟨k1, b, e6.trans b1, b2.loc b3.b (hlo _ _ (Or.inr (Or.inr (by omega)))), b3⟩
  · rw [hsl i hi] at ha
    exact h3 _ (hmap i hi) a ha
