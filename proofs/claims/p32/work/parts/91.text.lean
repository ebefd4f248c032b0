/-! the text -/
/-- the text says the n signs of b -/
def RXt (u : Mem) (x : Nat) (b : RW) (n : Int) : Prop := mI u (x + 148) 1 = n ∧ (0 ≤ n ∧ n ≤ 60) ∧ ∀ k : Nat, (k : Int) < n → mI u (x + 148 + 1) k = b k
theorem RXt.tx {u w : Mem} {x : Nat} {b : RW} {n : Int} (h : RXt u x b n) (k : TxS u w x) : RXt w x b n := ⟨by rw [k _ (by omega) (by omega)]; exact h.1, h.2.1, fun i hi => by rw [k _ (by omega) (by omega)]; exact h.2.2 i hi⟩
theorem RX.text {u w : Mem} {x : Nat} {f : RW} {s : Int} {P : RW} {kp : Int} {K : RW} {T : Int} (h : RX u x f s P kp K T) (hf : Fr u w (fun q => x + 148 ≤ q ∧ q < x + 150) (fun _ => False)) : RX w x f s P kp K T ∧ Kp u w x := by
  obtain ⟨ho, hq, ⟨hS, hI⟩, ⟨s1, s2, s3⟩, hk⟩ := h
  have gS := hf.1
  have gN := hf.2.1
  have gJ := hf.2.2.1
  have gI : ∀ q, ¬ (x + 148 ≤ q ∧ q < x + 150) → mI w q = mI u q := fun q hq => hf.mI hq
  have gP : ∀ q, mP w q = mP u q := fun q => hf.mP id
  have hsl : ∀ k, qS w x k = qS u x k := fun k => by unfold qS; rw [gP]
  have hlo : ∀ a n, (a + n ≤ x + 148 ∨ x + 150 ≤ a) → Lo u w a n := fun a n ha q h1 h2 => ⟨by rw [gS], gI q (by omega), gP q⟩
  obtain ⟨o1, o2, ⟨o3, o4⟩, o5, o6, o7, o8⟩ := ho
  refine ⟨⟨⟨by rw [gS]; exact o1, by rw [gP]; exact o2, ⟨by rw [gP]; exact o3, by rw [gS]; exact o4⟩, by rw [gP]; exact o5, by rw [gS]; exact o6, by rw [gP]; exact o7, by rw [gS]; exact o8⟩, ⟨by rw [gN]; exact hq.1, fun i hi a ha => ?_, fun i j hi hj hne a b ha hb => ?_⟩, ⟨hS.loc hI.b (hlo _ _ (Or.inl (by omega))), hI⟩, ⟨by rw [gI x (by omega)]; exact s1, s2, fun k hk' => ?_⟩, ?_⟩, ⟨by rw [gN]; exact Nat.le_refl _, fun q ⟨h1, h2, h3⟩ => ⟨⟨by rw [gN]; exact h1, h2, fun i hi a ha => ?_⟩, by rw [gS], gI q (by omega), gP q, by rw [gJ]⟩⟩⟩
  · rw [hsl] at ha
    obtain ⟨b1, b2⟩ := hq.2.1 i hi a ha
    have hl := hlo a 146 (Or.inr b1.1)
    exact ⟨⟨b1.1, by rw [gN]; exact b1.2⟩, b2.loc (fun q q1 q2 => ⟨(hl q q1 q2).1, (hl q q1 q2).2.2⟩)⟩
  · rw [hsl] at ha hb
    exact hq.2.2 i j hi hj hne a b ha hb
  · obtain ⟨b, b1, b2, b3⟩ := s3 k hk'
    have hbx := (hq.2.1 k (by omega) b b1).1.1
    exact ⟨b, (hsl k).trans b1, b2.loc b3.b (hlo b 146 (Or.inr hbx)), b3⟩
  · rcases hk with ⟨k1, k2⟩ | ⟨k1, b, b1, b2, b3⟩
    · exact Or.inl ⟨k1, (hsl 6).trans k2⟩
    · have hbx := (hq.2.1 6 (by decide) b b1).1.1
      exact Or.inr ⟨k1, b, (hsl 6).trans b1, b2.loc b3.b (hlo b 146 (Or.inr hbx)), b3⟩
  · rw [hsl] at ha; exact h3 i hi a ha
/-- a sign more -/
theorem RXt.add {u : Mem} {x : Nat} {b : RW} {n : Int} (h : RXt u x b n) (hn : n < 60) {c : Int} (hc : rg c) : RXt (sI (sI u (x + 148 + 1) n c) (x + 148) 1 (n + 1)) x (up b n c) (n + 1) := by
  obtain ⟨h1, h2, h3⟩ := h
  refine ⟨by rw [mI_sI_s]; exact wr_id ⟨by omega, by omega⟩, ⟨by omega, by omega⟩, fun k hk => ?_⟩
  rw [mI_sI_a _ _ _ _ (by omega)]
  by_cases z : (k : Int) = n
  · rw [z, mI_sI_s, up_s]
  · rw [mI_sI_k _ _ _ _ z, up_n _ _ z]; exact h3 k (by omega)
abbrev rmX7_clearBuffer : Room := { frames := 0, cells := 0, slots := 0, locals := 0 }
