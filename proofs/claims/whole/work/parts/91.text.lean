/-! the text -/
/-- the text says the n signs of b -/
def RXt (u : Mem) (x : Nat) (b : RW) (n : Int) : Prop := mI u (x + 148) 1 = n ∧ (0 ≤ n ∧ n ≤ 60) ∧ ∀ k : Nat, (k : Int) < n → mI u (x + 148 + 1) k = b k
theorem RXt.tx {u w : Mem} {x : Nat} {b : RW} {n : Int} (h : RXt u x b n) (k : TxS u w x) : RXt w x b n := ⟨by rw [k _ (by omega) (by omega)]; exact h.1, h.2.1, fun i hi => by rw [k _ (by omega) (by omega)]; exact h.2.2 i hi⟩
theorem RX.text {u w : Mem} {x : Nat} {f : RW} {s : Int} {P : RW} {kp : Int} {K : RW} {T : Int} (h : RX u x f s P kp K T) (hf : Fr u w (fun q => x + 148 ≤ q ∧ q < x + 150) (fun _ => False)) : RX w x f s P kp K T ∧ Kp u w x := by
  obtain ⟨ho, hq, ⟨hS, hI⟩, ⟨s1, s2, s3⟩, hk⟩ := h
  have gS := hf.1
  have gN := hf.2.1
  have gJ := hf.2.2.1
  have gI : ∀ q, ¬ (x + 148 ≤ q ∧ q < x + 150) → mI w q = mI u q := fun q hq => hf.mI hq
  have gP : ∀ q, mP w q = mP u q := fun q => hf.mP id
  have hsl : ∀ k, qS w x k = qS u x k := fun k => by unfold qS; rw [gP]
  have hlo : ∀ a n, (a + n ≤ x + 148 ∨ x + 150 ≤ a) → Lo u w a n := fun a n ha q h1 h2 => ⟨by rw [gS], gI q (by omega), gP q⟩
  obtain ⟨o1, o2, ⟨o3, o4⟩, o5, o6, o7, o8⟩ := ho
  refine ⟨⟨⟨by rw [gS]; exact o1, by rw [gP]; exact o2, ⟨by rw [gP]; exact o3, by rw [gS]; exact o4⟩, by rw [gP]; exact o5, by rw [gS]; exact o6, by rw [gP]; exact o7, by rw [gS]; exact o8⟩, ⟨by rw [gN]; exact hq.1, fun i hi a ha => ?_, fun i j hi hj hne a b ha hb => ?_⟩, ⟨hS.loc hI.b (hlo _ _ (Or.inl (by omega))), hI⟩, ⟨by rw [gI x (by omega)]; exact s1, s2, fun k hk' => ?_⟩, ?_⟩, ⟨by rw [gN]; exact Nat.le_refl _, fun q ⟨h1, h2, h3⟩ => ⟨⟨by rw [gN]; exact h1, h2, fun i hi a ha => ?_⟩, by rw [gS], gI q (by omega), gP q, by rw [gJ]⟩⟩⟩
  · rw [hsl] at ha
    obtain ⟨b1, b2⟩ := hq.2.1 i hi a ha
    have hl := hlo a 146 (Or.inr b1.1)
    exact ⟨⟨b1.1, by rw [gN]; exact b1.2⟩, b2.loc (fun q q1 q2 => ⟨(hl q q1 q2).1, (hl q q1 q2).2.2⟩)⟩
  · rw [hsl] at ha hb
    exact hq.2.2 i j hi hj hne a b ha hb
  · obtain ⟨b, b1, b2, b3⟩ := s3 k hk'
    have hbx := (hq.2.1 k (by omega) b b1).1.1
    exact ⟨b, (hsl k).trans b1, b2.loc b3.b (hlo b 146 (Or.inr hbx)), b3⟩
  · rcases hk with ⟨k1, k2⟩ | ⟨k1, b, b1, b2, b3⟩
    · exact Or.inl ⟨k1, (hsl 6).trans k2⟩
    · have hbx := (hq.2.1 6 (by decide) b b1).1.1
      exact Or.inr ⟨k1, b, (hsl 6).trans b1, b2.loc b3.b (hlo b 146 (Or.inr hbx)), b3⟩
  · rw [hsl] at ha; exact h3 i hi a ha
/-- a sign more -/
theorem RXt.add {u : Mem} {x : Nat} {b : RW} {n : Int} (h : RXt u x b n) (hn : n < 60) {c : Int} (hc : rg c) : RXt (sI (sI u (x + 148 + 1) n c) (x + 148) 1 (n + 1)) x (up b n c) (n + 1) := by
  obtain ⟨h1, h2, h3⟩ := h
  refine ⟨by rw [mI_sI_s]; exact wr_id ⟨by omega, by omega⟩, ⟨by omega, by omega⟩, fun k hk => ?_⟩
  rw [mI_sI_a _ _ _ _ (by omega)]
  by_cases z : (k : Int) = n
  · rw [z, mI_sI_s, up_s]
  · rw [mI_sI_k _ _ _ _ z, up_n _ _ z]; exact h3 k (by omega)
abbrev rmX7_clearBuffer : Room := { frames := 0, cells := 0, slots := 0, locals := 0 }
set_option maxRecDepth 100000 in
theorem k_Rl_clear {l : Launch} {D : DD} (hfl : l.stackTraces = false) {u : Mem} {x : Nat} {f : RW} {s : Int} {P : RW} {kp : Int} {K : RW} {T : Int} (hX : RX u x f s P kp K T) {b : RW} {n : Int} (ht : RXt u x b n) : CT l D yX7_clearBuffer cX7_clearBuffer 2 (some .int) rmX7_clearBuffer [xA x] u (fun o w => o = some (xI n) ∧ RX w x f s P kp K T ∧ Kp u w x ∧ RXt w x b 0) := by
  have ho := hX.1
  refine CT.of hfl (by decide) (le_b rfl) ?_
  intro C hC hR hL hDD hN
  have hfC : (cxL C).stackTraces = false := by rw [hL]; exact hfl
  show VW C 0 [some (xA x), none] [] u 0 0
  refine r_aload_n hC dX7_clearBuffer_0 rfl ?_
  refine r_getR (j := 2) hC dX7_clearBuffer_1 fl_X7_23 rfl rfl ho.1 ho.2.2.2.1 ?_
  refine r_getIv (j := 1) (v := n) hC dX7_clearBuffer_4 fl_X7_161 rfl rfl ho.2.2.2.2.1 ht.1 ?_
  refine r_istore_n (lv' := [_, _]) hC dX7_clearBuffer_7 (lt_b rfl) rfl (lt_b rfl) rfl ?_
  refine r_aload_n hC dX7_clearBuffer_8 rfl ?_
  refine r_getR (j := 2) hC dX7_clearBuffer_9 fl_X7_23 rfl rfl ho.1 ho.2.2.2.1 ?_
  refine r_iconst hC dX7_clearBuffer_12 ?_
  refine r_putI (j := 1) hC dX7_clearBuffer_13 fl_X7_161 rfl ho.2.2.2.2.1 (by rintro _ ⟨⟩; rfl) (Or.inl rfl) ?_
  refine r_iload_n hC dX7_clearBuffer_16 rfl ?_
  refine r_iret hC hR dX7_clearBuffer_17 (le_b rfl) (le_b rfl) ?_
  have hf : Fr u (sI u (x + 148) 1 0) (fun q => x + 148 ≤ q ∧ q < x + 150) (fun _ => False) := Fr.sI (Fr.refl _ _ _) _ _ ⟨by omega, by omega⟩
  obtain ⟨k1, k2⟩ := hX.text hf
  exact ⟨rfl, k1, k2, by rw [mI_sI_s]; rfl, ⟨by omega, by omega⟩, fun k hk => by omega⟩

