/-! ===== what holds holds on: places ===== -/
theorem Inv.places {r g : RW} {T T1 : Int} (h : Inv r T) (hg : RF g) (he : ∀ j, j ≠ 1 → (j < 17 ∨ 97 ≤ j) → g j = r j) (h1 : r 1 ≤ g 1 ∧ g 1 ≤ T1) (hT : T ≤ T1) (hp : IPl g) (hd : IDi g) : Inv g T1 := by
  obtain ⟨⟨i0, i1⟩, i2, i3, i4, i5⟩ := h.ti
  have eo : ∀ (c : Nat) (x : Int), 0 ≤ x → m_of g c x = m_of r c x := fun c x hx0 => by unfold m_of; exact he _ (by omega) (by omega)
  have ew : ∀ k : Nat, m_write g k = m_write r k := fun k => by unfold m_write; exact he _ (by omega) (by omega)
  have c1 := h.co.1
  refine ⟨hg, ⟨?_, ⟨by omega, h1.2⟩, ?_, ?_, fun c hc => ?_⟩, ?_, ?_, hp, fun j hj => ?_, hd, fun c hc => ?_, ?_⟩
  · rw [he 0 (by decide) (by decide)]; omega
  · rw [he 4 (by decide) (by decide), he 0 (by decide) (by decide)]; exact i3
  · rw [he 6 (by decide) (by decide), he 0 (by decide) (by decide)]; exact i4
  · rw [eo c 3 (by decide), he 0 (by decide) (by decide)]; exact i5 c hc
  · have := h.co
    unfold ICo m_kept at *
    rw [he 2 (by decide) (by decide), he 3 (by decide) (by decide), he 9 (by decide) (by decide), he 5 (by decide) (by decide), he 4 (by decide) (by decide), he 6 (by decide) (by decide), he 8 (by decide) (by decide)]
    exact this
  · have := h.se
    unfold ISe at *
    rw [he 10 (by decide) (by decide), he 11 (by decide) (by decide), he 12 (by decide) (by decide), he 13 (by decide) (by decide), he 14 (by decide) (by decide), he 15 (by decide) (by decide), he 16 (by decide) (by decide)]
    exact this
  · rw [he 2 (by decide) (by decide)] at hj
    have := h.ro j hj
    rw [ew, he (97 + 3 * (j : Int)) (by omega) (by omega), he (97 + 3 * (j : Int) + 2) (by omega) (by omega)]
    exact ⟨this.1, ⟨this.2.1.1, by have := this.2.1.2; omega⟩, this.2.2⟩
  · have := h.re c hc
    rw [eo c 0 (by decide), eo c 1 (by decide), eo c 2 (by decide), eo c 8 (by decide), eo c 9 (by decide), eo c 11 (by decide), eo c 10 (by decide), he 0 (by decide) (by decide)]
    exact this
  · exact h.me.keep (he 0 (by decide) (by decide)) (he 2 (by decide) (by decide)) (he 9 (by decide) (by decide)) (fun j hj => he j (by omega) (by omega))
theorem free_cases (r : RW) : m_free r = -1 ∨ ∃ q : Nat, q < 4 ∧ m_free r = q ∧ m_its r q 0 = 0 := by
  unfold m_free
  by_cases h0 : m_its r 0 0 = 0
  · rw [if_pos h0]; exact Or.inr ⟨0, by decide, rfl, h0⟩
  · rw [if_neg h0]
    by_cases h1 : m_its r 1 0 = 0
    · rw [if_pos h1]; exact Or.inr ⟨1, by decide, rfl, h1⟩
    · rw [if_neg h1]
      by_cases h2 : m_its r 2 0 = 0
      · rw [if_pos h2]; exact Or.inr ⟨2, by decide, rfl, h2⟩
      · rw [if_neg h2]
        by_cases h3 : m_its r 3 0 = 0
        · rw [if_pos h3]; exact Or.inr ⟨3, by decide, rfl, h3⟩
        · rw [if_neg h3]; exact Or.inl rfl
theorem inv_begins {r : RW} {T : Int} (h : Inv r T) (hf : m_free r ≠ -1) : Inv (m_begins r) T := by
  rcases free_cases r with z | ⟨q, hq, hfq, hq0⟩
  · exact absurd z hf
  · have rG := rf_begins h.rf
    have e0 : m_its (m_begins r) q 0 = 1 := by
      unfold m_begins m_its; rw [hfq, up_n _ _ (by omega), up_s]; rfl
    have e1 : m_its (m_begins r) q 1 = 0 := by
      unfold m_begins m_its; rw [hfq, up_s]; rfl
    have e : ∀ j, j ≠ 17 + 20 * (q : Int) → j ≠ 17 + 20 * (q : Int) + 1 → m_begins r j = r j := fun j h1 h2 => by
      unfold m_begins; rw [hfq, up_n _ _ (by omega), up_n _ _ (by omega)]
    have ei : ∀ p : Nat, p ≠ q → ∀ x : Int, 0 ≤ x → x < 20 → m_its (m_begins r) p x = m_its r p x := fun p hp x h0 h1 => by unfold m_its; exact e _ (by omega) (by omega)
    have b1 : (m_begins r) 1 = r 1 := e 1 (by omega) (by omega)
    refine h.places rG (fun j h1 h2 => e j (by omega) (by omega)) ⟨by omega, by have := h.ti.2.1.2; omega⟩ (Int.le_refl _) (fun p hp => ?_) ⟨fun k j hkj hj => ?_, fun p hp hop i hi => ⟨fun k hk => ?_, fun p' hp' hop' j hj hne => ?_⟩⟩
    · by_cases z : p = q
      · subst z; rw [e0, e1]; exact ⟨Or.inr rfl, ⟨by decide, by decide⟩, fun i hi => by omega⟩
      · obtain ⟨a1, a2, a3⟩ := h.pl p hp
        rw [ei p z 0 (by decide) (by decide), ei p z 1 (by decide) (by decide), b1]
        exact ⟨a1, a2, fun i hi => by rw [ei p z _ (by omega) (by omega), ei p z _ (by omega) (by omega), ei p z _ (by omega) (by omega)]; exact a3 i hi⟩
    · rw [e 2 (by omega) (by omega)] at hj
      unfold m_write
      rw [e _ (by omega) (by omega), e _ (by omega) (by omega)]
      exact h.di.1 k j hkj hj
    · rw [e 2 (by omega) (by omega)] at hk
      by_cases z : p = q
      · subst z; rw [e1] at hi; omega
      · rw [ei p z 0 (by decide) (by decide)] at hop
        rw [ei p z 1 (by decide) (by decide)] at hi
        have h6 := (h.pl p hp).2.1.2
        rw [ei p z _ (by omega) (by omega)]
        unfold m_write
        rw [e _ (by omega) (by omega)]
        exact (h.di.2 p hp hop i hi).1 k hk
    · by_cases z : p = q
      · subst z; rw [e1] at hi; omega
      · by_cases z' : p' = q
        · subst z'; rw [e1] at hj; omega
        · rw [ei p z 0 (by decide) (by decide)] at hop
          rw [ei p z 1 (by decide) (by decide)] at hi
          rw [ei p' z' 0 (by decide) (by decide)] at hop'
          rw [ei p' z' 1 (by decide) (by decide)] at hj
          have h6 := (h.pl p hp).2.1.2
          have h6' := (h.pl p' hp').2.1.2
          rw [ei p z _ (by omega) (by omega), ei p' z' _ (by omega) (by omega)]
          exact (h.di.2 p hp hop i hi).2 p' hp' hop' j hj hne
theorem open_nat {r : RW} {p : Int} (h : m_open r p = true) : ∃ q : Nat, q < 4 ∧ p = q ∧ m_its r q 0 = 1 := by
  have h1 := m_open_rg h
  refine ⟨p.toNat, by omega, by omega, ?_⟩
  rw [show ((p.toNat : Nat) : Int) = p by omega]
  unfold m_open at h
  simp at h; exact h.2
/-- a place is closed -/
theorem inv_close {r : RW} {T : Int} (h : Inv r T) {q : Nat} (hq : q < 4) : Inv (up r (17 + 20 * (q : Int) + 0) 0) T := by
  have rG := rf_up h.rf (17 + 20 * (q : Int) + 0) 0
  have e0 : m_its (up r (17 + 20 * (q : Int) + 0) 0) q 0 = 0 := by unfold m_its; rw [up_s]; rfl
  have e : ∀ j, j ≠ 17 + 20 * (q : Int) → (up r (17 + 20 * (q : Int) + 0) 0) j = r j := fun j h1 => up_n _ _ (by omega)
  generalize up r (17 + 20 * (q : Int) + 0) 0 = g at rG e0 e ⊢
  have ei : ∀ (p : Nat) (x : Int), (p ≠ q ∨ x ≠ 0) → 0 ≤ x → x < 20 → m_its g p x = m_its r p x := fun p x hp h0 h1 => by unfold m_its; exact e _ (by omega)
  have b1 : g 1 = r 1 := e 1 (by omega)
  refine h.places rG (fun j h1 h2 => e j (by omega)) ⟨by omega, by have := h.ti.2.1.2; omega⟩ (Int.le_refl _) (fun p hp => ?_) ⟨fun k j hkj hj => ?_, fun p hp hop i hi => ⟨fun k hk => ?_, fun p' hp' hop' j hj hne => ?_⟩⟩
  · obtain ⟨a1, a2, a3⟩ := h.pl p hp
    rw [ei p 1 (by omega) (by decide) (by decide), b1]
    refine ⟨?_, a2, fun i hi => by rw [ei p _ (by omega) (by omega) (by omega), ei p _ (by omega) (by omega) (by omega), ei p _ (by omega) (by omega) (by omega)]; exact a3 i hi⟩
    by_cases z : p = q
    · subst z; rw [e0]; exact Or.inl rfl
    · rw [ei p 0 (Or.inl z) (by decide) (by decide)]; exact a1
  · rw [e 2 (by omega)] at hj
    unfold m_write
    rw [e _ (by omega), e _ (by omega)]
    exact h.di.1 k j hkj hj
  · rw [e 2 (by omega)] at hk
    have z : p ≠ q := fun y => by subst y; rw [e0] at hop; omega
    rw [ei p 0 (Or.inl z) (by decide) (by decide)] at hop
    rw [ei p 1 (Or.inl z) (by decide) (by decide)] at hi
    have h6 := (h.pl p hp).2.1.2
    rw [ei p _ (Or.inl z) (by omega) (by omega)]
    unfold m_write
    rw [e _ (by omega)]
    exact (h.di.2 p hp hop i hi).1 k hk
  · have z : p ≠ q := fun y => by subst y; rw [e0] at hop; omega
    have z' : p' ≠ q := fun y => by subst y; rw [e0] at hop'; omega
    rw [ei p 0 (Or.inl z) (by decide) (by decide)] at hop
    rw [ei p 1 (Or.inl z) (by decide) (by decide)] at hi
    rw [ei p' 0 (Or.inl z') (by decide) (by decide)] at hop'
    rw [ei p' 1 (Or.inl z') (by decide) (by decide)] at hj
    have h6 := (h.pl p hp).2.1.2
    have h6' := (h.pl p' hp').2.1.2
    rw [ei p _ (Or.inl z) (by omega) (by omega), ei p' _ (Or.inl z') (by omega) (by omega)]
    exact (h.di.2 p hp hop i hi).2 p' hp' hop' j hj hne
theorem inv_drops {r : RW} {T : Int} (h : Inv r T) (p : Int) : Inv (m_drops r p) T := by
  unfold m_drops
  split
  · exact h
  · rename_i z
    obtain ⟨q, hq, rfl, -⟩ := open_nat (r := r) (p := p) (by cases y : m_open r p; exact absurd y z; rfl)
    exact inv_close h hq
theorem inv_writesR {r : RW} {T : Int} (h : Inv r T) (hT : T + 1 ≤ 2000000) {q : Nat} (hq : q < 4) (hop : m_its r q 0 = 1) {t v : Int} (ht : 0 ≤ t ∧ t ≤ 3) (hv : 0 ≤ v ∧ v ≤ 99) (h6 : m_its r q 1 < 6) : Inv (m_writesR r q t v) (T + 1) := by
  obtain ⟨n, hn⟩ : ∃ n : Nat, m_its r q 1 = n := ⟨(m_its r q 1).toNat, by have := (h.pl q hq).2.1.1; omega⟩
  have i2 := h.ti.2.1
  have rG := rf_writes h.rf q t v
  have g1 : (m_writesR r q t v) 1 = r 1 + 1 := by
    unfold m_writesR
    try dsimp only
    rw [up_s, up_n _ _ (by omega), up_n _ _ (by omega), up_n _ _ (by omega), up_n _ _ (by omega)]
    exact wr_id ⟨by omega, by omega⟩
  have e : ∀ j, j ≠ 1 → j ≠ 17 + 20 * (q : Int) + 1 → (j < 17 + 20 * (q : Int) + 2 + 3 * n ∨ 17 + 20 * (q : Int) + 2 + 3 * n + 3 ≤ j) → m_writesR r q t v j = r j := fun j h1 h2 h3 => by
    unfold m_writesR
    try dsimp only
    rw [hn, up_n _ _ h1, up_n _ _ h2, up_n _ _ (by omega), up_n _ _ (by omega), up_n _ _ (by omega)]
  have es : m_its (m_writesR r q t v) q 1 = (n : Int) + 1 := by
    unfold m_writesR m_its at *
    try dsimp only
    rw [hn, up_n _ _ (by omega), up_s]; exact wr_id ⟨by omega, by omega⟩
  have et : m_its (m_writesR r q t v) q (2 + 3 * (n : Int)) = t := by
    unfold m_writesR m_its at *
    try dsimp only
    rw [hn, up_n _ _ (by omega), up_n _ _ (by omega), up_n _ _ (by omega), up_n _ _ (by omega), show 17 + 20 * (q : Int) + (2 + 3 * (n : Int)) = 17 + 20 * (q : Int) + 2 + 3 * n by omega, up_s]; exact wr_id ⟨by omega, by omega⟩
  have ev : m_its (m_writesR r q t v) q (2 + 3 * (n : Int) + 1) = v := by
    unfold m_writesR m_its at *
    try dsimp only
    rw [hn, up_n _ _ (by omega), up_n _ _ (by omega), up_n _ _ (by omega), show 17 + 20 * (q : Int) + (2 + 3 * (n : Int) + 1) = 17 + 20 * (q : Int) + 2 + 3 * n + 1 by omega, up_s]; exact wr_id ⟨by omega, by omega⟩
  have ew : m_its (m_writesR r q t v) q (4 + 3 * (n : Int)) = r 1 := by
    unfold m_writesR m_its at *
    dsimp only
    rw [hn, up_n _ _ (by omega), up_n _ _ (by omega), show 17 + 20 * (q : Int) + (4 + 3 * (n : Int)) = 17 + 20 * (q : Int) + 2 + 3 * n + 2 by omega, up_s, up_n _ _ (by omega), up_n _ _ (by omega)]; exact wr_id ⟨by omega, by omega⟩
  generalize m_writesR r q t v = g at rG g1 e es et ev ew ⊢
  have ei : ∀ p : Nat, p ≠ q → ∀ x : Int, 0 ≤ x → x < 20 → m_its g p x = m_its r p x := fun p hp x h0 h1 => by unfold m_its; exact e _ (by omega) (by omega) (by omega)
  have eq' : ∀ x : Int, 0 ≤ x → x < 20 → x ≠ 1 → (x < 2 + 3 * n ∨ 5 + 3 * (n : Int) ≤ x) → m_its g q x = m_its r q x := fun x h0 h1 h2 h3 => by unfold m_its; exact e _ (by omega) (by omega) (by omega)
  have hlt := fun (p : Nat) (hp : p < 4) (i : Nat) (hi : (i : Int) < m_its r p 1) => ((h.pl p hp).2.2 i hi).2.2
  refine h.places rG (fun j h1 h2 => e j h1 (by omega) (by omega)) ⟨by omega, by omega⟩ (by omega) (fun p hp => ?_) ⟨fun k j hkj hj => ?_, fun p hp hop1 i hi => ⟨fun k hk => ?_, fun p' hp' hop' j hj hne => ?_⟩⟩
  · by_cases z : p = q
    · subst z
      obtain ⟨a1, a2, a3⟩ := h.pl p hp
      rw [eq' 0 (by decide) (by decide) (by decide) (by omega), es, g1]
      refine ⟨a1, ⟨by omega, by omega⟩, fun i hi => ?_⟩
      by_cases y : i = n
      · subst y; rw [et, ev, ew]; exact ⟨ht, hv, by omega, by omega⟩
      · have := a3 i (by omega)
        rw [eq' _ (by omega) (by omega) (by omega) (by omega), eq' _ (by omega) (by omega) (by omega) (by omega), eq' _ (by omega) (by omega) (by omega) (by omega)]
        exact ⟨this.1, this.2.1, this.2.2.1, by have := this.2.2.2; omega⟩
    · obtain ⟨a1, a2, a3⟩ := h.pl p hp
      rw [ei p z 0 (by decide) (by decide), ei p z 1 (by decide) (by decide), g1]
      exact ⟨a1, a2, fun i hi => by
        rw [ei p z _ (by omega) (by omega), ei p z _ (by omega) (by omega), ei p z _ (by omega) (by omega)]
        have := a3 i hi
        exact ⟨this.1, this.2.1, this.2.2.1, by have := this.2.2.2; omega⟩⟩
  · rw [e 2 (by omega) (by omega) (by omega)] at hj
    unfold m_write
    rw [e _ (by omega) (by omega) (by omega), e _ (by omega) (by omega) (by omega)]
    exact h.di.1 k j hkj hj
  · rw [e 2 (by omega) (by omega) (by omega)] at hk
    have hwk : m_write g k = m_write r k := by unfold m_write; exact e _ (by omega) (by omega) (by omega)
    rw [hwk]
    have hwb := (h.ro k hk).2.1
    by_cases z : p = q
    · subst z
      rw [es] at hi
      by_cases y : i = n
      · subst y; rw [ew]; omega
      · rw [eq' _ (by omega) (by omega) (by omega) (by omega)]
        exact (h.di.2 p hp hop i (by omega)).1 k hk
    · rw [ei p z 0 (by decide) (by decide)] at hop1
      rw [ei p z 1 (by decide) (by decide)] at hi
      have h6 := (h.pl p hp).2.1.2
      rw [ei p z _ (by omega) (by omega)]
      exact (h.di.2 p hp hop1 i hi).1 k hk
  · have key : ∀ (p : Nat), p < 4 → m_its g p 0 = 1 → ∀ i : Nat, (i : Int) < m_its g p 1 → (p = q ∧ i = n ∧ m_its g p (4 + 3 * i) = r 1) ∨ (m_its r p 0 = 1 ∧ (i : Int) < m_its r p 1 ∧ m_its g p (4 + 3 * i) = m_its r p (4 + 3 * i) ∧ (p ≠ q ∨ i ≠ n)) := fun p hp ho i hi => by
      by_cases z : p = q
      · subst z
        rw [es] at hi
        by_cases y : i = n
        · subst y; exact Or.inl ⟨rfl, rfl, ew⟩
        · exact Or.inr ⟨hop, by omega, eq' _ (by omega) (by omega) (by omega) (by omega), Or.inr y⟩
      · rw [ei p z 0 (by decide) (by decide)] at ho
        rw [ei p z 1 (by decide) (by decide)] at hi
        have h6 := (h.pl p hp).2.1.2
        exact Or.inr ⟨ho, hi, ei p z _ (by omega) (by omega), Or.inl z⟩
    rcases key p hp hop1 i hi with ⟨a1, a2, a3⟩ | ⟨a1, a2, a3, a4⟩ <;> rcases key p' hp' hop' j hj with ⟨b1, b2, b3⟩ | ⟨b1, b2, b3, b4⟩
    · exact absurd hne (by omega)
    · rw [a3, b3]; have := hlt p' hp' j b2; omega
    · rw [a3, b3]; have := hlt p hp i a2; omega
    · rw [a3, b3]; exact (h.di.2 p hp a1 i a2).2 p' hp' b1 j b2 hne
theorem inv_writes {r : RW} {T : Int} (h : Inv r T) (hT : T + 1 ≤ 2000000) (p t v : Int) : Inv (m_writes r p t v) (T + 1) := by
  unfold m_writes
  split
  · exact h.more (by omega)
  · rename_i z
    split
    · exact h.more (by omega)
    · rename_i y
      split
      · exact h.more (by omega)
      · rename_i x
        obtain ⟨q, hq, rfl, hop⟩ := open_nat (r := r) (p := p) (by cases w : m_open r p; exact absurd w z; rfl)
        have := (h.pl q hq).2.1.2
        exact inv_writesR h hT hq hop (by omega) (by omega) (by omega)
