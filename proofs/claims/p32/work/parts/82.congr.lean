/-! ===== only the row's 1651 places count ===== -/
abbrev Cg (r g : RW) : Prop := ∀ j, 0 ≤ j → j < 1651 → g j = r j
theorem Cg.way {r g : RW} (h : Cg r g) {n : Nat} (hn : n < 60) {x : Int} (h0 : 0 ≤ x) (h6 : x ≤ 6) : m_way g n x = m_way r n x := by
  unfold m_way; exact h _ (by omega) (by omega)
theorem inv_cg {r g : RW} {T : Int} (h : Inv r T) (e : Cg r g) (hg : RF g) : Inv g T := by
  obtain ⟨⟨i0, i1⟩, i2, i3, i4, i5⟩ := h.ti
  have h54 := h.nine
  have eo : ∀ (c : Nat) (x : Int), c < 3 → 0 ≤ x → x < 38 → m_of g c x = m_of r c x := fun c x hc h0 h1 => by unfold m_of; exact e _ (by omega) (by omega)
  refine h.low hg (fun j hj => e j (by omega) (by omega)) (by rw [e 4 (by decide) (by decide)]; exact i3) (by rw [e 6 (by decide) (by decide)]; exact i4) (fun c hc => by rw [eo c 3 hc (by decide) (by decide)]; exact i5 c hc) ?_ ?_ (fun c hc => ?_) ?_
  · have := h.co
    unfold ICo at this
    rw [e 9 (by decide) (by decide), e 5 (by decide) (by decide), e 4 (by decide) (by decide), e 6 (by decide) (by decide), e 8 (by decide) (by decide)]
    exact this.2.2.2
  · have := h.se
    unfold ISe at *
    rw [e 10 (by decide) (by decide), e 11 (by decide) (by decide), e 12 (by decide) (by decide), e 13 (by decide) (by decide), e 14 (by decide) (by decide), e 15 (by decide) (by decide), e 16 (by decide) (by decide)]
    exact this
  · have := h.re c hc
    rw [eo c 0 hc (by decide) (by decide), eo c 1 hc (by decide) (by decide), eo c 2 hc (by decide) (by decide), eo c 8 hc (by decide) (by decide), eo c 9 hc (by decide) (by decide), eo c 11 hc (by decide) (by decide), eo c 10 hc (by decide) (by decide), e 0 (by decide) (by decide)]
    exact this
  · obtain ⟨og, ho⟩ := h.me
    refine ⟨og, fun n hn => ?_⟩
    rw [e 9 (by decide) (by decide)] at hn
    obtain ⟨a, b, c⟩ := ho n hn
    have hw := fun (m : Nat) (hm : (m : Int) < r 9) (x : Int) h0 h6 => e.way (n := m) (by omega) (x := x) h0 h6
    refine ⟨a.as (e 0 (by decide) (by decide)) (e 2 (by decide) (by decide)) (hw n hn), fun z => ?_, fun m hm hne => ?_⟩
    · rw [e 0 (by decide) (by decide)] at z
      rw [hw n hn 1 (by decide) (by decide)]; exact b z
    · rw [e 9 (by decide) (by decide)] at hm
      rw [hw n hn 1 (by decide) (by decide), hw m hm 1 (by decide) (by decide)]; exact c m hm hne
theorem rs_cg {u : Mem} {a : Nat} {r g : RW} {T : Int} (hS : RS u a r) (hI : Inv r T) (e : Cg r g) : RS u a g := by
  have hB := hI.b
  have hMK := IMe.mk hI.me
  have h54 := hI.nine
  refine ⟨hS.o, ⟨by rw [e 0 (by decide) (by decide)]; exact hS.tick, by rw [e 1 (by decide) (by decide)]; exact hS.writ⟩, fun i hi => by rw [e _ (by omega) (by omega)]; exact hS.set hi, fun p hp => ?_, ?_, fun d hd => ?_, ?_⟩
  · exact (hS.t hp).keep (fun q h1 h2 => rfl) (fun j h1 h2 => e j (by omega) (by omega)) (hB.pl p hp).2.1.2
  · exact hS.r.keep (fun q h1 h2 => rfl) (fun j hj => e j (by omega) (by omega)) hB.co.1.2
  · exact (hS.c hd).keep rfl rfl (fun j h1 h2 => e j (by omega) (by omega)) (by have := (hB.re d hd).2.2.1; omega)
  · obtain ⟨a1, a2, a3, a4, a5, a6, s, a7, a8⟩ := hS.l
    have hw := fun (m : Nat) (hm : (m : Int) < r 9) (x : Int) h0 h6 => e.way (n := m) (by omega) (x := x) h0 h6
    refine ⟨by rw [e 9 (by decide) (by decide)]; exact a1, by rw [e 4 (by decide) (by decide)]; exact a2, by rw [e 5 (by decide) (by decide)]; exact a3, by rw [e 6 (by decide) (by decide)]; exact a4, by rw [e 8 (by decide) (by decide)]; exact a5, by rw [e 7 (by decide) (by decide)]; exact a6, s, ?_, fun j hj => ?_⟩
    · rw [e 9 (by decide) (by decide)]
      refine ⟨a7.1, a7.2.1, fun i j hij hj => ?_⟩
      have := a7.2.2 i j hij hj
      have h1 := a7.1 i (by omega)
      have h2 := a7.1 j hj
      unfold Lex at *
      rw [hw _ (by omega) 2 (by decide) (by decide), hw _ (by omega) 2 (by decide) (by decide)]
      exact this
    · rw [e 9 (by decide) (by decide)] at hj
      have h1 := a7.1 j hj
      have h8 := (hMK (s j) (by omega)).2.2.1
      obtain ⟨m1, m2, m3, m4, m5, m6⟩ := a8 j hj
      have hx := hw (s j) (by omega)
      unfold RSm
      rw [hx 0 (by decide) (by decide), hx 1 (by decide) (by decide), hx 2 (by decide) (by decide), hx 3 (by decide) (by decide), hx 4 (by decide) (by decide)]
      exact ⟨m1, m2, m3, m4, m5, fun k hk => by rw [row_keep hx (by omega)]; exact m6 k hk⟩
/-- the past's slices -/
theorem past_put_same (P f : RW) (s : Int) (hs : 0 ≤ s) : Cg f (m_past (m_put P f s 1651) s) := fun j h0 h1 => by
  unfold m_past m_put; rw [if_pos (by omega)]; congr 1; omega
theorem past_put_other (P f : RW) {s k : Int} (h : k < s ∨ s < k) : Cg (m_past P k) (m_past (m_put P f s 1651) k) := fun j h0 h1 => by
  unfold m_past m_put; rw [if_neg (by omega)]
theorem past_shf (P : RW) {k : Int} (h : 0 ≤ k ∧ k < 5) : Cg (m_past P (k + 1)) (m_past (m_shf P 8255) k) := fun j h0 h1 => by
  unfold m_past m_shf; rw [if_pos (by omega)]; congr 1; omega
theorem cp_cg (f g : RW) : Cg g (cp f g 1651) := fun j h0 h1 => by
  unfold cp; rw [if_pos (by omega)]
/-- saved: at 6 the oldest goes -/
theorem past_saved (P f : RW) {s k : Int} (hs : 0 ≤ s ∧ s ≤ 6) (hk : 0 ≤ k ∧ k < m_savedN s) : (k + 1 = m_savedN s → Cg f (m_past (m_saved P f s) k)) ∧ (k + 1 < m_savedN s → Cg (m_past P (if s = 6 then k + 1 else k)) (m_past (m_saved P f s) k)) := by
  unfold m_savedN m_saved at *
  by_cases h : s = 6
  · simp only [if_pos h] at *
    refine ⟨fun hk1 => ?_, fun hk1 => ?_⟩
    · rw [show k = 5 by omega]; exact past_put_same _ _ 5 (by decide)
    · intro j h0 h1
      rw [past_put_other _ _ (Or.inl (by omega)) j h0 h1]
      exact past_shf P ⟨hk.1, by omega⟩ j h0 h1
  · simp only [if_neg h] at *
    refine ⟨fun hk1 => ?_, fun hk1 => ?_⟩
    · rw [show k = s by omega]; exact past_put_same _ _ s hs.1
    · exact past_put_other _ _ (Or.inl (by omega))
