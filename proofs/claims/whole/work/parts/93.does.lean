/-! ===== an order of a text keeps all ===== -/
theorem inv_does {f B N : RW} {k T : Int} (h : Inv f T) (hB : RF B) (hT : T + 99 ≤ 2000000) (hk : k = 116 → 1 ≤ N 0 ∧ N 0 ≤ 99) (hO : ∃ o, Ord f (m_kept f).toNat o) : Inv (m_does f B N k).1 (T + 99) ∧ RF (m_does f B N k).2 ∧ DoesOK f B N k := by
  refine ⟨?_, ?_, h.co.1, h.co.2.1, fun p hp => ?_, fun z => ?_⟩
  · unfold m_does
    by_cases h1 : k = 98
    · rw [if_pos h1]
      by_cases h2 : m_free f = -1
      · show Inv (if m_free f = -1 then f else m_begins f) (T + 99)
        rw [if_pos h2]; exact h.more (by omega)
      · show Inv (if m_free f = -1 then f else m_begins f) (T + 99)
        rw [if_neg h2]; exact (inv_begins h h2).more (by omega)
    · rw [if_neg h1]
      by_cases h2 : k = 119
      · rw [if_pos h2]; exact (inv_writes h (by omega) _ _ _).more (by omega)
      · rw [if_neg h2]
        by_cases h3 : k = 99
        · rw [if_pos h3]; exact (inv_commits h _).more (by omega)
        · rw [if_neg h3]
          by_cases h4 : k = 100
          · rw [if_pos h4]; exact (inv_drops h _).more (by omega)
          · rw [if_neg h4]
            by_cases h5 : k = 116
            · rw [if_pos h5]
              have := hk h5
              exact (pass_inv h hB (N 0).toNat (by omega)).1.more (by omega)
            · rw [if_neg h5]
              obtain ⟨o, ho⟩ := hO
              have h3' := h.co.2.1
              exact (inv_sweeps h ho (by unfold m_kept; omega)).more (by omega)
  · unfold m_does
    by_cases h1 : k = 98
    · rw [if_pos h1]; exact hB
    · rw [if_neg h1]
      by_cases h2 : k = 119
      · rw [if_pos h2]; exact hB
      · rw [if_neg h2]
        by_cases h3 : k = 99
        · rw [if_pos h3]; exact hB
        · rw [if_neg h3]
          by_cases h4 : k = 100
          · rw [if_pos h4]; exact hB
          · rw [if_neg h4]
            by_cases h5 : k = 116
            · rw [if_pos h5]
              have := hk h5
              exact (pass_inv h hB (N 0).toNat (by omega)).2.1
            · rw [if_neg h5]; exact hB
  · obtain ⟨q, hq, rfl, -⟩ := open_nat hp
    exact (h.pl q hq).2.1
  · have := hk z
    exact ⟨this.1, this.2, pass_ok h hB (by omega)⟩
