/-! the slowest -/
abbrev rmX7_slowest : Room := { frames := 3, cells := 0, slots := 0, locals := 66 }
set_option maxRecDepth 100000 in
theorem k_Rl_slowest {l : Launch} {D : DD} (hfl : l.stackTraces = false) {u : Mem} {x : Nat} {f : RW} {s : Int} {P : RW} {kp : Int} {K : RW} {T : Int} (hX : RX u x f s P kp K T) : CT l D yX7_slowest cX7_slowest 5 (some .int) rmX7_slowest [xA x] u (RT (xI (m_far f)) u) := by
  have hS := hX.2.2.1.1
  have hI := hX.2.2.1.2
  have ho := hX.1
  have hrr : ∀ c : Int, 0 ≤ m_rows f c ∧ m_rows f c ≤ 200 := fun c => by
    have := m_rowsL_rg f c (f 2).toNat
    have := hI.co.1
    unfold m_rows; omega
  refine CT.of hfl (by decide) (le_b rfl) ?_
  intro C hC hR hL hDD hN
  have hfC : (cxL C).stackTraces = false := by rw [hL]; exact hfl
  have lp : ∀ (n i : Nat) (b : Int) (l4 : Option SV), 3 - i = n → i ≤ 3 → (b = -1 ∨ (0 ≤ b ∧ b < 3)) → m_farL f (3 - i) i b = m_far f → VW C 6 [some (xA x), some (xI b), some (xI (if b = -1 then 0 else m_rows f b)), some (xI i), l4] [] u 0 0 := by
    intro n
    induction n using Nat.strongRecOn with
    | _ n ih =>
      intro i b l4 hn hi hbc hfr
      have hmr : rg (if b = -1 then 0 else m_rows f b) := by
        rcases hbc with z | z
        · rw [if_pos z]; exact ⟨by omega, by omega⟩
        · rw [if_neg (by omega)]; have := hrr b; exact ⟨by omega, by omega⟩
      refine r_iload_n hC dX7_slowest_6 rfl ?_
      refine r_iconst hC dX7_slowest_7 ?_
      refine r_icmp_ge (t := 38) hC dX7_slowest_8 (by rfl) ⟨by omega, by omega⟩ ⟨by omega, by omega⟩ (fun h_8 => ?_) (fun h_8 => ?_)
      · skip
        refine r_iload_n hC dX7_slowest_38 rfl ?_
        refine r_iret hC hR dX7_slowest_39 (le_b rfl) (le_b rfl) ?_
        rw [show i = 3 by omega] at hfr
        refine ⟨?_, rfl⟩
        rw [← hfr]; rfl
      · skip
        refine r_aload_n hC dX7_slowest_11 rfl ?_
        refine r_getR (j := 0) hC dX7_slowest_12 fl_X7_10 rfl rfl ho.1 ho.2.1 ?_
        refine r_iload_n hC dX7_slowest_15 rfl ?_
        refine r_V0 hC dX7_slowest_16 mi_X5_rowsFor se_X5_rowsFor ml_X7_251 (rm := rmX5_rowsFor) rfl hS.o.o rfl rfl rfl rfl ⟨le_b rfl, le_b rfl⟩ (k_St_rowsFor hfC hS hI.b (c := i) (by omega)) ?_ rfl
        refine r_istore (lv' := [_, _, _, _, _]) hC dX7_slowest_19 (lt_b rfl) rfl (lt_b rfl) rfl ?_
        refine r_iload hC dX7_slowest_21 rfl ?_
        refine r_iload_n hC dX7_slowest_23 rfl ?_
        refine r_icmp_le (t := 32) hC dX7_slowest_24 (by rfl) (by have := hrr i; exact ⟨by omega, by omega⟩) hmr (fun h_24 => ?_) (fun h_24 => ?_)
        · skip
          refine r_iinc (lv' := [_, _, _, _, _]) hC dX7_slowest_32 rfl (lt_b rfl) rfl (lt_b rfl) rfl ?_
          refine r_goto (t := 6) hC dX7_slowest_35 (by rfl) ?_
          exact ih _ (by omega) (i + 1) b (some (xI (m_rows f i))) rfl (by omega) hbc (by
            rw [← hfr, show 3 - i = (3 - (i + 1)) + 1 by omega]
            simp only [m_farL]
            unfold m_far1
            rw [if_neg (by omega)]; rfl)
        · skip
          refine r_iload hC dX7_slowest_27 rfl ?_
          refine r_istore_n (lv' := [_, _, _, _, _]) hC dX7_slowest_29 (lt_b rfl) rfl (lt_b rfl) rfl ?_
          refine r_iload_n hC dX7_slowest_30 rfl ?_
          refine r_istore_n (lv' := [_, _, _, _, _]) hC dX7_slowest_31 (lt_b rfl) rfl (lt_b rfl) rfl ?_
          refine r_iinc (lv' := [_, _, _, _, _]) hC dX7_slowest_32 rfl (lt_b rfl) rfl (lt_b rfl) rfl ?_
          refine r_goto (t := 6) hC dX7_slowest_35 (by rfl) ?_
          have hst : (if ((i : Int)) = -1 then 0 else m_rows f (i : Int)) = m_rows f i := if_neg (by omega)
          have := ih _ (by omega) (i + 1) (i : Int) (some (xI (m_rows f i))) rfl (by omega) (Or.inr ⟨by omega, by omega⟩) (by
            rw [← hfr, show 3 - i = (3 - (i + 1)) + 1 by omega]
            simp only [m_farL]
            unfold m_far1
            rw [if_pos (by omega)]; rfl)
          rw [hst] at this
          exact this
  show VW C 0 [some (xA x), none, none, none, none] [] u 0 0
  refine r_iconst hC dX7_slowest_0 ?_
  refine r_istore_n (lv' := [_, _, _, _, _]) hC dX7_slowest_1 (lt_b rfl) rfl (lt_b rfl) rfl ?_
  refine r_iconst hC dX7_slowest_2 ?_
  refine r_istore_n (lv' := [_, _, _, _, _]) hC dX7_slowest_3 (lt_b rfl) rfl (lt_b rfl) rfl ?_
  refine r_iconst hC dX7_slowest_4 ?_
  refine r_istore_n (lv' := [_, _, _, _, _]) hC dX7_slowest_5 (lt_b rfl) rfl (lt_b rfl) rfl ?_
  exact lp _ 0 (-1) _ rfl (by omega) (Or.inl rfl) rfl
