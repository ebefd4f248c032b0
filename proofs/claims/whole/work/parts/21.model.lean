/-- the best row of the first n: kept, its number above a, the least such -/
def m_nextL (r : RW) (a : Int) : Nat → Int
  | 0 => -1
  | k + 1 => if (m_mark r k 0 = false ∧ a < m_num r k) ∧ (m_nextL r a k = -1 ∨ m_num r k < m_num r (m_nextL r a k)) then (k : Int) else m_nextL r a k
def m_next (r : RW) (a : Int) : Int := m_nextL r a (r 2).toNat
theorem m_nextL_rg (r : RW) (a : Int) (n : Nat) : m_nextL r a n = -1 ∨ (0 ≤ m_nextL r a n ∧ m_nextL r a n < n) := by
  induction n with
  | zero => left; rfl
  | succ n ih =>
    simp only [m_nextL]
    split
    · right; omega
    · rcases ih with h | h
      · left; exact h
      · right; omega
theorem m_next_rg (r : RW) (a : Int) (h : 0 ≤ r 2) : m_next r a = -1 ∨ (0 ≤ m_next r a ∧ m_next r a < r 2) := by
  have h1 := m_nextL_rg r a (r 2).toNat
  unfold m_next
  omega
abbrev rmX8_next : Room := { frames := 2, cells := 0, slots := 0, locals := 42 }
set_option maxRecDepth 100000 in
theorem k_next {l : Launch} {D : DD} (hfl : l.stackTraces = false) {u : Mem} {m : Nat} (hM : MO u m) {f : RW} (hf : RF f) (h2 : 0 ≤ f 2 ∧ f 2 ≤ 200) {a : Int} (ha : rg a) : CT l D yX8_next cX8_next 5 (some .int) rmX8_next [xA m, xI a] (sA u (m + 1) f) (RT (xI (m_next f a)) (sA u (m + 1) f)) := by
  refine CT.of hfl (by decide) (le_b rfl) ?_
  intro C hC hR hL hDD hN
  have hfC : (cxL C).stackTraces = false := by rw [hL]; exact hfl
  have lp : ∀ (n : Nat) (k : Nat) (b : Int) (w : Option SV), ((f 2 - k).toNat = n) → ((k : Int) ≤ f 2) → (b = m_nextL f a k) → VW C 4 [some (xA m), some (xI a), some (xI b), some (xI k), w] [] (sA u (m + 1) f) 0 0 := by
    intro n
    induction n using Nat.strongRecOn with
    | _ n ih =>
      intro k b w hn hk hb
      have hbr := m_nextL_rg f a k
      rw [← hb] at hbr
      refine r_iload_n hC dX8_next_4 rfl ?_
      refine r_aload_n hC dX8_next_5 rfl ?_
      refine r_getR (j := 0) hC dX8_next_6 fl_X8_7 rfl rfl hM.o hM.p_row ?_
      refine r_iconst hC dX8_next_9 ?_
      refine rM_ald hC hM (by (repeat (first | assumption | apply rf_up | apply rf_setm | apply rf_mI))) dX8_next_10 ⟨by omega, by omega⟩ ?_
      refine r_icmp_ge (t := 74) hC dX8_next_11 (by rfl) (by first | with_reducible exact rg_mI _ _ _ | (with_reducible refine rg_of ?_ _ _; (repeat (first | assumption | apply rf_up | apply rf_setm | apply rf_mI)); done) | (with_reducible refine rg_its ?_ _ _; (repeat (first | assumption | apply rf_up | apply rf_setm | apply rf_mI)); done) | (with_reducible refine rg_way ?_ _ _; (repeat (first | assumption | apply rf_up | apply rf_setm | apply rf_mI)); done) | with_reducible exact rg_and _ _ | (with_reducible refine rg_num ?_ ⟨by omega, by omega⟩; (repeat (first | assumption | apply rf_up | apply rf_setm | apply rf_mI)); done) | (with_reducible refine rf_at ?_ _; (repeat (first | assumption | apply rf_up | apply rf_setm | apply rf_mI)); done) | exact ⟨by omega, by omega⟩) (by first | with_reducible exact rg_mI _ _ _ | (with_reducible refine rg_of ?_ _ _; (repeat (first | assumption | apply rf_up | apply rf_setm | apply rf_mI)); done) | (with_reducible refine rg_its ?_ _ _; (repeat (first | assumption | apply rf_up | apply rf_setm | apply rf_mI)); done) | (with_reducible refine rg_way ?_ _ _; (repeat (first | assumption | apply rf_up | apply rf_setm | apply rf_mI)); done) | with_reducible exact rg_and _ _ | (with_reducible refine rg_num ?_ ⟨by omega, by omega⟩; (repeat (first | assumption | apply rf_up | apply rf_setm | apply rf_mI)); done) | (with_reducible refine rf_at ?_ _; (repeat (first | assumption | apply rf_up | apply rf_setm | apply rf_mI)); done) | exact ⟨by omega, by omega⟩) (fun h_11 => ?_) (fun h_11 => ?_)
      · skip
        refine r_iload_n hC dX8_next_74 rfl ?_
        refine r_iret hC hR dX8_next_75 (le_b rfl) (le_b rfl) ?_
        refine ⟨congrArg (fun i => some (xI i)) ?_, rfl⟩
        rw [hb]; unfold m_next; congr 1; omega
      · skip
        refine r_aload_n hC dX8_next_14 rfl ?_
        refine r_iload_n hC dX8_next_15 rfl ?_
        refine r_iconst hC dX8_next_16 ?_
        refine rM_V0 hC hM dX8_next_17 mi_X8_hasMark se_X8_hasMark ml_X8_51 (rm := rmX8_hasMark) rfl rfl rfl rfl ⟨le_b rfl, le_b rfl⟩ (k_hasMark hfC hM hf ⟨by omega, by omega⟩) ?_ rfl
        refine r_bne (t := 36) hC dX8_next_20 (by rfl) (fun h_20 => ?_) (fun h_20 => ?_)
        · skip
          refine r_iconst hC dX8_next_36 ?_
          refine r_istore (lv' := [_, _, _, _, _]) hC dX8_next_37 (lt_b rfl) rfl (lt_b rfl) rfl ?_
          refine r_iload hC dX8_next_39 rfl ?_
          refine r_if_eq (t := 66) hC dX8_next_41 (by rfl) (by first | with_reducible exact rg_mI _ _ _ | (with_reducible refine rg_of ?_ _ _; (repeat (first | assumption | apply rf_up | apply rf_setm | apply rf_mI)); done) | (with_reducible refine rg_its ?_ _ _; (repeat (first | assumption | apply rf_up | apply rf_setm | apply rf_mI)); done) | (with_reducible refine rg_way ?_ _ _; (repeat (first | assumption | apply rf_up | apply rf_setm | apply rf_mI)); done) | with_reducible exact rg_and _ _ | (with_reducible refine rg_num ?_ ⟨by omega, by omega⟩; (repeat (first | assumption | apply rf_up | apply rf_setm | apply rf_mI)); done) | (with_reducible refine rf_at ?_ _; (repeat (first | assumption | apply rf_up | apply rf_setm | apply rf_mI)); done) | exact ⟨by omega, by omega⟩) (fun h_41 => ?_) (fun h_41 => (by omega))
          refine r_iload_n hC dX8_next_66 rfl ?_
          refine r_istore_n (lv' := [_, _, _, _, _]) hC dX8_next_67 (lt_b rfl) rfl (lt_b rfl) rfl ?_
          refine r_iinc (lv' := [_, _, _, _, _]) hC dX8_next_68 rfl (lt_b rfl) rfl (lt_b rfl) rfl ?_
          refine r_goto (t := 4) hC dX8_next_71 (by rfl) ?_
          exact ih _ (by omega) (k + 1) _ _ rfl (by omega) (by subst hb; simp only [m_nextL]; split <;> simp_all <;> omega)
        · skip
          refine r_aload_n hC dX8_next_23 rfl ?_
          refine r_iload_n hC dX8_next_24 rfl ?_
          refine rM_V0 hC hM dX8_next_25 mi_X8_numberOf se_X8_numberOf ml_X8_55 (rm := rmX8_numberOf) rfl rfl rfl rfl ⟨le_b rfl, le_b rfl⟩ (k_numberOf hfC hM hf ⟨by omega, by omega⟩) ?_ rfl
          refine r_iload_n hC dX8_next_28 rfl ?_
          refine r_icmp_le (t := 36) hC dX8_next_29 (by rfl) (by first | with_reducible exact rg_mI _ _ _ | (with_reducible refine rg_of ?_ _ _; (repeat (first | assumption | apply rf_up | apply rf_setm | apply rf_mI)); done) | (with_reducible refine rg_its ?_ _ _; (repeat (first | assumption | apply rf_up | apply rf_setm | apply rf_mI)); done) | (with_reducible refine rg_way ?_ _ _; (repeat (first | assumption | apply rf_up | apply rf_setm | apply rf_mI)); done) | with_reducible exact rg_and _ _ | (with_reducible refine rg_num ?_ ⟨by omega, by omega⟩; (repeat (first | assumption | apply rf_up | apply rf_setm | apply rf_mI)); done) | (with_reducible refine rf_at ?_ _; (repeat (first | assumption | apply rf_up | apply rf_setm | apply rf_mI)); done) | exact ⟨by omega, by omega⟩) (by first | with_reducible exact rg_mI _ _ _ | (with_reducible refine rg_of ?_ _ _; (repeat (first | assumption | apply rf_up | apply rf_setm | apply rf_mI)); done) | (with_reducible refine rg_its ?_ _ _; (repeat (first | assumption | apply rf_up | apply rf_setm | apply rf_mI)); done) | (with_reducible refine rg_way ?_ _ _; (repeat (first | assumption | apply rf_up | apply rf_setm | apply rf_mI)); done) | with_reducible exact rg_and _ _ | (with_reducible refine rg_num ?_ ⟨by omega, by omega⟩; (repeat (first | assumption | apply rf_up | apply rf_setm | apply rf_mI)); done) | (with_reducible refine rf_at ?_ _; (repeat (first | assumption | apply rf_up | apply rf_setm | apply rf_mI)); done) | exact ⟨by omega, by omega⟩) (fun h_29 => ?_) (fun h_29 => ?_)
          · skip
            refine r_iconst hC dX8_next_36 ?_
            refine r_istore (lv' := [_, _, _, _, _]) hC dX8_next_37 (lt_b rfl) rfl (lt_b rfl) rfl ?_
            refine r_iload hC dX8_next_39 rfl ?_
            refine r_if_eq (t := 66) hC dX8_next_41 (by rfl) (by first | with_reducible exact rg_mI _ _ _ | (with_reducible refine rg_of ?_ _ _; (repeat (first | assumption | apply rf_up | apply rf_setm | apply rf_mI)); done) | (with_reducible refine rg_its ?_ _ _; (repeat (first | assumption | apply rf_up | apply rf_setm | apply rf_mI)); done) | (with_reducible refine rg_way ?_ _ _; (repeat (first | assumption | apply rf_up | apply rf_setm | apply rf_mI)); done) | with_reducible exact rg_and _ _ | (with_reducible refine rg_num ?_ ⟨by omega, by omega⟩; (repeat (first | assumption | apply rf_up | apply rf_setm | apply rf_mI)); done) | (with_reducible refine rf_at ?_ _; (repeat (first | assumption | apply rf_up | apply rf_setm | apply rf_mI)); done) | exact ⟨by omega, by omega⟩) (fun h_41 => ?_) (fun h_41 => (by omega))
            refine r_iload_n hC dX8_next_66 rfl ?_
            refine r_istore_n (lv' := [_, _, _, _, _]) hC dX8_next_67 (lt_b rfl) rfl (lt_b rfl) rfl ?_
            refine r_iinc (lv' := [_, _, _, _, _]) hC dX8_next_68 rfl (lt_b rfl) rfl (lt_b rfl) rfl ?_
            refine r_goto (t := 4) hC dX8_next_71 (by rfl) ?_
            exact ih _ (by omega) (k + 1) _ _ rfl (by omega) (by subst hb; simp only [m_nextL]; split <;> simp_all <;> omega)
          · skip
            refine r_iconst hC dX8_next_32 ?_
            refine r_goto (t := 37) hC dX8_next_33 (by rfl) ?_
            refine r_istore (lv' := [_, _, _, _, _]) hC dX8_next_37 (lt_b rfl) rfl (lt_b rfl) rfl ?_
            refine r_iload hC dX8_next_39 rfl ?_
            refine r_if_eq (t := 66) hC dX8_next_41 (by rfl) (by first | with_reducible exact rg_mI _ _ _ | (with_reducible refine rg_of ?_ _ _; (repeat (first | assumption | apply rf_up | apply rf_setm | apply rf_mI)); done) | (with_reducible refine rg_its ?_ _ _; (repeat (first | assumption | apply rf_up | apply rf_setm | apply rf_mI)); done) | (with_reducible refine rg_way ?_ _ _; (repeat (first | assumption | apply rf_up | apply rf_setm | apply rf_mI)); done) | with_reducible exact rg_and _ _ | (with_reducible refine rg_num ?_ ⟨by omega, by omega⟩; (repeat (first | assumption | apply rf_up | apply rf_setm | apply rf_mI)); done) | (with_reducible refine rf_at ?_ _; (repeat (first | assumption | apply rf_up | apply rf_setm | apply rf_mI)); done) | exact ⟨by omega, by omega⟩) (fun h_41 => (by omega)) (fun h_41 => ?_)
            refine r_iload_n hC dX8_next_44 rfl ?_
            refine r_iconst hC dX8_next_45 ?_
            refine r_icmp_eq (t := 62) hC dX8_next_46 (by rfl) (by first | with_reducible exact rg_mI _ _ _ | (with_reducible refine rg_of ?_ _ _; (repeat (first | assumption | apply rf_up | apply rf_setm | apply rf_mI)); done) | (with_reducible refine rg_its ?_ _ _; (repeat (first | assumption | apply rf_up | apply rf_setm | apply rf_mI)); done) | (with_reducible refine rg_way ?_ _ _; (repeat (first | assumption | apply rf_up | apply rf_setm | apply rf_mI)); done) | with_reducible exact rg_and _ _ | (with_reducible refine rg_num ?_ ⟨by omega, by omega⟩; (repeat (first | assumption | apply rf_up | apply rf_setm | apply rf_mI)); done) | (with_reducible refine rf_at ?_ _; (repeat (first | assumption | apply rf_up | apply rf_setm | apply rf_mI)); done) | exact ⟨by omega, by omega⟩) (by first | with_reducible exact rg_mI _ _ _ | (with_reducible refine rg_of ?_ _ _; (repeat (first | assumption | apply rf_up | apply rf_setm | apply rf_mI)); done) | (with_reducible refine rg_its ?_ _ _; (repeat (first | assumption | apply rf_up | apply rf_setm | apply rf_mI)); done) | (with_reducible refine rg_way ?_ _ _; (repeat (first | assumption | apply rf_up | apply rf_setm | apply rf_mI)); done) | with_reducible exact rg_and _ _ | (with_reducible refine rg_num ?_ ⟨by omega, by omega⟩; (repeat (first | assumption | apply rf_up | apply rf_setm | apply rf_mI)); done) | (with_reducible refine rf_at ?_ _; (repeat (first | assumption | apply rf_up | apply rf_setm | apply rf_mI)); done) | exact ⟨by omega, by omega⟩) (fun h_46 => ?_) (fun h_46 => ?_)
            · skip
              refine r_iload_n hC dX8_next_62 rfl ?_
              refine r_goto (t := 67) hC dX8_next_63 (by rfl) ?_
              refine r_istore_n (lv' := [_, _, _, _, _]) hC dX8_next_67 (lt_b rfl) rfl (lt_b rfl) rfl ?_
              refine r_iinc (lv' := [_, _, _, _, _]) hC dX8_next_68 rfl (lt_b rfl) rfl (lt_b rfl) rfl ?_
              refine r_goto (t := 4) hC dX8_next_71 (by rfl) ?_
              exact ih _ (by omega) (k + 1) _ _ rfl (by omega) (by subst hb; simp only [m_nextL]; split <;> simp_all <;> omega)
            · skip
              refine r_aload_n hC dX8_next_49 rfl ?_
              refine r_iload_n hC dX8_next_50 rfl ?_
              refine rM_V0 hC hM dX8_next_51 mi_X8_numberOf se_X8_numberOf ml_X8_55 (rm := rmX8_numberOf) rfl rfl rfl rfl ⟨le_b rfl, le_b rfl⟩ (k_numberOf hfC hM hf ⟨by omega, by omega⟩) ?_ rfl
              refine r_aload_n hC dX8_next_54 rfl ?_
              refine r_iload_n hC dX8_next_55 rfl ?_
              refine rM_V0 hC hM dX8_next_56 mi_X8_numberOf se_X8_numberOf ml_X8_55 (rm := rmX8_numberOf) rfl rfl rfl rfl ⟨le_b rfl, le_b rfl⟩ (k_numberOf hfC hM hf ⟨by omega, by omega⟩) ?_ rfl
              refine r_icmp_ge (t := 66) hC dX8_next_59 (by rfl) (by first | with_reducible exact rg_mI _ _ _ | (with_reducible refine rg_of ?_ _ _; (repeat (first | assumption | apply rf_up | apply rf_setm | apply rf_mI)); done) | (with_reducible refine rg_its ?_ _ _; (repeat (first | assumption | apply rf_up | apply rf_setm | apply rf_mI)); done) | (with_reducible refine rg_way ?_ _ _; (repeat (first | assumption | apply rf_up | apply rf_setm | apply rf_mI)); done) | with_reducible exact rg_and _ _ | (with_reducible refine rg_num ?_ ⟨by omega, by omega⟩; (repeat (first | assumption | apply rf_up | apply rf_setm | apply rf_mI)); done) | (with_reducible refine rf_at ?_ _; (repeat (first | assumption | apply rf_up | apply rf_setm | apply rf_mI)); done) | exact ⟨by omega, by omega⟩) (by first | with_reducible exact rg_mI _ _ _ | (with_reducible refine rg_of ?_ _ _; (repeat (first | assumption | apply rf_up | apply rf_setm | apply rf_mI)); done) | (with_reducible refine rg_its ?_ _ _; (repeat (first | assumption | apply rf_up | apply rf_setm | apply rf_mI)); done) | (with_reducible refine rg_way ?_ _ _; (repeat (first | assumption | apply rf_up | apply rf_setm | apply rf_mI)); done) | with_reducible exact rg_and _ _ | (with_reducible refine rg_num ?_ ⟨by omega, by omega⟩; (repeat (first | assumption | apply rf_up | apply rf_setm | apply rf_mI)); done) | (with_reducible refine rf_at ?_ _; (repeat (first | assumption | apply rf_up | apply rf_setm | apply rf_mI)); done) | exact ⟨by omega, by omega⟩) (fun h_59 => ?_) (fun h_59 => ?_)
              · skip
                refine r_iload_n hC dX8_next_66 rfl ?_
                refine r_istore_n (lv' := [_, _, _, _, _]) hC dX8_next_67 (lt_b rfl) rfl (lt_b rfl) rfl ?_
                refine r_iinc (lv' := [_, _, _, _, _]) hC dX8_next_68 rfl (lt_b rfl) rfl (lt_b rfl) rfl ?_
                refine r_goto (t := 4) hC dX8_next_71 (by rfl) ?_
                exact ih _ (by omega) (k + 1) _ _ rfl (by omega) (by subst hb; simp only [m_nextL]; split <;> simp_all <;> omega)
              · skip
                refine r_iload_n hC dX8_next_62 rfl ?_
                refine r_goto (t := 67) hC dX8_next_63 (by rfl) ?_
                refine r_istore_n (lv' := [_, _, _, _, _]) hC dX8_next_67 (lt_b rfl) rfl (lt_b rfl) rfl ?_
                refine r_iinc (lv' := [_, _, _, _, _]) hC dX8_next_68 rfl (lt_b rfl) rfl (lt_b rfl) rfl ?_
                refine r_goto (t := 4) hC dX8_next_71 (by rfl) ?_
                exact ih _ (by omega) (k + 1) _ _ rfl (by omega) (by subst hb; simp only [m_nextL]; split <;> simp_all <;> omega)
  show VW C 0 [some (xA m), some (xI a), none, none, none] [] (sA u (m + 1) f) 0 0
  refine r_iconst hC dX8_next_0 ?_
  refine r_istore_n (lv' := [_, _, _, _, _]) hC dX8_next_1 (lt_b rfl) rfl (lt_b rfl) rfl ?_
  refine r_iconst hC dX8_next_2 ?_
  refine r_istore_n (lv' := [_, _, _, _, _]) hC dX8_next_3 (lt_b rfl) rfl (lt_b rfl) rfl ?_
  exact lp _ 0 _ _ rfl (by omega) rfl

def m_ansBy (r : RW) (k : Int) : Int := b_or (b_or (b_or 0 (if m_ans r k 0 = true then b_shl 1 0 else 0)) (if m_ans r k 1 = true then b_shl 1 1 else 0)) (if m_ans r k 2 = true then b_shl 1 2 else 0)
abbrev rmX8_answeredBy : Room := { frames := 3, cells := 0, slots := 0, locals := 66 }
set_option maxRecDepth 100000 in
theorem k_answeredBy {l : Launch} {D : DD} (hfl : l.stackTraces = false) {u : Mem} {m : Nat} (hM : MO u m) {f : RW} (hf : RF f) {k : Int} (hk : 0 ≤ k ∧ k < 500) : CT l D yX8_answeredBy cX8_answeredBy 4 (some .int) rmX8_answeredBy [xA m, xI k] (sA u (m + 1) f) (RT (xI (m_ansBy f k)) (sA u (m + 1) f)) := by
  refine CT.of hfl (by decide) (le_b rfl) ?_
  intro C hC hR hL hDD hN
  have hfC : (cxL C).stackTraces = false := by rw [hL]; exact hfl
  show VW C 0 [some (xA m), some (xI k), none, none] [] (sA u (m + 1) f) 0 0
  refine r_iconst hC dX8_answeredBy_0 ?_
  refine r_istore_n (lv' := [_, _, _, _]) hC dX8_answeredBy_1 (lt_b rfl) rfl (lt_b rfl) rfl ?_
  refine r_iconst hC dX8_answeredBy_2 ?_
  refine r_istore_n (lv' := [_, _, _, _]) hC dX8_answeredBy_3 (lt_b rfl) rfl (lt_b rfl) rfl ?_
  refine r_iload_n hC dX8_answeredBy_4 rfl ?_
  refine r_iconst hC dX8_answeredBy_5 ?_
  refine r_icmp_ge (t := 34) hC dX8_answeredBy_6 (by rfl) (by first | with_reducible exact rg_mI _ _ _ | (with_reducible refine rg_of ?_ _ _; (repeat (first | assumption | apply rf_up | apply rf_setm | apply rf_mI)); done) | (with_reducible refine rg_its ?_ _ _; (repeat (first | assumption | apply rf_up | apply rf_setm | apply rf_mI)); done) | (with_reducible refine rg_way ?_ _ _; (repeat (first | assumption | apply rf_up | apply rf_setm | apply rf_mI)); done) | with_reducible exact rg_and _ _ | (with_reducible refine rg_num ?_ ⟨by omega, by omega⟩; (repeat (first | assumption | apply rf_up | apply rf_setm | apply rf_mI)); done) | (with_reducible refine rf_at ?_ _; (repeat (first | assumption | apply rf_up | apply rf_setm | apply rf_mI)); done) | exact ⟨by omega, by omega⟩) (by first | with_reducible exact rg_mI _ _ _ | (with_reducible refine rg_of ?_ _ _; (repeat (first | assumption | apply rf_up | apply rf_setm | apply rf_mI)); done) | (with_reducible refine rg_its ?_ _ _; (repeat (first | assumption | apply rf_up | apply rf_setm | apply rf_mI)); done) | (with_reducible refine rg_way ?_ _ _; (repeat (first | assumption | apply rf_up | apply rf_setm | apply rf_mI)); done) | with_reducible exact rg_and _ _ | (with_reducible refine rg_num ?_ ⟨by omega, by omega⟩; (repeat (first | assumption | apply rf_up | apply rf_setm | apply rf_mI)); done) | (with_reducible refine rf_at ?_ _; (repeat (first | assumption | apply rf_up | apply rf_setm | apply rf_mI)); done) | exact ⟨by omega, by omega⟩) (fun h_6 => (by omega)) (fun h_6 => ?_)
  refine r_iload_n hC dX8_answeredBy_9 rfl ?_
  refine r_aload_n hC dX8_answeredBy_10 rfl ?_
  refine r_iload_n hC dX8_answeredBy_11 rfl ?_
  refine r_iload_n hC dX8_answeredBy_12 rfl ?_
  refine rM_V0 hC hM dX8_answeredBy_13 mi_X8_isAnswered se_X8_isAnswered ml_X8_67 (rm := rmX8_isAnswered) rfl rfl rfl rfl ⟨le_b rfl, le_b rfl⟩ (k_isAnswered hfC hM hf hk ⟨by omega, by omega⟩) ?_ rfl
  refine r_beq (t := 25) hC dX8_answeredBy_16 (by rfl) (fun h_16 => ?_) (fun h_16 => ?_)
  · skip
    refine r_iconst hC dX8_answeredBy_25 ?_
    refine r_ior hC dX8_answeredBy_26 ?_
    refine r_istore_n (lv' := [_, _, _, _]) hC dX8_answeredBy_27 (lt_b rfl) rfl (lt_b rfl) rfl ?_
    refine r_iinc (lv' := [_, _, _, _]) hC dX8_answeredBy_28 rfl (lt_b rfl) rfl (lt_b rfl) rfl ?_
    refine r_goto (t := 4) hC dX8_answeredBy_31 (by rfl) ?_
    refine r_iload_n hC dX8_answeredBy_4 rfl ?_
    refine r_iconst hC dX8_answeredBy_5 ?_
    refine r_icmp_ge (t := 34) hC dX8_answeredBy_6 (by rfl) (by first | with_reducible exact rg_mI _ _ _ | (with_reducible refine rg_of ?_ _ _; (repeat (first | assumption | apply rf_up | apply rf_setm | apply rf_mI)); done) | (with_reducible refine rg_its ?_ _ _; (repeat (first | assumption | apply rf_up | apply rf_setm | apply rf_mI)); done) | (with_reducible refine rg_way ?_ _ _; (repeat (first | assumption | apply rf_up | apply rf_setm | apply rf_mI)); done) | with_reducible exact rg_and _ _ | (with_reducible refine rg_num ?_ ⟨by omega, by omega⟩; (repeat (first | assumption | apply rf_up | apply rf_setm | apply rf_mI)); done) | (with_reducible refine rf_at ?_ _; (repeat (first | assumption | apply rf_up | apply rf_setm | apply rf_mI)); done) | exact ⟨by omega, by omega⟩) (by first | with_reducible exact rg_mI _ _ _ | (with_reducible refine rg_of ?_ _ _; (repeat (first | assumption | apply rf_up | apply rf_setm | apply rf_mI)); done) | (with_reducible refine rg_its ?_ _ _; (repeat (first | assumption | apply rf_up | apply rf_setm | apply rf_mI)); done) | (with_reducible refine rg_way ?_ _ _; (repeat (first | assumption | apply rf_up | apply rf_setm | apply rf_mI)); done) | with_reducible exact rg_and _ _ | (with_reducible refine rg_num ?_ ⟨by omega, by omega⟩; (repeat (first | assumption | apply rf_up | apply rf_setm | apply rf_mI)); done) | (with_reducible refine rf_at ?_ _; (repeat (first | assumption | apply rf_up | apply rf_setm | apply rf_mI)); done) | exact ⟨by omega, by omega⟩) (fun h_6 => (by omega)) (fun h_6 => ?_)
    refine r_iload_n hC dX8_answeredBy_9 rfl ?_
    refine r_aload_n hC dX8_answeredBy_10 rfl ?_
    refine r_iload_n hC dX8_answeredBy_11 rfl ?_
    refine r_iload_n hC dX8_answeredBy_12 rfl ?_
    refine rM_V0 hC hM dX8_answeredBy_13 mi_X8_isAnswered se_X8_isAnswered ml_X8_67 (rm := rmX8_isAnswered) rfl rfl rfl rfl ⟨le_b rfl, le_b rfl⟩ (k_isAnswered hfC hM hf hk ⟨by omega, by omega⟩) ?_ rfl
    refine r_beq (t := 25) hC dX8_answeredBy_16 (by rfl) (fun h_16 => ?_) (fun h_16 => ?_)
    · skip
      refine r_iconst hC dX8_answeredBy_25 ?_
      refine r_ior hC dX8_answeredBy_26 ?_
      refine r_istore_n (lv' := [_, _, _, _]) hC dX8_answeredBy_27 (lt_b rfl) rfl (lt_b rfl) rfl ?_
      refine r_iinc (lv' := [_, _, _, _]) hC dX8_answeredBy_28 rfl (lt_b rfl) rfl (lt_b rfl) rfl ?_
      refine r_goto (t := 4) hC dX8_answeredBy_31 (by rfl) ?_
      refine r_iload_n hC dX8_answeredBy_4 rfl ?_
      refine r_iconst hC dX8_answeredBy_5 ?_
      refine r_icmp_ge (t := 34) hC dX8_answeredBy_6 (by rfl) (by first | with_reducible exact rg_mI _ _ _ | (with_reducible refine rg_of ?_ _ _; (repeat (first | assumption | apply rf_up | apply rf_setm | apply rf_mI)); done) | (with_reducible refine rg_its ?_ _ _; (repeat (first | assumption | apply rf_up | apply rf_setm | apply rf_mI)); done) | (with_reducible refine rg_way ?_ _ _; (repeat (first | assumption | apply rf_up | apply rf_setm | apply rf_mI)); done) | with_reducible exact rg_and _ _ | (with_reducible refine rg_num ?_ ⟨by omega, by omega⟩; (repeat (first | assumption | apply rf_up | apply rf_setm | apply rf_mI)); done) | (with_reducible refine rf_at ?_ _; (repeat (first | assumption | apply rf_up | apply rf_setm | apply rf_mI)); done) | exact ⟨by omega, by omega⟩) (by first | with_reducible exact rg_mI _ _ _ | (with_reducible refine rg_of ?_ _ _; (repeat (first | assumption | apply rf_up | apply rf_setm | apply rf_mI)); done) | (with_reducible refine rg_its ?_ _ _; (repeat (first | assumption | apply rf_up | apply rf_setm | apply rf_mI)); done) | (with_reducible refine rg_way ?_ _ _; (repeat (first | assumption | apply rf_up | apply rf_setm | apply rf_mI)); done) | with_reducible exact rg_and _ _ | (with_reducible refine rg_num ?_ ⟨by omega, by omega⟩; (repeat (first | assumption | apply rf_up | apply rf_setm | apply rf_mI)); done) | (with_reducible refine rf_at ?_ _; (repeat (first | assumption | apply rf_up | apply rf_setm | apply rf_mI)); done) | exact ⟨by omega, by omega⟩) (fun h_6 => (by omega)) (fun h_6 => ?_)
      refine r_iload_n hC dX8_answeredBy_9 rfl ?_
      refine r_aload_n hC dX8_answeredBy_10 rfl ?_
      refine r_iload_n hC dX8_answeredBy_11 rfl ?_
      refine r_iload_n hC dX8_answeredBy_12 rfl ?_
      refine rM_V0 hC hM dX8_answeredBy_13 mi_X8_isAnswered se_X8_isAnswered ml_X8_67 (rm := rmX8_isAnswered) rfl rfl rfl rfl ⟨le_b rfl, le_b rfl⟩ (k_isAnswered hfC hM hf hk ⟨by omega, by omega⟩) ?_ rfl
      refine r_beq (t := 25) hC dX8_answeredBy_16 (by rfl) (fun h_16 => ?_) (fun h_16 => ?_)
      · skip
        refine r_iconst hC dX8_answeredBy_25 ?_
        refine r_ior hC dX8_answeredBy_26 ?_
        refine r_istore_n (lv' := [_, _, _, _]) hC dX8_answeredBy_27 (lt_b rfl) rfl (lt_b rfl) rfl ?_
        refine r_iinc (lv' := [_, _, _, _]) hC dX8_answeredBy_28 rfl (lt_b rfl) rfl (lt_b rfl) rfl ?_
        refine r_goto (t := 4) hC dX8_answeredBy_31 (by rfl) ?_
        refine r_iload_n hC dX8_answeredBy_4 rfl ?_
        refine r_iconst hC dX8_answeredBy_5 ?_
        refine r_icmp_ge (t := 34) hC dX8_answeredBy_6 (by rfl) (by first | with_reducible exact rg_mI _ _ _ | (with_reducible refine rg_of ?_ _ _; (repeat (first | assumption | apply rf_up | apply rf_setm | apply rf_mI)); done) | (with_reducible refine rg_its ?_ _ _; (repeat (first | assumption | apply rf_up | apply rf_setm | apply rf_mI)); done) | (with_reducible refine rg_way ?_ _ _; (repeat (first | assumption | apply rf_up | apply rf_setm | apply rf_mI)); done) | with_reducible exact rg_and _ _ | (with_reducible refine rg_num ?_ ⟨by omega, by omega⟩; (repeat (first | assumption | apply rf_up | apply rf_setm | apply rf_mI)); done) | (with_reducible refine rf_at ?_ _; (repeat (first | assumption | apply rf_up | apply rf_setm | apply rf_mI)); done) | exact ⟨by omega, by omega⟩) (by first | with_reducible exact rg_mI _ _ _ | (with_reducible refine rg_of ?_ _ _; (repeat (first | assumption | apply rf_up | apply rf_setm | apply rf_mI)); done) | (with_reducible refine rg_its ?_ _ _; (repeat (first | assumption | apply rf_up | apply rf_setm | apply rf_mI)); done) | (with_reducible refine rg_way ?_ _ _; (repeat (first | assumption | apply rf_up | apply rf_setm | apply rf_mI)); done) | with_reducible exact rg_and _ _ | (with_reducible refine rg_num ?_ ⟨by omega, by omega⟩; (repeat (first | assumption | apply rf_up | apply rf_setm | apply rf_mI)); done) | (with_reducible refine rf_at ?_ _; (repeat (first | assumption | apply rf_up | apply rf_setm | apply rf_mI)); done) | exact ⟨by omega, by omega⟩) (fun h_6 => ?_) (fun h_6 => (by omega))
        refine r_iload_n hC dX8_answeredBy_34 rfl ?_
        refine r_iret hC hR dX8_answeredBy_35 (le_b rfl) (le_b rfl) ?_
        refine ⟨congrArg (fun i => some (xI i)) ?_, rfl⟩
        simp_all [m_ansBy]
      · skip
        refine r_iconst hC dX8_answeredBy_19 ?_
        refine r_iload_n hC dX8_answeredBy_20 rfl ?_
        refine r_ishl hC dX8_answeredBy_21 ?_
        refine r_goto (t := 26) hC dX8_answeredBy_22 (by rfl) ?_
        refine r_ior hC dX8_answeredBy_26 ?_
        refine r_istore_n (lv' := [_, _, _, _]) hC dX8_answeredBy_27 (lt_b rfl) rfl (lt_b rfl) rfl ?_
        refine r_iinc (lv' := [_, _, _, _]) hC dX8_answeredBy_28 rfl (lt_b rfl) rfl (lt_b rfl) rfl ?_
        refine r_goto (t := 4) hC dX8_answeredBy_31 (by rfl) ?_
        refine r_iload_n hC dX8_answeredBy_4 rfl ?_
        refine r_iconst hC dX8_answeredBy_5 ?_
        refine r_icmp_ge (t := 34) hC dX8_answeredBy_6 (by rfl) (by first | with_reducible exact rg_mI _ _ _ | (with_reducible refine rg_of ?_ _ _; (repeat (first | assumption | apply rf_up | apply rf_setm | apply rf_mI)); done) | (with_reducible refine rg_its ?_ _ _; (repeat (first | assumption | apply rf_up | apply rf_setm | apply rf_mI)); done) | (with_reducible refine rg_way ?_ _ _; (repeat (first | assumption | apply rf_up | apply rf_setm | apply rf_mI)); done) | with_reducible exact rg_and _ _ | (with_reducible refine rg_num ?_ ⟨by omega, by omega⟩; (repeat (first | assumption | apply rf_up | apply rf_setm | apply rf_mI)); done) | (with_reducible refine rf_at ?_ _; (repeat (first | assumption | apply rf_up | apply rf_setm | apply rf_mI)); done) | exact ⟨by omega, by omega⟩) (by first | with_reducible exact rg_mI _ _ _ | (with_reducible refine rg_of ?_ _ _; (repeat (first | assumption | apply rf_up | apply rf_setm | apply rf_mI)); done) | (with_reducible refine rg_its ?_ _ _; (repeat (first | assumption | apply rf_up | apply rf_setm | apply rf_mI)); done) | (with_reducible refine rg_way ?_ _ _; (repeat (first | assumption | apply rf_up | apply rf_setm | apply rf_mI)); done) | with_reducible exact rg_and _ _ | (with_reducible refine rg_num ?_ ⟨by omega, by omega⟩; (repeat (first | assumption | apply rf_up | apply rf_setm | apply rf_mI)); done) | (with_reducible refine rf_at ?_ _; (repeat (first | assumption | apply rf_up | apply rf_setm | apply rf_mI)); done) | exact ⟨by omega, by omega⟩) (fun h_6 => ?_) (fun h_6 => (by omega))
        refine r_iload_n hC dX8_answeredBy_34 rfl ?_
        refine r_iret hC hR dX8_answeredBy_35 (le_b rfl) (le_b rfl) ?_
        refine ⟨congrArg (fun i => some (xI i)) ?_, rfl⟩
        simp_all [m_ansBy]
    · skip
      refine r_iconst hC dX8_answeredBy_19 ?_
      refine r_iload_n hC dX8_answeredBy_20 rfl ?_
      refine r_ishl hC dX8_answeredBy_21 ?_
      refine r_goto (t := 26) hC dX8_answeredBy_22 (by rfl) ?_
      refine r_ior hC dX8_answeredBy_26 ?_
      refine r_istore_n (lv' := [_, _, _, _]) hC dX8_answeredBy_27 (lt_b rfl) rfl (lt_b rfl) rfl ?_
      refine r_iinc (lv' := [_, _, _, _]) hC dX8_answeredBy_28 rfl (lt_b rfl) rfl (lt_b rfl) rfl ?_
      refine r_goto (t := 4) hC dX8_answeredBy_31 (by rfl) ?_
      refine r_iload_n hC dX8_answeredBy_4 rfl ?_
      refine r_iconst hC dX8_answeredBy_5 ?_
      refine r_icmp_ge (t := 34) hC dX8_answeredBy_6 (by rfl) (by first | with_reducible exact rg_mI _ _ _ | (with_reducible refine rg_of ?_ _ _; (repeat (first | assumption | apply rf_up | apply rf_setm | apply rf_mI)); done) | (with_reducible refine rg_its ?_ _ _; (repeat (first | assumption | apply rf_up | apply rf_setm | apply rf_mI)); done) | (with_reducible refine rg_way ?_ _ _; (repeat (first | assumption | apply rf_up | apply rf_setm | apply rf_mI)); done) | with_reducible exact rg_and _ _ | (with_reducible refine rg_num ?_ ⟨by omega, by omega⟩; (repeat (first | assumption | apply rf_up | apply rf_setm | apply rf_mI)); done) | (with_reducible refine rf_at ?_ _; (repeat (first | assumption | apply rf_up | apply rf_setm | apply rf_mI)); done) | exact ⟨by omega, by omega⟩) (by first | with_reducible exact rg_mI _ _ _ | (with_reducible refine rg_of ?_ _ _; (repeat (first | assumption | apply rf_up | apply rf_setm | apply rf_mI)); done) | (with_reducible refine rg_its ?_ _ _; (repeat (first | assumption | apply rf_up | apply rf_setm | apply rf_mI)); done) | (with_reducible refine rg_way ?_ _ _; (repeat (first | assumption | apply rf_up | apply rf_setm | apply rf_mI)); done) | with_reducible exact rg_and _ _ | (with_reducible refine rg_num ?_ ⟨by omega, by omega⟩; (repeat (first | assumption | apply rf_up | apply rf_setm | apply rf_mI)); done) | (with_reducible refine rf_at ?_ _; (repeat (first | assumption | apply rf_up | apply rf_setm | apply rf_mI)); done) | exact ⟨by omega, by omega⟩) (fun h_6 => (by omega)) (fun h_6 => ?_)
      refine r_iload_n hC dX8_answeredBy_9 rfl ?_
      refine r_aload_n hC dX8_answeredBy_10 rfl ?_
      refine r_iload_n hC dX8_answeredBy_11 rfl ?_
      refine r_iload_n hC dX8_answeredBy_12 rfl ?_
      refine rM_V0 hC hM dX8_answeredBy_13 mi_X8_isAnswered se_X8_isAnswered ml_X8_67 (rm := rmX8_isAnswered) rfl rfl rfl rfl ⟨le_b rfl, le_b rfl⟩ (k_isAnswered hfC hM hf hk ⟨by omega, by omega⟩) ?_ rfl
      refine r_beq (t := 25) hC dX8_answeredBy_16 (by rfl) (fun h_16 => ?_) (fun h_16 => ?_)
      · skip
        refine r_iconst hC dX8_answeredBy_25 ?_
        refine r_ior hC dX8_answeredBy_26 ?_
        refine r_istore_n (lv' := [_, _, _, _]) hC dX8_answeredBy_27 (lt_b rfl) rfl (lt_b rfl) rfl ?_
        refine r_iinc (lv' := [_, _, _, _]) hC dX8_answeredBy_28 rfl (lt_b rfl) rfl (lt_b rfl) rfl ?_
        refine r_goto (t := 4) hC dX8_answeredBy_31 (by rfl) ?_
        refine r_iload_n hC dX8_answeredBy_4 rfl ?_
        refine r_iconst hC dX8_answeredBy_5 ?_
        refine r_icmp_ge (t := 34) hC dX8_answeredBy_6 (by rfl) (by first | with_reducible exact rg_mI _ _ _ | (with_reducible refine rg_of ?_ _ _; (repeat (first | assumption | apply rf_up | apply rf_setm | apply rf_mI)); done) | (with_reducible refine rg_its ?_ _ _; (repeat (first | assumption | apply rf_up | apply rf_setm | apply rf_mI)); done) | (with_reducible refine rg_way ?_ _ _; (repeat (first | assumption | apply rf_up | apply rf_setm | apply rf_mI)); done) | with_reducible exact rg_and _ _ | (with_reducible refine rg_num ?_ ⟨by omega, by omega⟩; (repeat (first | assumption | apply rf_up | apply rf_setm | apply rf_mI)); done) | (with_reducible refine rf_at ?_ _; (repeat (first | assumption | apply rf_up | apply rf_setm | apply rf_mI)); done) | exact ⟨by omega, by omega⟩) (by first | with_reducible exact rg_mI _ _ _ | (with_reducible refine rg_of ?_ _ _; (repeat (first | assumption | apply rf_up | apply rf_setm | apply rf_mI)); done) | (with_reducible refine rg_its ?_ _ _; (repeat (first | assumption | apply rf_up | apply rf_setm | apply rf_mI)); done) | (with_reducible refine rg_way ?_ _ _; (repeat (first | assumption | apply rf_up | apply rf_setm | apply rf_mI)); done) | with_reducible exact rg_and _ _ | (with_reducible refine rg_num ?_ ⟨by omega, by omega⟩; (repeat (first | assumption | apply rf_up | apply rf_setm | apply rf_mI)); done) | (with_reducible refine rf_at ?_ _; (repeat (first | assumption | apply rf_up | apply rf_setm | apply rf_mI)); done) | exact ⟨by omega, by omega⟩) (fun h_6 => ?_) (fun h_6 => (by omega))
        refine r_iload_n hC dX8_answeredBy_34 rfl ?_
        refine r_iret hC hR dX8_answeredBy_35 (le_b rfl) (le_b rfl) ?_
        refine ⟨congrArg (fun i => some (xI i)) ?_, rfl⟩
        simp_all [m_ansBy]
      · skip
        refine r_iconst hC dX8_answeredBy_19 ?_
        refine r_iload_n hC dX8_answeredBy_20 rfl ?_
        refine r_ishl hC dX8_answeredBy_21 ?_
        refine r_goto (t := 26) hC dX8_answeredBy_22 (by rfl) ?_
        refine r_ior hC dX8_answeredBy_26 ?_
        refine r_istore_n (lv' := [_, _, _, _]) hC dX8_answeredBy_27 (lt_b rfl) rfl (lt_b rfl) rfl ?_
        refine r_iinc (lv' := [_, _, _, _]) hC dX8_answeredBy_28 rfl (lt_b rfl) rfl (lt_b rfl) rfl ?_
        refine r_goto (t := 4) hC dX8_answeredBy_31 (by rfl) ?_
        refine r_iload_n hC dX8_answeredBy_4 rfl ?_
        refine r_iconst hC dX8_answeredBy_5 ?_
        refine r_icmp_ge (t := 34) hC dX8_answeredBy_6 (by rfl) (by first | with_reducible exact rg_mI _ _ _ | (with_reducible refine rg_of ?_ _ _; (repeat (first | assumption | apply rf_up | apply rf_setm | apply rf_mI)); done) | (with_reducible refine rg_its ?_ _ _; (repeat (first | assumption | apply rf_up | apply rf_setm | apply rf_mI)); done) | (with_reducible refine rg_way ?_ _ _; (repeat (first | assumption | apply rf_up | apply rf_setm | apply rf_mI)); done) | with_reducible exact rg_and _ _ | (with_reducible refine rg_num ?_ ⟨by omega, by omega⟩; (repeat (first | assumption | apply rf_up | apply rf_setm | apply rf_mI)); done) | (with_reducible refine rf_at ?_ _; (repeat (first | assumption | apply rf_up | apply rf_setm | apply rf_mI)); done) | exact ⟨by omega, by omega⟩) (by first | with_reducible exact rg_mI _ _ _ | (with_reducible refine rg_of ?_ _ _; (repeat (first | assumption | apply rf_up | apply rf_setm | apply rf_mI)); done) | (with_reducible refine rg_its ?_ _ _; (repeat (first | assumption | apply rf_up | apply rf_setm | apply rf_mI)); done) | (with_reducible refine rg_way ?_ _ _; (repeat (first | assumption | apply rf_up | apply rf_setm | apply rf_mI)); done) | with_reducible exact rg_and _ _ | (with_reducible refine rg_num ?_ ⟨by omega, by omega⟩; (repeat (first | assumption | apply rf_up | apply rf_setm | apply rf_mI)); done) | (with_reducible refine rf_at ?_ _; (repeat (first | assumption | apply rf_up | apply rf_setm | apply rf_mI)); done) | exact ⟨by omega, by omega⟩) (fun h_6 => ?_) (fun h_6 => (by omega))
        refine r_iload_n hC dX8_answeredBy_34 rfl ?_
        refine r_iret hC hR dX8_answeredBy_35 (le_b rfl) (le_b rfl) ?_
        refine ⟨congrArg (fun i => some (xI i)) ?_, rfl⟩
        simp_all [m_ansBy]
  · skip
    refine r_iconst hC dX8_answeredBy_19 ?_
    refine r_iload_n hC dX8_answeredBy_20 rfl ?_
    refine r_ishl hC dX8_answeredBy_21 ?_
    refine r_goto (t := 26) hC dX8_answeredBy_22 (by rfl) ?_
    refine r_ior hC dX8_answeredBy_26 ?_
    refine r_istore_n (lv' := [_, _, _, _]) hC dX8_answeredBy_27 (lt_b rfl) rfl (lt_b rfl) rfl ?_
    refine r_iinc (lv' := [_, _, _, _]) hC dX8_answeredBy_28 rfl (lt_b rfl) rfl (lt_b rfl) rfl ?_
    refine r_goto (t := 4) hC dX8_answeredBy_31 (by rfl) ?_
    refine r_iload_n hC dX8_answeredBy_4 rfl ?_
    refine r_iconst hC dX8_answeredBy_5 ?_
    refine r_icmp_ge (t := 34) hC dX8_answeredBy_6 (by rfl) (by first | with_reducible exact rg_mI _ _ _ | (with_reducible refine rg_of ?_ _ _; (repeat (first | assumption | apply rf_up | apply rf_setm | apply rf_mI)); done) | (with_reducible refine rg_its ?_ _ _; (repeat (first | assumption | apply rf_up | apply rf_setm | apply rf_mI)); done) | (with_reducible refine rg_way ?_ _ _; (repeat (first | assumption | apply rf_up | apply rf_setm | apply rf_mI)); done) | with_reducible exact rg_and _ _ | (with_reducible refine rg_num ?_ ⟨by omega, by omega⟩; (repeat (first | assumption | apply rf_up | apply rf_setm | apply rf_mI)); done) | (with_reducible refine rf_at ?_ _; (repeat (first | assumption | apply rf_up | apply rf_setm | apply rf_mI)); done) | exact ⟨by omega, by omega⟩) (by first | with_reducible exact rg_mI _ _ _ | (with_reducible refine rg_of ?_ _ _; (repeat (first | assumption | apply rf_up | apply rf_setm | apply rf_mI)); done) | (with_reducible refine rg_its ?_ _ _; (repeat (first | assumption | apply rf_up | apply rf_setm | apply rf_mI)); done) | (with_reducible refine rg_way ?_ _ _; (repeat (first | assumption | apply rf_up | apply rf_setm | apply rf_mI)); done) | with_reducible exact rg_and _ _ | (with_reducible refine rg_num ?_ ⟨by omega, by omega⟩; (repeat (first | assumption | apply rf_up | apply rf_setm | apply rf_mI)); done) | (with_reducible refine rf_at ?_ _; (repeat (first | assumption | apply rf_up | apply rf_setm | apply rf_mI)); done) | exact ⟨by omega, by omega⟩) (fun h_6 => (by omega)) (fun h_6 => ?_)
    refine r_iload_n hC dX8_answeredBy_9 rfl ?_
    refine r_aload_n hC dX8_answeredBy_10 rfl ?_
    refine r_iload_n hC dX8_answeredBy_11 rfl ?_
    refine r_iload_n hC dX8_answeredBy_12 rfl ?_
    refine rM_V0 hC hM dX8_answeredBy_13 mi_X8_isAnswered se_X8_isAnswered ml_X8_67 (rm := rmX8_isAnswered) rfl rfl rfl rfl ⟨le_b rfl, le_b rfl⟩ (k_isAnswered hfC hM hf hk ⟨by omega, by omega⟩) ?_ rfl
    refine r_beq (t := 25) hC dX8_answeredBy_16 (by rfl) (fun h_16 => ?_) (fun h_16 => ?_)
    · skip
      refine r_iconst hC dX8_answeredBy_25 ?_
      refine r_ior hC dX8_answeredBy_26 ?_
      refine r_istore_n (lv' := [_, _, _, _]) hC dX8_answeredBy_27 (lt_b rfl) rfl (lt_b rfl) rfl ?_
      refine r_iinc (lv' := [_, _, _, _]) hC dX8_answeredBy_28 rfl (lt_b rfl) rfl (lt_b rfl) rfl ?_
      refine r_goto (t := 4) hC dX8_answeredBy_31 (by rfl) ?_
      refine r_iload_n hC dX8_answeredBy_4 rfl ?_
      refine r_iconst hC dX8_answeredBy_5 ?_
      refine r_icmp_ge (t := 34) hC dX8_answeredBy_6 (by rfl) (by first | with_reducible exact rg_mI _ _ _ | (with_reducible refine rg_of ?_ _ _; (repeat (first | assumption | apply rf_up | apply rf_setm | apply rf_mI)); done) | (with_reducible refine rg_its ?_ _ _; (repeat (first | assumption | apply rf_up | apply rf_setm | apply rf_mI)); done) | (with_reducible refine rg_way ?_ _ _; (repeat (first | assumption | apply rf_up | apply rf_setm | apply rf_mI)); done) | with_reducible exact rg_and _ _ | (with_reducible refine rg_num ?_ ⟨by omega, by omega⟩; (repeat (first | assumption | apply rf_up | apply rf_setm | apply rf_mI)); done) | (with_reducible refine rf_at ?_ _; (repeat (first | assumption | apply rf_up | apply rf_setm | apply rf_mI)); done) | exact ⟨by omega, by omega⟩) (by first | with_reducible exact rg_mI _ _ _ | (with_reducible refine rg_of ?_ _ _; (repeat (first | assumption | apply rf_up | apply rf_setm | apply rf_mI)); done) | (with_reducible refine rg_its ?_ _ _; (repeat (first | assumption | apply rf_up | apply rf_setm | apply rf_mI)); done) | (with_reducible refine rg_way ?_ _ _; (repeat (first | assumption | apply rf_up | apply rf_setm | apply rf_mI)); done) | with_reducible exact rg_and _ _ | (with_reducible refine rg_num ?_ ⟨by omega, by omega⟩; (repeat (first | assumption | apply rf_up | apply rf_setm | apply rf_mI)); done) | (with_reducible refine rf_at ?_ _; (repeat (first | assumption | apply rf_up | apply rf_setm | apply rf_mI)); done) | exact ⟨by omega, by omega⟩) (fun h_6 => (by omega)) (fun h_6 => ?_)
      refine r_iload_n hC dX8_answeredBy_9 rfl ?_
      refine r_aload_n hC dX8_answeredBy_10 rfl ?_
      refine r_iload_n hC dX8_answeredBy_11 rfl ?_
      refine r_iload_n hC dX8_answeredBy_12 rfl ?_
      refine rM_V0 hC hM dX8_answeredBy_13 mi_X8_isAnswered se_X8_isAnswered ml_X8_67 (rm := rmX8_isAnswered) rfl rfl rfl rfl ⟨le_b rfl, le_b rfl⟩ (k_isAnswered hfC hM hf hk ⟨by omega, by omega⟩) ?_ rfl
      refine r_beq (t := 25) hC dX8_answeredBy_16 (by rfl) (fun h_16 => ?_) (fun h_16 => ?_)
      · skip
        refine r_iconst hC dX8_answeredBy_25 ?_
        refine r_ior hC dX8_answeredBy_26 ?_
        refine r_istore_n (lv' := [_, _, _, _]) hC dX8_answeredBy_27 (lt_b rfl) rfl (lt_b rfl) rfl ?_
        refine r_iinc (lv' := [_, _, _, _]) hC dX8_answeredBy_28 rfl (lt_b rfl) rfl (lt_b rfl) rfl ?_
        refine r_goto (t := 4) hC dX8_answeredBy_31 (by rfl) ?_
        refine r_iload_n hC dX8_answeredBy_4 rfl ?_
        refine r_iconst hC dX8_answeredBy_5 ?_
        refine r_icmp_ge (t := 34) hC dX8_answeredBy_6 (by rfl) (by first | with_reducible exact rg_mI _ _ _ | (with_reducible refine rg_of ?_ _ _; (repeat (first | assumption | apply rf_up | apply rf_setm | apply rf_mI)); done) | (with_reducible refine rg_its ?_ _ _; (repeat (first | assumption | apply rf_up | apply rf_setm | apply rf_mI)); done) | (with_reducible refine rg_way ?_ _ _; (repeat (first | assumption | apply rf_up | apply rf_setm | apply rf_mI)); done) | with_reducible exact rg_and _ _ | (with_reducible refine rg_num ?_ ⟨by omega, by omega⟩; (repeat (first | assumption | apply rf_up | apply rf_setm | apply rf_mI)); done) | (with_reducible refine rf_at ?_ _; (repeat (first | assumption | apply rf_up | apply rf_setm | apply rf_mI)); done) | exact ⟨by omega, by omega⟩) (by first | with_reducible exact rg_mI _ _ _ | (with_reducible refine rg_of ?_ _ _; (repeat (first | assumption | apply rf_up | apply rf_setm | apply rf_mI)); done) | (with_reducible refine rg_its ?_ _ _; (repeat (first | assumption | apply rf_up | apply rf_setm | apply rf_mI)); done) | (with_reducible refine rg_way ?_ _ _; (repeat (first | assumption | apply rf_up | apply rf_setm | apply rf_mI)); done) | with_reducible exact rg_and _ _ | (with_reducible refine rg_num ?_ ⟨by omega, by omega⟩; (repeat (first | assumption | apply rf_up | apply rf_setm | apply rf_mI)); done) | (with_reducible refine rf_at ?_ _; (repeat (first | assumption | apply rf_up | apply rf_setm | apply rf_mI)); done) | exact ⟨by omega, by omega⟩) (fun h_6 => ?_) (fun h_6 => (by omega))
        refine r_iload_n hC dX8_answeredBy_34 rfl ?_
        refine r_iret hC hR dX8_answeredBy_35 (le_b rfl) (le_b rfl) ?_
        refine ⟨congrArg (fun i => some (xI i)) ?_, rfl⟩
        simp_all [m_ansBy]
      · skip
        refine r_iconst hC dX8_answeredBy_19 ?_
        refine r_iload_n hC dX8_answeredBy_20 rfl ?_
        refine r_ishl hC dX8_answeredBy_21 ?_
        refine r_goto (t := 26) hC dX8_answeredBy_22 (by rfl) ?_
        refine r_ior hC dX8_answeredBy_26 ?_
        refine r_istore_n (lv' := [_, _, _, _]) hC dX8_answeredBy_27 (lt_b rfl) rfl (lt_b rfl) rfl ?_
        refine r_iinc (lv' := [_, _, _, _]) hC dX8_answeredBy_28 rfl (lt_b rfl) rfl (lt_b rfl) rfl ?_
        refine r_goto (t := 4) hC dX8_answeredBy_31 (by rfl) ?_
        refine r_iload_n hC dX8_answeredBy_4 rfl ?_
        refine r_iconst hC dX8_answeredBy_5 ?_
        refine r_icmp_ge (t := 34) hC dX8_answeredBy_6 (by rfl) (by first | with_reducible exact rg_mI _ _ _ | (with_reducible refine rg_of ?_ _ _; (repeat (first | assumption | apply rf_up | apply rf_setm | apply rf_mI)); done) | (with_reducible refine rg_its ?_ _ _; (repeat (first | assumption | apply rf_up | apply rf_setm | apply rf_mI)); done) | (with_reducible refine rg_way ?_ _ _; (repeat (first | assumption | apply rf_up | apply rf_setm | apply rf_mI)); done) | with_reducible exact rg_and _ _ | (with_reducible refine rg_num ?_ ⟨by omega, by omega⟩; (repeat (first | assumption | apply rf_up | apply rf_setm | apply rf_mI)); done) | (with_reducible refine rf_at ?_ _; (repeat (first | assumption | apply rf_up | apply rf_setm | apply rf_mI)); done) | exact ⟨by omega, by omega⟩) (by first | with_reducible exact rg_mI _ _ _ | (with_reducible refine rg_of ?_ _ _; (repeat (first | assumption | apply rf_up | apply rf_setm | apply rf_mI)); done) | (with_reducible refine rg_its ?_ _ _; (repeat (first | assumption | apply rf_up | apply rf_setm | apply rf_mI)); done) | (with_reducible refine rg_way ?_ _ _; (repeat (first | assumption | apply rf_up | apply rf_setm | apply rf_mI)); done) | with_reducible exact rg_and _ _ | (with_reducible refine rg_num ?_ ⟨by omega, by omega⟩; (repeat (first | assumption | apply rf_up | apply rf_setm | apply rf_mI)); done) | (with_reducible refine rf_at ?_ _; (repeat (first | assumption | apply rf_up | apply rf_setm | apply rf_mI)); done) | exact ⟨by omega, by omega⟩) (fun h_6 => ?_) (fun h_6 => (by omega))
        refine r_iload_n hC dX8_answeredBy_34 rfl ?_
        refine r_iret hC hR dX8_answeredBy_35 (le_b rfl) (le_b rfl) ?_
        refine ⟨congrArg (fun i => some (xI i)) ?_, rfl⟩
        simp_all [m_ansBy]
    · skip
      refine r_iconst hC dX8_answeredBy_19 ?_
      refine r_iload_n hC dX8_answeredBy_20 rfl ?_
      refine r_ishl hC dX8_answeredBy_21 ?_
      refine r_goto (t := 26) hC dX8_answeredBy_22 (by rfl) ?_
      refine r_ior hC dX8_answeredBy_26 ?_
      refine r_istore_n (lv' := [_, _, _, _]) hC dX8_answeredBy_27 (lt_b rfl) rfl (lt_b rfl) rfl ?_
      refine r_iinc (lv' := [_, _, _, _]) hC dX8_answeredBy_28 rfl (lt_b rfl) rfl (lt_b rfl) rfl ?_
      refine r_goto (t := 4) hC dX8_answeredBy_31 (by rfl) ?_
      refine r_iload_n hC dX8_answeredBy_4 rfl ?_
      refine r_iconst hC dX8_answeredBy_5 ?_
      refine r_icmp_ge (t := 34) hC dX8_answeredBy_6 (by rfl) (by first | with_reducible exact rg_mI _ _ _ | (with_reducible refine rg_of ?_ _ _; (repeat (first | assumption | apply rf_up | apply rf_setm | apply rf_mI)); done) | (with_reducible refine rg_its ?_ _ _; (repeat (first | assumption | apply rf_up | apply rf_setm | apply rf_mI)); done) | (with_reducible refine rg_way ?_ _ _; (repeat (first | assumption | apply rf_up | apply rf_setm | apply rf_mI)); done) | with_reducible exact rg_and _ _ | (with_reducible refine rg_num ?_ ⟨by omega, by omega⟩; (repeat (first | assumption | apply rf_up | apply rf_setm | apply rf_mI)); done) | (with_reducible refine rf_at ?_ _; (repeat (first | assumption | apply rf_up | apply rf_setm | apply rf_mI)); done) | exact ⟨by omega, by omega⟩) (by first | with_reducible exact rg_mI _ _ _ | (with_reducible refine rg_of ?_ _ _; (repeat (first | assumption | apply rf_up | apply rf_setm | apply rf_mI)); done) | (with_reducible refine rg_its ?_ _ _; (repeat (first | assumption | apply rf_up | apply rf_setm | apply rf_mI)); done) | (with_reducible refine rg_way ?_ _ _; (repeat (first | assumption | apply rf_up | apply rf_setm | apply rf_mI)); done) | with_reducible exact rg_and _ _ | (with_reducible refine rg_num ?_ ⟨by omega, by omega⟩; (repeat (first | assumption | apply rf_up | apply rf_setm | apply rf_mI)); done) | (with_reducible refine rf_at ?_ _; (repeat (first | assumption | apply rf_up | apply rf_setm | apply rf_mI)); done) | exact ⟨by omega, by omega⟩) (fun h_6 => (by omega)) (fun h_6 => ?_)
      refine r_iload_n hC dX8_answeredBy_9 rfl ?_
      refine r_aload_n hC dX8_answeredBy_10 rfl ?_
      refine r_iload_n hC dX8_answeredBy_11 rfl ?_
      refine r_iload_n hC dX8_answeredBy_12 rfl ?_
      refine rM_V0 hC hM dX8_answeredBy_13 mi_X8_isAnswered se_X8_isAnswered ml_X8_67 (rm := rmX8_isAnswered) rfl rfl rfl rfl ⟨le_b rfl, le_b rfl⟩ (k_isAnswered hfC hM hf hk ⟨by omega, by omega⟩) ?_ rfl
      refine r_beq (t := 25) hC dX8_answeredBy_16 (by rfl) (fun h_16 => ?_) (fun h_16 => ?_)
      · skip
        refine r_iconst hC dX8_answeredBy_25 ?_
        refine r_ior hC dX8_answeredBy_26 ?_
        refine r_istore_n (lv' := [_, _, _, _]) hC dX8_answeredBy_27 (lt_b rfl) rfl (lt_b rfl) rfl ?_
        refine r_iinc (lv' := [_, _, _, _]) hC dX8_answeredBy_28 rfl (lt_b rfl) rfl (lt_b rfl) rfl ?_
        refine r_goto (t := 4) hC dX8_answeredBy_31 (by rfl) ?_
        refine r_iload_n hC dX8_answeredBy_4 rfl ?_
        refine r_iconst hC dX8_answeredBy_5 ?_
        refine r_icmp_ge (t := 34) hC dX8_answeredBy_6 (by rfl) (by first | with_reducible exact rg_mI _ _ _ | (with_reducible refine rg_of ?_ _ _; (repeat (first | assumption | apply rf_up | apply rf_setm | apply rf_mI)); done) | (with_reducible refine rg_its ?_ _ _; (repeat (first | assumption | apply rf_up | apply rf_setm | apply rf_mI)); done) | (with_reducible refine rg_way ?_ _ _; (repeat (first | assumption | apply rf_up | apply rf_setm | apply rf_mI)); done) | with_reducible exact rg_and _ _ | (with_reducible refine rg_num ?_ ⟨by omega, by omega⟩; (repeat (first | assumption | apply rf_up | apply rf_setm | apply rf_mI)); done) | (with_reducible refine rf_at ?_ _; (repeat (first | assumption | apply rf_up | apply rf_setm | apply rf_mI)); done) | exact ⟨by omega, by omega⟩) (by first | with_reducible exact rg_mI _ _ _ | (with_reducible refine rg_of ?_ _ _; (repeat (first | assumption | apply rf_up | apply rf_setm | apply rf_mI)); done) | (with_reducible refine rg_its ?_ _ _; (repeat (first | assumption | apply rf_up | apply rf_setm | apply rf_mI)); done) | (with_reducible refine rg_way ?_ _ _; (repeat (first | assumption | apply rf_up | apply rf_setm | apply rf_mI)); done) | with_reducible exact rg_and _ _ | (with_reducible refine rg_num ?_ ⟨by omega, by omega⟩; (repeat (first | assumption | apply rf_up | apply rf_setm | apply rf_mI)); done) | (with_reducible refine rf_at ?_ _; (repeat (first | assumption | apply rf_up | apply rf_setm | apply rf_mI)); done) | exact ⟨by omega, by omega⟩) (fun h_6 => ?_) (fun h_6 => (by omega))
        refine r_iload_n hC dX8_answeredBy_34 rfl ?_
        refine r_iret hC hR dX8_answeredBy_35 (le_b rfl) (le_b rfl) ?_
        refine ⟨congrArg (fun i => some (xI i)) ?_, rfl⟩
        simp_all [m_ansBy]
      · skip
        refine r_iconst hC dX8_answeredBy_19 ?_
        refine r_iload_n hC dX8_answeredBy_20 rfl ?_
        refine r_ishl hC dX8_answeredBy_21 ?_
        refine r_goto (t := 26) hC dX8_answeredBy_22 (by rfl) ?_
        refine r_ior hC dX8_answeredBy_26 ?_
        refine r_istore_n (lv' := [_, _, _, _]) hC dX8_answeredBy_27 (lt_b rfl) rfl (lt_b rfl) rfl ?_
        refine r_iinc (lv' := [_, _, _, _]) hC dX8_answeredBy_28 rfl (lt_b rfl) rfl (lt_b rfl) rfl ?_
        refine r_goto (t := 4) hC dX8_answeredBy_31 (by rfl) ?_
        refine r_iload_n hC dX8_answeredBy_4 rfl ?_
        refine r_iconst hC dX8_answeredBy_5 ?_
        refine r_icmp_ge (t := 34) hC dX8_answeredBy_6 (by rfl) (by first | with_reducible exact rg_mI _ _ _ | (with_reducible refine rg_of ?_ _ _; (repeat (first | assumption | apply rf_up | apply rf_setm | apply rf_mI)); done) | (with_reducible refine rg_its ?_ _ _; (repeat (first | assumption | apply rf_up | apply rf_setm | apply rf_mI)); done) | (with_reducible refine rg_way ?_ _ _; (repeat (first | assumption | apply rf_up | apply rf_setm | apply rf_mI)); done) | with_reducible exact rg_and _ _ | (with_reducible refine rg_num ?_ ⟨by omega, by omega⟩; (repeat (first | assumption | apply rf_up | apply rf_setm | apply rf_mI)); done) | (with_reducible refine rf_at ?_ _; (repeat (first | assumption | apply rf_up | apply rf_setm | apply rf_mI)); done) | exact ⟨by omega, by omega⟩) (by first | with_reducible exact rg_mI _ _ _ | (with_reducible refine rg_of ?_ _ _; (repeat (first | assumption | apply rf_up | apply rf_setm | apply rf_mI)); done) | (with_reducible refine rg_its ?_ _ _; (repeat (first | assumption | apply rf_up | apply rf_setm | apply rf_mI)); done) | (with_reducible refine rg_way ?_ _ _; (repeat (first | assumption | apply rf_up | apply rf_setm | apply rf_mI)); done) | with_reducible exact rg_and _ _ | (with_reducible refine rg_num ?_ ⟨by omega, by omega⟩; (repeat (first | assumption | apply rf_up | apply rf_setm | apply rf_mI)); done) | (with_reducible refine rf_at ?_ _; (repeat (first | assumption | apply rf_up | apply rf_setm | apply rf_mI)); done) | exact ⟨by omega, by omega⟩) (fun h_6 => ?_) (fun h_6 => (by omega))
        refine r_iload_n hC dX8_answeredBy_34 rfl ?_
        refine r_iret hC hR dX8_answeredBy_35 (le_b rfl) (le_b rfl) ?_
        refine ⟨congrArg (fun i => some (xI i)) ?_, rfl⟩
        simp_all [m_ansBy]

def m_rowsL (r : RW) (c : Int) : Nat → Int
  | 0 => 0
  | k + 1 => m_rowsL r c k + (if m_mark r k 0 = false ∧ m_ans r k c = false then 1 else 0)
def m_rows (r : RW) (c : Int) : Int := m_rowsL r c (r 2).toNat
theorem m_rowsL_rg (r : RW) (c : Int) (n : Nat) : 0 ≤ m_rowsL r c n ∧ m_rowsL r c n ≤ n := by
  induction n with
  | zero => simp [m_rowsL]
  | succ n ih => simp only [m_rowsL]; split <;> omega
abbrev rmX8_rowsFor : Room := { frames := 3, cells := 0, slots := 0, locals := 66 }
set_option maxRecDepth 100000 in
theorem k_rowsFor {l : Launch} {D : DD} (hfl : l.stackTraces = false) {u : Mem} {m : Nat} (hM : MO u m) {f : RW} (hf : RF f) (h2 : 0 ≤ f 2 ∧ f 2 ≤ 200) {c : Int} (hc : 0 ≤ c ∧ c < 3) : CT l D yX8_rowsFor cX8_rowsFor 4 (some .int) rmX8_rowsFor [xA m, xI c] (sA u (m + 1) f) (RT (xI (m_rows f c)) (sA u (m + 1) f)) := by
  refine CT.of hfl (by decide) (le_b rfl) ?_
  intro C hC hR hL hDD hN
  have hfC : (cxL C).stackTraces = false := by rw [hL]; exact hfl
  have lp : ∀ (n : Nat) (k : Nat) (b : Int), ((f 2 - k).toNat = n) → ((k : Int) ≤ f 2) → (b = m_rowsL f c k) → VW C 4 [some (xA m), some (xI c), some (xI b), some (xI k)] [] (sA u (m + 1) f) 0 0 := by
    intro n
    induction n using Nat.strongRecOn with
    | _ n ih =>
      intro k b hn hk hb
      refine r_iload_n hC dX8_rowsFor_4 rfl ?_
      refine r_aload_n hC dX8_rowsFor_5 rfl ?_
      refine r_getR (j := 0) hC dX8_rowsFor_6 fl_X8_7 rfl rfl hM.o hM.p_row ?_
      refine r_iconst hC dX8_rowsFor_9 ?_
      refine rM_ald hC hM (by (repeat (first | assumption | apply rf_up | apply rf_setm | apply rf_mI))) dX8_rowsFor_10 ⟨by omega, by omega⟩ ?_
      refine r_icmp_ge (t := 46) hC dX8_rowsFor_11 (by rfl) (by first | with_reducible exact rg_mI _ _ _ | (with_reducible refine rg_of ?_ _ _; (repeat (first | assumption | apply rf_up | apply rf_setm | apply rf_mI)); done) | (with_reducible refine rg_its ?_ _ _; (repeat (first | assumption | apply rf_up | apply rf_setm | apply rf_mI)); done) | (with_reducible refine rg_way ?_ _ _; (repeat (first | assumption | apply rf_up | apply rf_setm | apply rf_mI)); done) | with_reducible exact rg_and _ _ | (with_reducible refine rg_num ?_ ⟨by omega, by omega⟩; (repeat (first | assumption | apply rf_up | apply rf_setm | apply rf_mI)); done) | (with_reducible refine rf_at ?_ _; (repeat (first | assumption | apply rf_up | apply rf_setm | apply rf_mI)); done) | exact ⟨by omega, by omega⟩) (by first | with_reducible exact rg_mI _ _ _ | (with_reducible refine rg_of ?_ _ _; (repeat (first | assumption | apply rf_up | apply rf_setm | apply rf_mI)); done) | (with_reducible refine rg_its ?_ _ _; (repeat (first | assumption | apply rf_up | apply rf_setm | apply rf_mI)); done) | (with_reducible refine rg_way ?_ _ _; (repeat (first | assumption | apply rf_up | apply rf_setm | apply rf_mI)); done) | with_reducible exact rg_and _ _ | (with_reducible refine rg_num ?_ ⟨by omega, by omega⟩; (repeat (first | assumption | apply rf_up | apply rf_setm | apply rf_mI)); done) | (with_reducible refine rf_at ?_ _; (repeat (first | assumption | apply rf_up | apply rf_setm | apply rf_mI)); done) | exact ⟨by omega, by omega⟩) (fun h_11 => ?_) (fun h_11 => ?_)
      · skip
        refine r_iload_n hC dX8_rowsFor_46 rfl ?_
        refine r_iret hC hR dX8_rowsFor_47 (le_b rfl) (le_b rfl) ?_
        refine ⟨congrArg (fun i => some (xI i)) ?_, rfl⟩
        rw [hb]; unfold m_rows; congr 1; omega
      · skip
        refine r_iload_n hC dX8_rowsFor_14 rfl ?_
        refine r_aload_n hC dX8_rowsFor_15 rfl ?_
        refine r_iload_n hC dX8_rowsFor_16 rfl ?_
        refine r_iconst hC dX8_rowsFor_17 ?_
        refine rM_V0 hC hM dX8_rowsFor_18 mi_X8_hasMark se_X8_hasMark ml_X8_51 (rm := rmX8_hasMark) rfl rfl rfl rfl ⟨le_b rfl, le_b rfl⟩ (k_hasMark hfC hM hf ⟨by omega, by omega⟩) ?_ rfl
        refine r_bne (t := 37) hC dX8_rowsFor_21 (by rfl) (fun h_21 => ?_) (fun h_21 => ?_)
        · skip
          refine r_iconst hC dX8_rowsFor_37 ?_
          refine r_iadd hC dX8_rowsFor_38 ?_
          refine r_istore_n (lv' := [_, _, _, _]) hC dX8_rowsFor_39 (lt_b rfl) rfl (lt_b rfl) rfl ?_
          refine r_iinc (lv' := [_, _, _, _]) hC dX8_rowsFor_40 rfl (lt_b rfl) rfl (lt_b rfl) rfl ?_
          refine r_goto (t := 4) hC dX8_rowsFor_43 (by rfl) ?_
          exact ih _ (by omega) (k + 1) _ rfl (by omega) (by subst hb; simp only [m_rowsL]; split <;> simp_all)
        · skip
          refine r_aload_n hC dX8_rowsFor_24 rfl ?_
          refine r_iload_n hC dX8_rowsFor_25 rfl ?_
          refine r_iload_n hC dX8_rowsFor_26 rfl ?_
          refine rM_V0 hC hM dX8_rowsFor_27 mi_X8_isAnswered se_X8_isAnswered ml_X8_67 (rm := rmX8_isAnswered) rfl rfl rfl rfl ⟨le_b rfl, le_b rfl⟩ (k_isAnswered hfC hM hf ⟨by omega, by omega⟩ hc) ?_ rfl
          refine r_bne (t := 37) hC dX8_rowsFor_30 (by rfl) (fun h_30 => ?_) (fun h_30 => ?_)
          · skip
            refine r_iconst hC dX8_rowsFor_37 ?_
            refine r_iadd hC dX8_rowsFor_38 ?_
            refine r_istore_n (lv' := [_, _, _, _]) hC dX8_rowsFor_39 (lt_b rfl) rfl (lt_b rfl) rfl ?_
            refine r_iinc (lv' := [_, _, _, _]) hC dX8_rowsFor_40 rfl (lt_b rfl) rfl (lt_b rfl) rfl ?_
            refine r_goto (t := 4) hC dX8_rowsFor_43 (by rfl) ?_
            exact ih _ (by omega) (k + 1) _ rfl (by omega) (by subst hb; simp only [m_rowsL]; split <;> simp_all)
          · skip
            refine r_iconst hC dX8_rowsFor_33 ?_
            refine r_goto (t := 38) hC dX8_rowsFor_34 (by rfl) ?_
            refine r_iadd hC dX8_rowsFor_38 ?_
            refine r_istore_n (lv' := [_, _, _, _]) hC dX8_rowsFor_39 (lt_b rfl) rfl (lt_b rfl) rfl ?_
            refine r_iinc (lv' := [_, _, _, _]) hC dX8_rowsFor_40 rfl (lt_b rfl) rfl (lt_b rfl) rfl ?_
            refine r_goto (t := 4) hC dX8_rowsFor_43 (by rfl) ?_
            exact ih _ (by omega) (k + 1) _ rfl (by omega) (by subst hb; simp only [m_rowsL]; split <;> simp_all)
  show VW C 0 [some (xA m), some (xI c), none, none] [] (sA u (m + 1) f) 0 0
  refine r_iconst hC dX8_rowsFor_0 ?_
  refine r_istore_n (lv' := [_, _, _, _]) hC dX8_rowsFor_1 (lt_b rfl) rfl (lt_b rfl) rfl ?_
  refine r_iconst hC dX8_rowsFor_2 ?_
  refine r_istore_n (lv' := [_, _, _, _]) hC dX8_rowsFor_3 (lt_b rfl) rfl (lt_b rfl) rfl ?_
  exact lp _ 0 _ rfl (by omega) rfl

def m_free (r : RW) : Int := if m_its r 0 0 = 0 then 0 else if m_its r 1 0 = 0 then 1 else if m_its r 2 0 = 0 then 2 else if m_its r 3 0 = 0 then 3 else -1
abbrev rmX8_freePlace : Room := { frames := 1, cells := 0, slots := 0, locals := 22 }
set_option maxRecDepth 100000 in
theorem k_freePlace {l : Launch} {D : DD} (hfl : l.stackTraces = false) {u : Mem} {m : Nat} (hM : MO u m) {f : RW} (hf : RF f)  : CT l D yX8_freePlace cX8_freePlace 2 (some .int) rmX8_freePlace [xA m] (sA u (m + 1) f) (RT (xI (m_free f)) (sA u (m + 1) f)) := by
  refine CT.of hfl (by decide) (le_b rfl) ?_
  intro C hC hR hL hDD hN
  have hfC : (cxL C).stackTraces = false := by rw [hL]; exact hfl
  show VW C 0 [some (xA m), none] [] (sA u (m + 1) f) 0 0
  refine r_iconst hC dX8_freePlace_0 ?_
  refine r_istore_n (lv' := [_, _]) hC dX8_freePlace_1 (lt_b rfl) rfl (lt_b rfl) rfl ?_
  refine r_iload_n hC dX8_freePlace_2 rfl ?_
  refine r_iconst hC dX8_freePlace_3 ?_
  refine r_icmp_ge (t := 24) hC dX8_freePlace_4 (by rfl) (by first | with_reducible exact rg_mI _ _ _ | (with_reducible refine rg_of ?_ _ _; (repeat (first | assumption | apply rf_up | apply rf_setm | apply rf_mI)); done) | (with_reducible refine rg_its ?_ _ _; (repeat (first | assumption | apply rf_up | apply rf_setm | apply rf_mI)); done) | (with_reducible refine rg_way ?_ _ _; (repeat (first | assumption | apply rf_up | apply rf_setm | apply rf_mI)); done) | with_reducible exact rg_and _ _ | (with_reducible refine rg_num ?_ ⟨by omega, by omega⟩; (repeat (first | assumption | apply rf_up | apply rf_setm | apply rf_mI)); done) | (with_reducible refine rf_at ?_ _; (repeat (first | assumption | apply rf_up | apply rf_setm | apply rf_mI)); done) | exact ⟨by omega, by omega⟩) (by first | with_reducible exact rg_mI _ _ _ | (with_reducible refine rg_of ?_ _ _; (repeat (first | assumption | apply rf_up | apply rf_setm | apply rf_mI)); done) | (with_reducible refine rg_its ?_ _ _; (repeat (first | assumption | apply rf_up | apply rf_setm | apply rf_mI)); done) | (with_reducible refine rg_way ?_ _ _; (repeat (first | assumption | apply rf_up | apply rf_setm | apply rf_mI)); done) | with_reducible exact rg_and _ _ | (with_reducible refine rg_num ?_ ⟨by omega, by omega⟩; (repeat (first | assumption | apply rf_up | apply rf_setm | apply rf_mI)); done) | (with_reducible refine rf_at ?_ _; (repeat (first | assumption | apply rf_up | apply rf_setm | apply rf_mI)); done) | exact ⟨by omega, by omega⟩) (fun h_4 => (by omega)) (fun h_4 => ?_)
  refine r_aload_n hC dX8_freePlace_7 rfl ?_
  refine r_iload_n hC dX8_freePlace_8 rfl ?_
  refine r_iconst hC dX8_freePlace_9 ?_
  refine rM_V0 hC hM dX8_freePlace_10 mi_X8_its se_X8_its ml_X8_43 (rm := rmX8_its) rfl rfl rfl rfl ⟨le_b rfl, le_b rfl⟩ (k_its hfC hM hf ⟨by omega, by omega⟩) ?_ rfl
  refine r_if_ne (t := 18) hC dX8_freePlace_13 (by rfl) (by first | with_reducible exact rg_mI _ _ _ | (with_reducible refine rg_of ?_ _ _; (repeat (first | assumption | apply rf_up | apply rf_setm | apply rf_mI)); done) | (with_reducible refine rg_its ?_ _ _; (repeat (first | assumption | apply rf_up | apply rf_setm | apply rf_mI)); done) | (with_reducible refine rg_way ?_ _ _; (repeat (first | assumption | apply rf_up | apply rf_setm | apply rf_mI)); done) | with_reducible exact rg_and _ _ | (with_reducible refine rg_num ?_ ⟨by omega, by omega⟩; (repeat (first | assumption | apply rf_up | apply rf_setm | apply rf_mI)); done) | (with_reducible refine rf_at ?_ _; (repeat (first | assumption | apply rf_up | apply rf_setm | apply rf_mI)); done) | exact ⟨by omega, by omega⟩) (fun h_13 => ?_) (fun h_13 => ?_)
  · skip
    refine r_iinc (lv' := [_, _]) hC dX8_freePlace_18 rfl (lt_b rfl) rfl (lt_b rfl) rfl ?_
    refine r_goto (t := 2) hC dX8_freePlace_21 (by rfl) ?_
    refine r_iload_n hC dX8_freePlace_2 rfl ?_
    refine r_iconst hC dX8_freePlace_3 ?_
    refine r_icmp_ge (t := 24) hC dX8_freePlace_4 (by rfl) (by first | with_reducible exact rg_mI _ _ _ | (with_reducible refine rg_of ?_ _ _; (repeat (first | assumption | apply rf_up | apply rf_setm | apply rf_mI)); done) | (with_reducible refine rg_its ?_ _ _; (repeat (first | assumption | apply rf_up | apply rf_setm | apply rf_mI)); done) | (with_reducible refine rg_way ?_ _ _; (repeat (first | assumption | apply rf_up | apply rf_setm | apply rf_mI)); done) | with_reducible exact rg_and _ _ | (with_reducible refine rg_num ?_ ⟨by omega, by omega⟩; (repeat (first | assumption | apply rf_up | apply rf_setm | apply rf_mI)); done) | (with_reducible refine rf_at ?_ _; (repeat (first | assumption | apply rf_up | apply rf_setm | apply rf_mI)); done) | exact ⟨by omega, by omega⟩) (by first | with_reducible exact rg_mI _ _ _ | (with_reducible refine rg_of ?_ _ _; (repeat (first | assumption | apply rf_up | apply rf_setm | apply rf_mI)); done) | (with_reducible refine rg_its ?_ _ _; (repeat (first | assumption | apply rf_up | apply rf_setm | apply rf_mI)); done) | (with_reducible refine rg_way ?_ _ _; (repeat (first | assumption | apply rf_up | apply rf_setm | apply rf_mI)); done) | with_reducible exact rg_and _ _ | (with_reducible refine rg_num ?_ ⟨by omega, by omega⟩; (repeat (first | assumption | apply rf_up | apply rf_setm | apply rf_mI)); done) | (with_reducible refine rf_at ?_ _; (repeat (first | assumption | apply rf_up | apply rf_setm | apply rf_mI)); done) | exact ⟨by omega, by omega⟩) (fun h_4 => (by omega)) (fun h_4 => ?_)
    refine r_aload_n hC dX8_freePlace_7 rfl ?_
    refine r_iload_n hC dX8_freePlace_8 rfl ?_
    refine r_iconst hC dX8_freePlace_9 ?_
    refine rM_V0 hC hM dX8_freePlace_10 mi_X8_its se_X8_its ml_X8_43 (rm := rmX8_its) rfl rfl rfl rfl ⟨le_b rfl, le_b rfl⟩ (k_its hfC hM hf ⟨by omega, by omega⟩) ?_ rfl
    refine r_if_ne (t := 18) hC dX8_freePlace_13 (by rfl) (by first | with_reducible exact rg_mI _ _ _ | (with_reducible refine rg_of ?_ _ _; (repeat (first | assumption | apply rf_up | apply rf_setm | apply rf_mI)); done) | (with_reducible refine rg_its ?_ _ _; (repeat (first | assumption | apply rf_up | apply rf_setm | apply rf_mI)); done) | (with_reducible refine rg_way ?_ _ _; (repeat (first | assumption | apply rf_up | apply rf_setm | apply rf_mI)); done) | with_reducible exact rg_and _ _ | (with_reducible refine rg_num ?_ ⟨by omega, by omega⟩; (repeat (first | assumption | apply rf_up | apply rf_setm | apply rf_mI)); done) | (with_reducible refine rf_at ?_ _; (repeat (first | assumption | apply rf_up | apply rf_setm | apply rf_mI)); done) | exact ⟨by omega, by omega⟩) (fun h_13 => ?_) (fun h_13 => ?_)
    · skip
      refine r_iinc (lv' := [_, _]) hC dX8_freePlace_18 rfl (lt_b rfl) rfl (lt_b rfl) rfl ?_
      refine r_goto (t := 2) hC dX8_freePlace_21 (by rfl) ?_
      refine r_iload_n hC dX8_freePlace_2 rfl ?_
      refine r_iconst hC dX8_freePlace_3 ?_
      refine r_icmp_ge (t := 24) hC dX8_freePlace_4 (by rfl) (by first | with_reducible exact rg_mI _ _ _ | (with_reducible refine rg_of ?_ _ _; (repeat (first | assumption | apply rf_up | apply rf_setm | apply rf_mI)); done) | (with_reducible refine rg_its ?_ _ _; (repeat (first | assumption | apply rf_up | apply rf_setm | apply rf_mI)); done) | (with_reducible refine rg_way ?_ _ _; (repeat (first | assumption | apply rf_up | apply rf_setm | apply rf_mI)); done) | with_reducible exact rg_and _ _ | (with_reducible refine rg_num ?_ ⟨by omega, by omega⟩; (repeat (first | assumption | apply rf_up | apply rf_setm | apply rf_mI)); done) | (with_reducible refine rf_at ?_ _; (repeat (first | assumption | apply rf_up | apply rf_setm | apply rf_mI)); done) | exact ⟨by omega, by omega⟩) (by first | with_reducible exact rg_mI _ _ _ | (with_reducible refine rg_of ?_ _ _; (repeat (first | assumption | apply rf_up | apply rf_setm | apply rf_mI)); done) | (with_reducible refine rg_its ?_ _ _; (repeat (first | assumption | apply rf_up | apply rf_setm | apply rf_mI)); done) | (with_reducible refine rg_way ?_ _ _; (repeat (first | assumption | apply rf_up | apply rf_setm | apply rf_mI)); done) | with_reducible exact rg_and _ _ | (with_reducible refine rg_num ?_ ⟨by omega, by omega⟩; (repeat (first | assumption | apply rf_up | apply rf_setm | apply rf_mI)); done) | (with_reducible refine rf_at ?_ _; (repeat (first | assumption | apply rf_up | apply rf_setm | apply rf_mI)); done) | exact ⟨by omega, by omega⟩) (fun h_4 => (by omega)) (fun h_4 => ?_)
      refine r_aload_n hC dX8_freePlace_7 rfl ?_
      refine r_iload_n hC dX8_freePlace_8 rfl ?_
      refine r_iconst hC dX8_freePlace_9 ?_
      refine rM_V0 hC hM dX8_freePlace_10 mi_X8_its se_X8_its ml_X8_43 (rm := rmX8_its) rfl rfl rfl rfl ⟨le_b rfl, le_b rfl⟩ (k_its hfC hM hf ⟨by omega, by omega⟩) ?_ rfl
      refine r_if_ne (t := 18) hC dX8_freePlace_13 (by rfl) (by first | with_reducible exact rg_mI _ _ _ | (with_reducible refine rg_of ?_ _ _; (repeat (first | assumption | apply rf_up | apply rf_setm | apply rf_mI)); done) | (with_reducible refine rg_its ?_ _ _; (repeat (first | assumption | apply rf_up | apply rf_setm | apply rf_mI)); done) | (with_reducible refine rg_way ?_ _ _; (repeat (first | assumption | apply rf_up | apply rf_setm | apply rf_mI)); done) | with_reducible exact rg_and _ _ | (with_reducible refine rg_num ?_ ⟨by omega, by omega⟩; (repeat (first | assumption | apply rf_up | apply rf_setm | apply rf_mI)); done) | (with_reducible refine rf_at ?_ _; (repeat (first | assumption | apply rf_up | apply rf_setm | apply rf_mI)); done) | exact ⟨by omega, by omega⟩) (fun h_13 => ?_) (fun h_13 => ?_)
      · skip
        refine r_iinc (lv' := [_, _]) hC dX8_freePlace_18 rfl (lt_b rfl) rfl (lt_b rfl) rfl ?_
        refine r_goto (t := 2) hC dX8_freePlace_21 (by rfl) ?_
        refine r_iload_n hC dX8_freePlace_2 rfl ?_
        refine r_iconst hC dX8_freePlace_3 ?_
        refine r_icmp_ge (t := 24) hC dX8_freePlace_4 (by rfl) (by first | with_reducible exact rg_mI _ _ _ | (with_reducible refine rg_of ?_ _ _; (repeat (first | assumption | apply rf_up | apply rf_setm | apply rf_mI)); done) | (with_reducible refine rg_its ?_ _ _; (repeat (first | assumption | apply rf_up | apply rf_setm | apply rf_mI)); done) | (with_reducible refine rg_way ?_ _ _; (repeat (first | assumption | apply rf_up | apply rf_setm | apply rf_mI)); done) | with_reducible exact rg_and _ _ | (with_reducible refine rg_num ?_ ⟨by omega, by omega⟩; (repeat (first | assumption | apply rf_up | apply rf_setm | apply rf_mI)); done) | (with_reducible refine rf_at ?_ _; (repeat (first | assumption | apply rf_up | apply rf_setm | apply rf_mI)); done) | exact ⟨by omega, by omega⟩) (by first | with_reducible exact rg_mI _ _ _ | (with_reducible refine rg_of ?_ _ _; (repeat (first | assumption | apply rf_up | apply rf_setm | apply rf_mI)); done) | (with_reducible refine rg_its ?_ _ _; (repeat (first | assumption | apply rf_up | apply rf_setm | apply rf_mI)); done) | (with_reducible refine rg_way ?_ _ _; (repeat (first | assumption | apply rf_up | apply rf_setm | apply rf_mI)); done) | with_reducible exact rg_and _ _ | (with_reducible refine rg_num ?_ ⟨by omega, by omega⟩; (repeat (first | assumption | apply rf_up | apply rf_setm | apply rf_mI)); done) | (with_reducible refine rf_at ?_ _; (repeat (first | assumption | apply rf_up | apply rf_setm | apply rf_mI)); done) | exact ⟨by omega, by omega⟩) (fun h_4 => (by omega)) (fun h_4 => ?_)
        refine r_aload_n hC dX8_freePlace_7 rfl ?_
        refine r_iload_n hC dX8_freePlace_8 rfl ?_
        refine r_iconst hC dX8_freePlace_9 ?_
        refine rM_V0 hC hM dX8_freePlace_10 mi_X8_its se_X8_its ml_X8_43 (rm := rmX8_its) rfl rfl rfl rfl ⟨le_b rfl, le_b rfl⟩ (k_its hfC hM hf ⟨by omega, by omega⟩) ?_ rfl
        refine r_if_ne (t := 18) hC dX8_freePlace_13 (by rfl) (by first | with_reducible exact rg_mI _ _ _ | (with_reducible refine rg_of ?_ _ _; (repeat (first | assumption | apply rf_up | apply rf_setm | apply rf_mI)); done) | (with_reducible refine rg_its ?_ _ _; (repeat (first | assumption | apply rf_up | apply rf_setm | apply rf_mI)); done) | (with_reducible refine rg_way ?_ _ _; (repeat (first | assumption | apply rf_up | apply rf_setm | apply rf_mI)); done) | with_reducible exact rg_and _ _ | (with_reducible refine rg_num ?_ ⟨by omega, by omega⟩; (repeat (first | assumption | apply rf_up | apply rf_setm | apply rf_mI)); done) | (with_reducible refine rf_at ?_ _; (repeat (first | assumption | apply rf_up | apply rf_setm | apply rf_mI)); done) | exact ⟨by omega, by omega⟩) (fun h_13 => ?_) (fun h_13 => ?_)
        · skip
          refine r_iinc (lv' := [_, _]) hC dX8_freePlace_18 rfl (lt_b rfl) rfl (lt_b rfl) rfl ?_
          refine r_goto (t := 2) hC dX8_freePlace_21 (by rfl) ?_
          refine r_iload_n hC dX8_freePlace_2 rfl ?_
          refine r_iconst hC dX8_freePlace_3 ?_
          refine r_icmp_ge (t := 24) hC dX8_freePlace_4 (by rfl) (by first | with_reducible exact rg_mI _ _ _ | (with_reducible refine rg_of ?_ _ _; (repeat (first | assumption | apply rf_up | apply rf_setm | apply rf_mI)); done) | (with_reducible refine rg_its ?_ _ _; (repeat (first | assumption | apply rf_up | apply rf_setm | apply rf_mI)); done) | (with_reducible refine rg_way ?_ _ _; (repeat (first | assumption | apply rf_up | apply rf_setm | apply rf_mI)); done) | with_reducible exact rg_and _ _ | (with_reducible refine rg_num ?_ ⟨by omega, by omega⟩; (repeat (first | assumption | apply rf_up | apply rf_setm | apply rf_mI)); done) | (with_reducible refine rf_at ?_ _; (repeat (first | assumption | apply rf_up | apply rf_setm | apply rf_mI)); done) | exact ⟨by omega, by omega⟩) (by first | with_reducible exact rg_mI _ _ _ | (with_reducible refine rg_of ?_ _ _; (repeat (first | assumption | apply rf_up | apply rf_setm | apply rf_mI)); done) | (with_reducible refine rg_its ?_ _ _; (repeat (first | assumption | apply rf_up | apply rf_setm | apply rf_mI)); done) | (with_reducible refine rg_way ?_ _ _; (repeat (first | assumption | apply rf_up | apply rf_setm | apply rf_mI)); done) | with_reducible exact rg_and _ _ | (with_reducible refine rg_num ?_ ⟨by omega, by omega⟩; (repeat (first | assumption | apply rf_up | apply rf_setm | apply rf_mI)); done) | (with_reducible refine rf_at ?_ _; (repeat (first | assumption | apply rf_up | apply rf_setm | apply rf_mI)); done) | exact ⟨by omega, by omega⟩) (fun h_4 => ?_) (fun h_4 => (by omega))
          refine r_iconst hC dX8_freePlace_24 ?_
          refine r_iret hC hR dX8_freePlace_25 (le_b rfl) (le_b rfl) ?_
          refine ⟨congrArg (fun i => some (xI i)) ?_, rfl⟩
          simp_all [m_free]
        · skip
          refine r_iload_n hC dX8_freePlace_16 rfl ?_
          refine r_iret hC hR dX8_freePlace_17 (le_b rfl) (le_b rfl) ?_
          refine ⟨congrArg (fun i => some (xI i)) ?_, rfl⟩
          simp_all [m_free]
      · skip
        refine r_iload_n hC dX8_freePlace_16 rfl ?_
        refine r_iret hC hR dX8_freePlace_17 (le_b rfl) (le_b rfl) ?_
        refine ⟨congrArg (fun i => some (xI i)) ?_, rfl⟩
        simp_all [m_free]
    · skip
      refine r_iload_n hC dX8_freePlace_16 rfl ?_
      refine r_iret hC hR dX8_freePlace_17 (le_b rfl) (le_b rfl) ?_
      refine ⟨congrArg (fun i => some (xI i)) ?_, rfl⟩
      simp_all [m_free]
  · skip
    refine r_iload_n hC dX8_freePlace_16 rfl ?_
    refine r_iret hC hR dX8_freePlace_17 (le_b rfl) (le_b rfl) ?_
    refine ⟨congrArg (fun i => some (xI i)) ?_, rfl⟩
    simp_all [m_free]

def m_dueL (r : RW) : Nat → Int → Int
  | 0, _ => -1
  | n + 1, k => if m_way r k 2 ≤ r 0 then k else m_dueL r n (k + 1)
def m_due (r : RW) : Int := m_dueL r (r 9).toNat 0
theorem m_dueL_rg (r : RW) (n : Nat) (k : Int) : m_dueL r n k = -1 ∨ (k ≤ m_dueL r n k ∧ m_dueL r n k < k + n) := by
  induction n generalizing k with
  | zero => left; rfl
  | succ n ih =>
    simp only [m_dueL]
    split
    · right; omega
    · rcases ih (k + 1) with h | h
      · left; exact h
      · right; omega
abbrev rmX8_due : Room := { frames := 1, cells := 0, slots := 0, locals := 22 }
set_option maxRecDepth 100000 in
theorem k_due {l : Launch} {D : DD} (hfl : l.stackTraces = false) {u : Mem} {m : Nat} (hM : MO u m) {f : RW} (hf : RF f) (h9 : 0 ≤ f 9 ∧ f 9 ≤ 100) : CT l D yX8_due cX8_due 2 (some .int) rmX8_due [xA m] (sA u (m + 1) f) (RT (xI (m_due f)) (sA u (m + 1) f)) := by
  refine CT.of hfl (by decide) (le_b rfl) ?_
  intro C hC hR hL hDD hN
  have hfC : (cxL C).stackTraces = false := by rw [hL]; exact hfl
  have lp : ∀ (n : Nat) (k : Nat), ((f 9 - k).toNat = n) → ((k : Int) ≤ f 9) → (m_due f = m_dueL f n k) → VW C 2 [some (xA m), some (xI k)] [] (sA u (m + 1) f) 0 0 := by
    intro n
    induction n using Nat.strongRecOn with
    | _ n ih =>
      intro k hn hk hb
      refine r_iload_n hC dX8_due_2 rfl ?_
      refine r_aload_n hC dX8_due_3 rfl ?_
      refine r_getR (j := 0) hC dX8_due_4 fl_X8_7 rfl rfl hM.o hM.p_row ?_
      refine r_bipush hC dX8_due_7 (by rfl) ?_
      refine rM_ald hC hM (by (repeat (first | assumption | apply rf_up | apply rf_setm | apply rf_mI))) dX8_due_9 ⟨by omega, by omega⟩ ?_
      refine r_icmp_ge (t := 36) hC dX8_due_10 (by rfl) (by first | with_reducible exact rg_mI _ _ _ | (with_reducible refine rg_of ?_ _ _; (repeat (first | assumption | apply rf_up | apply rf_setm | apply rf_mI)); done) | (with_reducible refine rg_its ?_ _ _; (repeat (first | assumption | apply rf_up | apply rf_setm | apply rf_mI)); done) | (with_reducible refine rg_way ?_ _ _; (repeat (first | assumption | apply rf_up | apply rf_setm | apply rf_mI)); done) | with_reducible exact rg_and _ _ | (with_reducible refine rg_num ?_ ⟨by omega, by omega⟩; (repeat (first | assumption | apply rf_up | apply rf_setm | apply rf_mI)); done) | (with_reducible refine rf_at ?_ _; (repeat (first | assumption | apply rf_up | apply rf_setm | apply rf_mI)); done) | exact ⟨by omega, by omega⟩) (by first | with_reducible exact rg_mI _ _ _ | (with_reducible refine rg_of ?_ _ _; (repeat (first | assumption | apply rf_up | apply rf_setm | apply rf_mI)); done) | (with_reducible refine rg_its ?_ _ _; (repeat (first | assumption | apply rf_up | apply rf_setm | apply rf_mI)); done) | (with_reducible refine rg_way ?_ _ _; (repeat (first | assumption | apply rf_up | apply rf_setm | apply rf_mI)); done) | with_reducible exact rg_and _ _ | (with_reducible refine rg_num ?_ ⟨by omega, by omega⟩; (repeat (first | assumption | apply rf_up | apply rf_setm | apply rf_mI)); done) | (with_reducible refine rf_at ?_ _; (repeat (first | assumption | apply rf_up | apply rf_setm | apply rf_mI)); done) | exact ⟨by omega, by omega⟩) (fun h_10 => ?_) (fun h_10 => ?_)
      · skip
        refine r_iconst hC dX8_due_36 ?_
        refine r_iret hC hR dX8_due_37 (le_b rfl) (le_b rfl) ?_
        refine ⟨congrArg (fun i => some (xI i)) ?_, rfl⟩
        rw [hb, show n = 0 by omega]; rfl
      · skip
        refine r_aload_n hC dX8_due_13 rfl ?_
        refine r_iload_n hC dX8_due_14 rfl ?_
        refine r_iconst hC dX8_due_15 ?_
        refine rM_V0 hC hM dX8_due_16 mi_X8_way se_X8_way ml_X8_101 (rm := rmX8_way) rfl rfl rfl rfl ⟨le_b rfl, le_b rfl⟩ (k_way hfC hM hf ⟨by omega, by omega⟩) ?_ rfl
        refine r_aload_n hC dX8_due_19 rfl ?_
        refine r_getR (j := 0) hC dX8_due_20 fl_X8_7 rfl rfl hM.o hM.p_row ?_
        refine r_iconst hC dX8_due_23 ?_
        refine rM_ald hC hM (by (repeat (first | assumption | apply rf_up | apply rf_setm | apply rf_mI))) dX8_due_24 ⟨by omega, by omega⟩ ?_
        refine r_icmp_gt (t := 30) hC dX8_due_25 (by rfl) (by first | with_reducible exact rg_mI _ _ _ | (with_reducible refine rg_of ?_ _ _; (repeat (first | assumption | apply rf_up | apply rf_setm | apply rf_mI)); done) | (with_reducible refine rg_its ?_ _ _; (repeat (first | assumption | apply rf_up | apply rf_setm | apply rf_mI)); done) | (with_reducible refine rg_way ?_ _ _; (repeat (first | assumption | apply rf_up | apply rf_setm | apply rf_mI)); done) | with_reducible exact rg_and _ _ | (with_reducible refine rg_num ?_ ⟨by omega, by omega⟩; (repeat (first | assumption | apply rf_up | apply rf_setm | apply rf_mI)); done) | (with_reducible refine rf_at ?_ _; (repeat (first | assumption | apply rf_up | apply rf_setm | apply rf_mI)); done) | exact ⟨by omega, by omega⟩) (by first | with_reducible exact rg_mI _ _ _ | (with_reducible refine rg_of ?_ _ _; (repeat (first | assumption | apply rf_up | apply rf_setm | apply rf_mI)); done) | (with_reducible refine rg_its ?_ _ _; (repeat (first | assumption | apply rf_up | apply rf_setm | apply rf_mI)); done) | (with_reducible refine rg_way ?_ _ _; (repeat (first | assumption | apply rf_up | apply rf_setm | apply rf_mI)); done) | with_reducible exact rg_and _ _ | (with_reducible refine rg_num ?_ ⟨by omega, by omega⟩; (repeat (first | assumption | apply rf_up | apply rf_setm | apply rf_mI)); done) | (with_reducible refine rf_at ?_ _; (repeat (first | assumption | apply rf_up | apply rf_setm | apply rf_mI)); done) | exact ⟨by omega, by omega⟩) (fun h_25 => ?_) (fun h_25 => ?_)
        · skip
          refine r_iinc (lv' := [_, _]) hC dX8_due_30 rfl (lt_b rfl) rfl (lt_b rfl) rfl ?_
          refine r_goto (t := 2) hC dX8_due_33 (by rfl) ?_
          obtain ⟨n', hn'⟩ : ∃ n', n = n' + 1 := ⟨n - 1, by omega⟩
          exact ih n' (by omega) (k + 1) (by omega) (by omega) (by rw [hb, hn']; simp only [m_dueL]; rw [if_neg (by omega)]; norm_cast)
        · skip
          refine r_iload_n hC dX8_due_28 rfl ?_
          refine r_iret hC hR dX8_due_29 (le_b rfl) (le_b rfl) ?_
          refine ⟨congrArg (fun i => some (xI i)) ?_, rfl⟩
          obtain ⟨n', hn'⟩ : ∃ n', n = n' + 1 := ⟨n - 1, by omega⟩
          rw [hb, hn']; simp only [m_dueL]; rw [if_pos (by omega)]
  show VW C 0 [some (xA m), none] [] (sA u (m + 1) f) 0 0
  refine r_iconst hC dX8_due_0 ?_
  refine r_istore_n (lv' := [_, _]) hC dX8_due_1 (lt_b rfl) rfl (lt_b rfl) rfl ?_
  exact lp _ 0 rfl (by omega) (by unfold m_due; congr 1; omega)

