/-! the state: looks -/
/-- what holds in the midst of a tick too -/
def IB (r : RW) : Prop := RF r ∧ ICo r ∧ ISe r ∧ IPl r ∧ IRo r ∧ IRe r ∧ r 9 ≤ 54
theorem IB.rf {r : RW} (h : IB r) : RF r := h.1
theorem IB.co {r : RW} (h : IB r) : ICo r := h.2.1
theorem IB.se {r : RW} (h : IB r) : ISe r := h.2.2.1
theorem IB.pl {r : RW} (h : IB r) : IPl r := h.2.2.2.1
theorem IB.ro {r : RW} (h : IB r) : IRo r := h.2.2.2.2.1
theorem IB.re {r : RW} (h : IB r) : IRe r := h.2.2.2.2.2.1
theorem IB.ni {r : RW} (h : IB r) : r 9 ≤ 54 := h.2.2.2.2.2.2
theorem Inv.b {r : RW} {T : Int} (h : Inv r T) : IB r := ⟨h.rf, h.co, h.se, h.pl, h.ro, h.re, h.nine.2⟩
theorem bI_congr {P Q : Prop} [Decidable P] [Decidable Q] (h : P ↔ Q) : bI P = bI Q := by
  unfold bI; by_cases q : P
  · rw [if_pos q, if_pos (h.mp q)]
  · rw [if_neg q, if_neg (fun z => q (h.mpr z))]
theorem k_Re_wants2 {l : Launch} {D : DD} (hfl : l.stackTraces = false) {u : Mem} {b : Nat} {t c : Int} {r : RW} (hO : ReO u b) (h2 : mI u b 2 = m_of r c 0) : CT l D yX3_wants cX3_wants 2 (some .boolean) rmX3_wants [xA b, xI t] u (RT (xI (bI (m_wants r c t = true))) u) := by
  have h := k_Re_wants hfl (D := D) (t := t) hO
  rw [h2] at h
  rw [show bI (m_wants r c t = true) = bI (b_and (b_shr (m_of r c 0) t) 1 = 1) from bI_congr (by unfold m_wants; simp)]
  exact h
set_option maxRecDepth 100000 in
theorem bits_at : ∀ M : Fin 128, ∀ i : Fin 3, ∀ s : Fin 2, b_and (b_shr (b_and (b_shr (M.val : Int) (1 + 3 * (s.val : Int))) 7) i.val) 1 = b_and (b_shr (M.val : Int) (1 + 3 * (s.val : Int) + i.val)) 1 := by decide +kernel
theorem eff_at {r : RW} (h : IRo r) {k i : Nat} (hk : (k : Int) < r 2) (hi : i < 3) : b_and (b_shr (b_and (b_shr (r (97 + 3 * k + 2)) 1) 7) i) 1 = 1 ↔ m_mark r k (1 + i) = true := by
  have hm := (h k hk).2.2
  have := bits_at ⟨(r (97 + 3 * k + 2)).toNat, by omega⟩ ⟨i, hi⟩ ⟨0, by decide⟩
  dsimp only at this
  rw [show (((r (97 + 3 * k + 2)).toNat : Nat) : Int) = r (97 + 3 * k + 2) by omega, show (1 : Int) + 3 * ((0 : Nat) : Int) = 1 from rfl] at this
  rw [this]; unfold m_mark; simp
theorem snt_at {r : RW} (h : IRo r) {k i : Nat} (hk : (k : Int) < r 2) (hi : i < 3) : b_and (b_shr (b_and (b_shr (r (97 + 3 * k + 2)) 4) 7) i) 1 = 1 ↔ m_mark r k (4 + i) = true := by
  have hm := (h k hk).2.2
  have := bits_at ⟨(r (97 + 3 * k + 2)).toNat, by omega⟩ ⟨i, hi⟩ ⟨1, by decide⟩
  dsimp only at this
  rw [show (((r (97 + 3 * k + 2)).toNat : Nat) : Int) = r (97 + 3 * k + 2) by omega, show (1 : Int) + 3 * ((1 : Nat) : Int) = 4 from rfl] at this
  rw [this]; unfold m_mark; simp
set_option maxRecDepth 100000 in
theorem and1_at : ∀ M : Fin 8, ∀ i : Fin 3, b_and (b_shr (M.val : Int) i.val) 1 = 0 ∨ b_and (b_shr (M.val : Int) i.val) 1 = 1 := by decide +kernel
set_option maxRecDepth 100000 in
theorem and7_at : ∀ M : Fin 128, ∀ s : Fin 2, 0 ≤ b_and (b_shr (M.val : Int) (1 + 3 * (s.val : Int))) 7 ∧ b_and (b_shr (M.val : Int) (1 + 3 * (s.val : Int))) 7 < 8 := by decide +kernel
theorem snt_01 {r : RW} (h : IRo r) {k i : Nat} (hk : (k : Int) < r 2) (hi : i < 3) : b_and (b_shr (b_and (b_shr (r (97 + 3 * k + 2)) 4) 7) i) 1 = 0 ↔ m_mark r k (4 + i) = false := by
  have hm := (h k hk).2.2
  have h7 := and7_at ⟨(r (97 + 3 * k + 2)).toNat, by omega⟩ ⟨1, by decide⟩
  dsimp only at h7
  rw [show (((r (97 + 3 * k + 2)).toNat : Nat) : Int) = r (97 + 3 * k + 2) by omega, show (1 : Int) + 3 * ((1 : Nat) : Int) = 4 from rfl] at h7
  have h1 := and1_at ⟨(b_and (b_shr (r (97 + 3 * k + 2)) 4) 7).toNat, by omega⟩ ⟨i, hi⟩
  dsimp only at h1
  rw [show (((b_and (b_shr (r (97 + 3 * k + 2)) 4) 7).toNat : Nat) : Int) = b_and (b_shr (r (97 + 3 * k + 2)) 4) 7 by omega] at h1
  have h2 := snt_at h hk hi
  constructor
  · intro e; cases hq : m_mark r k (4 + i)
    · rfl
    · rw [h2.mpr hq] at e; omega
  · intro e; rcases h1 with q | q
    · exact q
    · rw [h2.mp q] at e; cases e
theorem or_0 {x : Int} (h : rg x) : b_or x 0 = x := by
  unfold b_or
  rw [show Int32.ofInt 0 = 0 from rfl, Int32.or_zero]
  exact wr_id h
theorem or_0o (x y : Int) : b_or (b_or x y) 0 = b_or x y := or_0 (rg_or _ _)
theorem or_00 : b_or 0 0 = 0 := or_0 rg_0
/-- the receivers that have answered, the first n of them -/
def c_ansL (r : RW) (k : Int) : Nat → Int
  | 0 => 0
  | i + 1 => if m_ans r k i = true then b_or (c_ansL r k i) (b_shl 1 i) else c_ansL r k i
theorem c_ansL_rg (r : RW) (k : Int) (n : Nat) : rg (c_ansL r k n) := by
  induction n with
  | zero => exact rg_0
  | succ n ih => simp only [c_ansL]; split; exact rg_or _ _; exact ih
theorem c_ansL_3 (r : RW) (k : Int) : c_ansL r k 3 = m_ansBy r k := by
  unfold m_ansBy
  simp only [c_ansL]
  rw [show ((0 : Nat) : Int) = 0 from rfl, show ((0 + 1 : Nat) : Int) = 1 from rfl, show ((0 + 1 + 1 : Nat) : Int) = 2 from rfl]
  by_cases h0 : m_ans r k 0 = true <;> by_cases h1 : m_ans r k 1 = true <;> by_cases h2 : m_ans r k 2 = true <;> simp [h0, h1, h2, or_0o, or_00]
theorem ansBy_7 (r : RW) (k : Int) : m_ansBy r k = 7 ↔ (m_ans r k 0 = true ∧ m_ans r k 1 = true ∧ m_ans r k 2 = true) := by
  unfold m_ansBy
  by_cases h0 : m_ans r k 0 = true <;> by_cases h1 : m_ans r k 1 = true <;> by_cases h2 : m_ans r k 2 = true <;> simp [h0, h1, h2] <;> decide
abbrev rmX5_freePlace : Room := { frames := 0, cells := 0, slots := 0, locals := 0 }
set_option maxRecDepth 100000 in
theorem k_St_free {l : Launch} {D : DD} (hfl : l.stackTraces = false) {u : Mem} {a : Nat} {r : RW} (hS : RS u a r) (hB : IB r)  : CT l D yX5_freePlace cX5_freePlace 2 (some .int) rmX5_freePlace [xA a] u (RT (xI (m_free r)) u) := by
  have b2 := hB.co.1
  have b3 := hB.co.2.1
  have bk := hB.co.2.2.1
  have rf := hB.rf
  refine CT.of hfl (by decide) (le_b rfl) ?_
  intro C hC hR hL hDD hN
  have hfC : (cxL C).stackTraces = false := by rw [hL]; exact hfl
  have lp : ∀ (n : Nat) (i : Nat), (4 - i = n) → (i ≤ 4) → (∀ j : Nat, j < i → m_its r j 0 ≠ 0) → VW C 2 [some (xA a), some (xI i)] [] u 0 0 := by
    intro n
    induction n using Nat.strongRecOn with
    | _ n ih =>
      intro i hn hi hs
      refine r_iload_n hC dX5_freePlace_2 rfl ?_
      refine r_iconst hC dX5_freePlace_3 ?_
      refine r_icmp_ge (t := 27) hC dX5_freePlace_4 (by rfl) (by first | with_reducible exact rg_mI _ _ _ | assumption | with_reducible exact rf_at rf _ | with_reducible exact rg_of rf _ _ | with_reducible exact rg_its rf _ _ | with_reducible exact rg_way rf _ _ | with_reducible exact rg_and _ _ | with_reducible exact rg_or _ _ | exact ⟨by omega, by omega⟩) (by first | with_reducible exact rg_mI _ _ _ | assumption | with_reducible exact rf_at rf _ | with_reducible exact rg_of rf _ _ | with_reducible exact rg_its rf _ _ | with_reducible exact rg_way rf _ _ | with_reducible exact rg_and _ _ | with_reducible exact rg_or _ _ | exact ⟨by omega, by omega⟩) (fun h_4 => ?_) (fun h_4 => ?_)
      · skip
        refine r_iconst hC dX5_freePlace_27 ?_
        refine r_iret hC hR dX5_freePlace_28 (le_b rfl) (le_b rfl) ?_
        refine ⟨congrArg (fun i => some (xI i)) ?_, rfl⟩
        unfold m_free
        have h4 : i = 0 ∨ i = 1 ∨ i = 2 ∨ i = 3 ∨ i = 4 := by omega
        have q0 : 0 < i → m_its r 0 0 ≠ 0 := fun z => hs 0 z
        have q1 : 1 < i → m_its r 1 0 ≠ 0 := fun z => hs 1 z
        have q2 : 2 < i → m_its r 2 0 ≠ 0 := fun z => hs 2 z
        have q3 : 3 < i → m_its r 3 0 ≠ 0 := fun z => hs 3 z
        rcases h4 with e | e | e | e | e
        · have z : m_its r i 0 = m_its r 0 0 := by rw [e]; rfl
          (repeat' split) <;> omega
        · have z : m_its r i 0 = m_its r 1 0 := by rw [e]; rfl
          (repeat' split) <;> omega
        · have z : m_its r i 0 = m_its r 2 0 := by rw [e]; rfl
          (repeat' split) <;> omega
        · have z : m_its r i 0 = m_its r 3 0 := by rw [e]; rfl
          (repeat' split) <;> omega
        · (repeat' split) <;> omega
      · skip
        refine r_aload_n hC dX5_freePlace_7 rfl ?_
        refine r_getR (j := 1) hC dX5_freePlace_8 fl_X5_25 rfl rfl hS.o.o hS.o.p1 ?_
        refine r_iload_n hC dX5_freePlace_11 rfl ?_
        refine r_aald hC dX5_freePlace_12 hS.o.a1 (le_b rfl) (lt_b rfl) ⟨by omega, by omega⟩ (hS.o.pt (p := i) (by omega)) ?_
        refine r_getIv (j := 3) (v := m_its r i 0) hC dX5_freePlace_13 fl_X5_77 rfl rfl (hS.o.t (show i < 4 by omega)).o ((hS.t (show i < 4 by omega)).1) ?_
        refine r_if_ne (t := 21) hC dX5_freePlace_16 (by rfl) (by first | with_reducible exact rg_mI _ _ _ | assumption | with_reducible exact rf_at rf _ | with_reducible exact rg_of rf _ _ | with_reducible exact rg_its rf _ _ | with_reducible exact rg_way rf _ _ | with_reducible exact rg_and _ _ | with_reducible exact rg_or _ _ | exact ⟨by omega, by omega⟩) (fun h_16 => ?_) (fun h_16 => ?_)
        · skip
          refine r_iinc (lv' := [_, _]) hC dX5_freePlace_21 rfl (lt_b rfl) rfl (lt_b rfl) rfl ?_
          refine r_goto (t := 2) hC dX5_freePlace_24 (by rfl) ?_
          exact ih _ (by omega) (i + 1) rfl (by omega) (fun j hj => by by_cases e : j = i; (subst e; exact h_16); exact hs j (by omega))
        · skip
          refine r_iload_n hC dX5_freePlace_19 rfl ?_
          refine r_iret hC hR dX5_freePlace_20 (le_b rfl) (le_b rfl) ?_
          refine ⟨congrArg (fun i => some (xI i)) ?_, rfl⟩
          unfold m_free
          have h4 : i = 0 ∨ i = 1 ∨ i = 2 ∨ i = 3 ∨ i = 4 := by omega
          have q0 : 0 < i → m_its r 0 0 ≠ 0 := fun z => hs 0 z
          have q1 : 1 < i → m_its r 1 0 ≠ 0 := fun z => hs 1 z
          have q2 : 2 < i → m_its r 2 0 ≠ 0 := fun z => hs 2 z
          have q3 : 3 < i → m_its r 3 0 ≠ 0 := fun z => hs 3 z
          rcases h4 with e | e | e | e | e
          · have z : m_its r i 0 = m_its r 0 0 := by rw [e]; rfl
            (repeat' split) <;> omega
          · have z : m_its r i 0 = m_its r 1 0 := by rw [e]; rfl
            (repeat' split) <;> omega
          · have z : m_its r i 0 = m_its r 2 0 := by rw [e]; rfl
            (repeat' split) <;> omega
          · have z : m_its r i 0 = m_its r 3 0 := by rw [e]; rfl
            (repeat' split) <;> omega
          · (repeat' split) <;> omega
  show VW C 0 [some (xA a), none] [] u 0 0
  refine r_iconst hC dX5_freePlace_0 ?_
  refine r_istore_n (lv' := [_, _]) hC dX5_freePlace_1 (lt_b rfl) rfl (lt_b rfl) rfl ?_
  exact lp _ 0 rfl (by omega) (fun j hj => by omega)

def c_openL (r : RW) : Nat → Int
  | 0 => 0
  | k + 1 => if m_its r k 0 ≠ 0 then c_openL r k + 1 else c_openL r k
abbrev rmX5_openTransactions : Room := { frames := 0, cells := 0, slots := 0, locals := 0 }
set_option maxRecDepth 100000 in
theorem k_St_openN {l : Launch} {D : DD} (hfl : l.stackTraces = false) {u : Mem} {a : Nat} {r : RW} (hS : RS u a r) (hB : IB r)  : CT l D yX5_openTransactions cX5_openTransactions 3 (some .int) rmX5_openTransactions [xA a] u (RT (xI (m_openOnes r)) u) := by
  have b2 := hB.co.1
  have b3 := hB.co.2.1
  have bk := hB.co.2.2.1
  have rf := hB.rf
  refine CT.of hfl (by decide) (le_b rfl) ?_
  intro C hC hR hL hDD hN
  have hfC : (cxL C).stackTraces = false := by rw [hL]; exact hfl
  have lp : ∀ (n : Nat) (i : Nat) (s : Int), (4 - i = n) → (i ≤ 4) → (s = c_openL r i) → VW C 4 [some (xA a), some (xI s), some (xI i)] [] u 0 0 := by
    intro n
    induction n using Nat.strongRecOn with
    | _ n ih =>
      intro i s hn hi hs
      refine r_iload_n hC dX5_openTransactions_4 rfl ?_
      refine r_iconst hC dX5_openTransactions_5 ?_
      refine r_icmp_ge (t := 30) hC dX5_openTransactions_6 (by rfl) (by first | with_reducible exact rg_mI _ _ _ | assumption | with_reducible exact rf_at rf _ | with_reducible exact rg_of rf _ _ | with_reducible exact rg_its rf _ _ | with_reducible exact rg_way rf _ _ | with_reducible exact rg_and _ _ | with_reducible exact rg_or _ _ | exact ⟨by omega, by omega⟩) (by first | with_reducible exact rg_mI _ _ _ | assumption | with_reducible exact rf_at rf _ | with_reducible exact rg_of rf _ _ | with_reducible exact rg_its rf _ _ | with_reducible exact rg_way rf _ _ | with_reducible exact rg_and _ _ | with_reducible exact rg_or _ _ | exact ⟨by omega, by omega⟩) (fun h_6 => ?_) (fun h_6 => ?_)
      · skip
        refine r_iload_n hC dX5_openTransactions_30 rfl ?_
        refine r_iret hC hR dX5_openTransactions_31 (le_b rfl) (le_b rfl) ?_
        refine ⟨congrArg (fun i => some (xI i)) ?_, rfl⟩
        rw [hs, show i = 4 by omega]
        have p0 := (hB.pl 0 (by decide)).1
        have p1 := (hB.pl 1 (by decide)).1
        have p2 := (hB.pl 2 (by decide)).1
        have p3 := (hB.pl 3 (by decide)).1
        unfold m_openOnes
        simp only [c_openL]
        rw [show ((0 : Nat) : Int) = 0 from rfl, show ((0 + 1 : Nat) : Int) = 1 from rfl, show ((0 + 1 + 1 : Nat) : Int) = 2 from rfl, show ((0 + 1 + 1 + 1 : Nat) : Int) = 3 from rfl] at *
        (repeat' split) <;> omega
      · skip
        refine r_aload_n hC dX5_openTransactions_9 rfl ?_
        refine r_getR (j := 1) hC dX5_openTransactions_10 fl_X5_25 rfl rfl hS.o.o hS.o.p1 ?_
        refine r_iload_n hC dX5_openTransactions_13 rfl ?_
        refine r_aald hC dX5_openTransactions_14 hS.o.a1 (le_b rfl) (lt_b rfl) ⟨by omega, by omega⟩ (hS.o.pt (p := i) (by omega)) ?_
        refine r_getIv (j := 3) (v := m_its r i 0) hC dX5_openTransactions_15 fl_X5_77 rfl rfl (hS.o.t (show i < 4 by omega)).o ((hS.t (show i < 4 by omega)).1) ?_
        refine r_if_eq (t := 24) hC dX5_openTransactions_18 (by rfl) (by first | with_reducible exact rg_mI _ _ _ | assumption | with_reducible exact rf_at rf _ | with_reducible exact rg_of rf _ _ | with_reducible exact rg_its rf _ _ | with_reducible exact rg_way rf _ _ | with_reducible exact rg_and _ _ | with_reducible exact rg_or _ _ | exact ⟨by omega, by omega⟩) (fun h_18 => ?_) (fun h_18 => ?_)
        · skip
          refine r_iinc (lv' := [_, _, _]) hC dX5_openTransactions_24 rfl (lt_b rfl) rfl (lt_b rfl) rfl ?_
          refine r_goto (t := 4) hC dX5_openTransactions_27 (by rfl) ?_
          exact ih _ (by omega) (i + 1) _ rfl (by omega) (by simp only [c_openL]; first | (rw [if_pos (by assumption), hs]; done) | (rw [if_neg (fun z => z (by assumption)), hs]; done))
        · skip
          refine r_iinc (lv' := [_, _, _]) hC dX5_openTransactions_21 rfl (lt_b rfl) rfl (lt_b rfl) rfl ?_
          refine r_iinc (lv' := [_, _, _]) hC dX5_openTransactions_24 rfl (lt_b rfl) rfl (lt_b rfl) rfl ?_
          refine r_goto (t := 4) hC dX5_openTransactions_27 (by rfl) ?_
          exact ih _ (by omega) (i + 1) _ rfl (by omega) (by simp only [c_openL]; first | (rw [if_pos (by assumption), hs]; done) | (rw [if_neg (fun z => z (by assumption)), hs]; done))
  show VW C 0 [some (xA a), none, none] [] u 0 0
  refine r_iconst hC dX5_openTransactions_0 ?_
  refine r_istore_n (lv' := [_, _, _]) hC dX5_openTransactions_1 (lt_b rfl) rfl (lt_b rfl) rfl ?_
  refine r_iconst hC dX5_openTransactions_2 ?_
  refine r_istore_n (lv' := [_, _, _]) hC dX5_openTransactions_3 (lt_b rfl) rfl (lt_b rfl) rfl ?_
  exact lp _ 0 _ rfl (by omega) rfl

abbrev rmX5_isOpen : Room := { frames := 1, cells := 0, slots := 0, locals := 21 }
set_option maxRecDepth 100000 in
theorem k_St_isOpen {l : Launch} {D : DD} (hfl : l.stackTraces = false) {u : Mem} {a : Nat} {r : RW} (hS : RS u a r) (hB : IB r) {p : Int} (hp : rg p) : CT l D yX5_isOpen cX5_isOpen 2 (some .boolean) rmX5_isOpen [xA a, xI p] u (RT (xI (bI (m_open r p = true))) u) := by
  have b2 := hB.co.1
  have b3 := hB.co.2.1
  have bk := hB.co.2.2.1
  have rf := hB.rf
  refine CT.of hfl (by decide) (le_b rfl) ?_
  intro C hC hR hL hDD hN
  have hfC : (cxL C).stackTraces = false := by rw [hL]; exact hfl
  show VW C 0 [some (xA a), some (xI p)] [] u 0 0
  refine r_iload_n hC dX5_isOpen_0 rfl ?_
  refine r_iconst hC dX5_isOpen_1 ?_
  refine r_SN0 hC dX5_isOpen_2 mi_X7_isBelow ss_X7_isBelow mn_X5_81 (rm := rmX7_isBelow) rfl rfl rfl ⟨le_b rfl, le_b rfl⟩ (k_isBelow hfC (by assumption) ⟨by omega, by omega⟩) ?_ rfl
  refine r_beq (t := 24) hC dX5_isOpen_5 (by rfl) (fun h_5 => ?_) (fun h_5 => ?_)
  · skip
    refine r_iconst hC dX5_isOpen_24 ?_
    refine r_zret hC hR dX5_isOpen_25 (by first | exact Or.inl rfl | exact Or.inr rfl) (le_b rfl) (le_b rfl) ?_
    refine ⟨congrArg (fun i => some (xI i)) ?_, rfl⟩
    rw [show ∀ x : Int, bI (m_open r x = true) = bI ((0 ≤ x ∧ x ≤ 3) ∧ m_its r x 0 = 1) from fun x => bI_congr (by unfold m_open; simp)]
    unfold bI
    (try have := (hB.pl q hq4).1)
    split <;> omega
  · skip
    obtain ⟨q, rfl⟩ : ∃ q : Nat, p = q := ⟨p.toNat, by omega⟩
    have hq4 : q < 4 := by omega
    have ht := hS.t hq4
    refine r_aload_n hC dX5_isOpen_8 rfl ?_
    refine r_getR (j := 1) hC dX5_isOpen_9 fl_X5_25 rfl rfl hS.o.o hS.o.p1 ?_
    refine r_iload_n hC dX5_isOpen_12 rfl ?_
    refine r_aald hC dX5_isOpen_13 hS.o.a1 (le_b rfl) (lt_b rfl) ⟨by omega, by omega⟩ (hS.o.pt (p := q) (by omega)) ?_
    refine r_getIv (j := 3) (v := m_its r q 0) hC dX5_isOpen_14 fl_X5_77 rfl rfl (hS.o.t (show q < 4 by omega)).o ht.1 ?_
    refine r_if_eq (t := 24) hC dX5_isOpen_17 (by rfl) (by first | with_reducible exact rg_mI _ _ _ | assumption | with_reducible exact rf_at rf _ | with_reducible exact rg_of rf _ _ | with_reducible exact rg_its rf _ _ | with_reducible exact rg_way rf _ _ | with_reducible exact rg_and _ _ | with_reducible exact rg_or _ _ | exact ⟨by omega, by omega⟩) (fun h_17 => ?_) (fun h_17 => ?_)
    · skip
      refine r_iconst hC dX5_isOpen_24 ?_
      refine r_zret hC hR dX5_isOpen_25 (by first | exact Or.inl rfl | exact Or.inr rfl) (le_b rfl) (le_b rfl) ?_
      refine ⟨congrArg (fun i => some (xI i)) ?_, rfl⟩
      rw [show ∀ x : Int, bI (m_open r x = true) = bI ((0 ≤ x ∧ x ≤ 3) ∧ m_its r x 0 = 1) from fun x => bI_congr (by unfold m_open; simp)]
      unfold bI
      (try have := (hB.pl q hq4).1)
      split <;> omega
    · skip
      refine r_iconst hC dX5_isOpen_20 ?_
      refine r_goto (t := 25) hC dX5_isOpen_21 (by rfl) ?_
      refine r_zret hC hR dX5_isOpen_25 (by first | exact Or.inl rfl | exact Or.inr rfl) (le_b rfl) (le_b rfl) ?_
      refine ⟨congrArg (fun i => some (xI i)) ?_, rfl⟩
      rw [show ∀ x : Int, bI (m_open r x = true) = bI ((0 ≤ x ∧ x ≤ 3) ∧ m_its r x 0 = 1) from fun x => bI_congr (by unfold m_open; simp)]
      unfold bI
      (try have := (hB.pl q hq4).1)
      split <;> omega

theorem open_q {r : RW} {p : Int} (h : m_open r p = true) : ∃ q : Nat, p = q ∧ q < 4 ∧ m_its r q 0 = 1 := by
  unfold m_open at h
  simp only [Bool.and_eq_true, decide_eq_true_eq] at h
  exact ⟨p.toNat, by omega, by omega, by rw [show ((p.toNat : Nat) : Int) = p by omega]; exact h.2⟩
abbrev rmX5_hasRoomToWrite : Room := { frames := 2, cells := 0, slots := 0, locals := 42 }
set_option maxRecDepth 100000 in
theorem k_St_roomW {l : Launch} {D : DD} (hfl : l.stackTraces = false) {u : Mem} {a : Nat} {r : RW} (hS : RS u a r) (hB : IB r) {p : Int} (hp : rg p) : CT l D yX5_hasRoomToWrite cX5_hasRoomToWrite 2 (some .boolean) rmX5_hasRoomToWrite [xA a, xI p] u (RT (xI (bI (m_open r p = true ∧ m_its r p 1 < 6))) u) := by
  have b2 := hB.co.1
  have b3 := hB.co.2.1
  have bk := hB.co.2.2.1
  have rf := hB.rf
  refine CT.of hfl (by decide) (le_b rfl) ?_
  intro C hC hR hL hDD hN
  have hfC : (cxL C).stackTraces = false := by rw [hL]; exact hfl
  show VW C 0 [some (xA a), some (xI p)] [] u 0 0
  refine r_aload_n hC dX5_hasRoomToWrite_0 rfl ?_
  refine r_iload_n hC dX5_hasRoomToWrite_1 rfl ?_
  refine r_V0 hC dX5_hasRoomToWrite_2 mi_X5_isOpen se_X5_isOpen ml_X5_85 (rm := rmX5_isOpen) rfl hS.o.o rfl rfl rfl rfl ⟨le_b rfl, le_b rfl⟩ (k_St_isOpen hfC hS hB (by assumption)) ?_ rfl
  refine r_beq (t := 26) hC dX5_hasRoomToWrite_5 (by rfl) (fun h_5 => ?_) (fun h_5 => ?_)
  · skip
    refine r_iconst hC dX5_hasRoomToWrite_26 ?_
    refine r_zret hC hR dX5_hasRoomToWrite_27 (by first | exact Or.inl rfl | exact Or.inr rfl) (le_b rfl) (le_b rfl) ?_
    refine ⟨congrArg (fun i => some (xI i)) ?_, rfl⟩
    unfold bI; (repeat' split) <;> first | rfl | omega | (exfalso; simp_all; done) | (exfalso; simp_all; omega)
  · skip
    have hop := h_5
    obtain ⟨q, rfl, hq4, hq1⟩ := open_q h_5
    have ht := hS.t hq4
    have hpl := (hB.pl q hq4).2.1
    refine r_aload_n hC dX5_hasRoomToWrite_8 rfl ?_
    refine r_getR (j := 1) hC dX5_hasRoomToWrite_9 fl_X5_25 rfl rfl hS.o.o hS.o.p1 ?_
    refine r_iload_n hC dX5_hasRoomToWrite_12 rfl ?_
    refine r_aald hC dX5_hasRoomToWrite_13 hS.o.a1 (le_b rfl) (lt_b rfl) ⟨by omega, by omega⟩ (hS.o.pt (p := q) (by omega)) ?_
    refine r_getIv (j := 4) (v := m_its r q 1) hC dX5_hasRoomToWrite_14 fl_X5_89 rfl rfl (hS.o.t (show q < 4 by omega)).o ht.2.1 ?_
    refine r_bipush hC dX5_hasRoomToWrite_17 (by rfl) ?_
    refine r_icmp_ge (t := 26) hC dX5_hasRoomToWrite_19 (by rfl) (by first | with_reducible exact rg_mI _ _ _ | assumption | with_reducible exact rf_at rf _ | with_reducible exact rg_of rf _ _ | with_reducible exact rg_its rf _ _ | with_reducible exact rg_way rf _ _ | with_reducible exact rg_and _ _ | with_reducible exact rg_or _ _ | exact ⟨by omega, by omega⟩) (by first | with_reducible exact rg_mI _ _ _ | assumption | with_reducible exact rf_at rf _ | with_reducible exact rg_of rf _ _ | with_reducible exact rg_its rf _ _ | with_reducible exact rg_way rf _ _ | with_reducible exact rg_and _ _ | with_reducible exact rg_or _ _ | exact ⟨by omega, by omega⟩) (fun h_19 => ?_) (fun h_19 => ?_)
    · skip
      refine r_iconst hC dX5_hasRoomToWrite_26 ?_
      refine r_zret hC hR dX5_hasRoomToWrite_27 (by first | exact Or.inl rfl | exact Or.inr rfl) (le_b rfl) (le_b rfl) ?_
      refine ⟨congrArg (fun i => some (xI i)) ?_, rfl⟩
      unfold bI; (repeat' split) <;> first | rfl | omega | (exfalso; simp_all; done) | (exfalso; simp_all; omega)
    · skip
      refine r_iconst hC dX5_hasRoomToWrite_22 ?_
      refine r_goto (t := 27) hC dX5_hasRoomToWrite_23 (by rfl) ?_
      refine r_zret hC hR dX5_hasRoomToWrite_27 (by first | exact Or.inl rfl | exact Or.inr rfl) (le_b rfl) (le_b rfl) ?_
      refine ⟨congrArg (fun i => some (xI i)) ?_, rfl⟩
      unfold bI; (repeat' split) <;> first | rfl | omega | (exfalso; simp_all; done) | (exfalso; simp_all; omega)

abbrev rmX5_hasRoomToCommit : Room := { frames := 2, cells := 0, slots := 0, locals := 42 }
set_option maxRecDepth 100000 in
theorem k_St_roomC {l : Launch} {D : DD} (hfl : l.stackTraces = false) {u : Mem} {a : Nat} {r : RW} (hS : RS u a r) (hB : IB r) {p : Int} (hp : rg p) : CT l D yX5_hasRoomToCommit cX5_hasRoomToCommit 3 (some .boolean) rmX5_hasRoomToCommit [xA a, xI p] u (RT (xI (bI (m_open r p = true ∧ m_kept r + m_its r p 1 ≤ 60 ∧ r 2 + m_its r p 1 ≤ 200))) u) := by
  have b2 := hB.co.1
  have b3 := hB.co.2.1
  have bk := hB.co.2.2.1
  have rf := hB.rf
  refine CT.of hfl (by decide) (le_b rfl) ?_
  intro C hC hR hL hDD hN
  have hfC : (cxL C).stackTraces = false := by rw [hL]; exact hfl
  show VW C 0 [some (xA a), some (xI p), none] [] u 0 0
  refine r_aload_n hC dX5_hasRoomToCommit_0 rfl ?_
  refine r_iload_n hC dX5_hasRoomToCommit_1 rfl ?_
  refine r_V0 hC dX5_hasRoomToCommit_2 mi_X5_isOpen se_X5_isOpen ml_X5_85 (rm := rmX5_isOpen) rfl hS.o.o rfl rfl rfl rfl ⟨le_b rfl, le_b rfl⟩ (k_St_isOpen hfC hS hB (by assumption)) ?_ rfl
  refine r_bne (t := 10) hC dX5_hasRoomToCommit_5 (by rfl) (fun h_5 => ?_) (fun h_5 => ?_)
  · skip
    have hop := h_5
    obtain ⟨q, rfl, hq4, hq1⟩ := open_q h_5
    have ht := hS.t hq4
    have hpl := (hB.pl q hq4).2.1
    refine r_aload_n hC dX5_hasRoomToCommit_10 rfl ?_
    refine r_getR (j := 1) hC dX5_hasRoomToCommit_11 fl_X5_25 rfl rfl hS.o.o hS.o.p1 ?_
    refine r_iload_n hC dX5_hasRoomToCommit_14 rfl ?_
    refine r_aald hC dX5_hasRoomToCommit_15 hS.o.a1 (le_b rfl) (lt_b rfl) ⟨by omega, by omega⟩ (hS.o.pt (p := q) (by omega)) ?_
    refine r_getIv (j := 4) (v := m_its r q 1) hC dX5_hasRoomToCommit_16 fl_X5_89 rfl rfl (hS.o.t (show q < 4 by omega)).o ht.2.1 ?_
    refine r_istore_n (lv' := [_, _, _]) hC dX5_hasRoomToCommit_19 (lt_b rfl) rfl (lt_b rfl) rfl ?_
    refine r_aload_n hC dX5_hasRoomToCommit_20 rfl ?_
    refine r_getR (j := 2) hC dX5_hasRoomToCommit_21 fl_X5_33 rfl rfl hS.o.o hS.o.p2 ?_
    refine r_getIv (j := 8) (v := m_kept r) hC dX5_hasRoomToCommit_24 fl_X5_92 rfl rfl hS.o.r.o hS.r.2.1 ?_
    refine r_iload_n hC dX5_hasRoomToCommit_27 rfl ?_
    refine r_iadd hC dX5_hasRoomToCommit_28 ?_
    refine r_bipush hC dX5_hasRoomToCommit_29 (by rfl) ?_
    refine r_icmp_gt (t := 53) hC dX5_hasRoomToCommit_31 (by rfl) (by unfold m_kept at *; exact ⟨by omega, by omega⟩) ⟨by omega, by omega⟩ (fun h_31 => ?_) (fun h_31 => ?_)
    · skip
      refine r_iconst hC dX5_hasRoomToCommit_53 ?_
      refine r_zret hC hR dX5_hasRoomToCommit_54 (by first | exact Or.inl rfl | exact Or.inr rfl) (le_b rfl) (le_b rfl) ?_
      refine ⟨congrArg (fun i => some (xI i)) ?_, rfl⟩
      unfold bI; (repeat' split) <;> first | rfl | omega | (exfalso; simp_all; done) | (exfalso; simp_all; omega)
    · skip
      refine r_aload_n hC dX5_hasRoomToCommit_34 rfl ?_
      refine r_getR (j := 2) hC dX5_hasRoomToCommit_35 fl_X5_33 rfl rfl hS.o.o hS.o.p2 ?_
      refine r_getIv (j := 7) (v := r 2) hC dX5_hasRoomToCommit_38 fl_X5_95 rfl rfl hS.o.r.o hS.r.1 ?_
      refine r_iload_n hC dX5_hasRoomToCommit_41 rfl ?_
      refine r_iadd hC dX5_hasRoomToCommit_42 ?_
      refine r_sipush hC dX5_hasRoomToCommit_43 (by rfl) ?_
      refine r_icmp_gt (t := 53) hC dX5_hasRoomToCommit_46 (by rfl) ⟨by omega, by omega⟩ ⟨by omega, by omega⟩ (fun h_46 => ?_) (fun h_46 => ?_)
      · skip
        refine r_iconst hC dX5_hasRoomToCommit_53 ?_
        refine r_zret hC hR dX5_hasRoomToCommit_54 (by first | exact Or.inl rfl | exact Or.inr rfl) (le_b rfl) (le_b rfl) ?_
        refine ⟨congrArg (fun i => some (xI i)) ?_, rfl⟩
        unfold bI; (repeat' split) <;> first | rfl | omega | (exfalso; simp_all; done) | (exfalso; simp_all; omega)
      · skip
        refine r_iconst hC dX5_hasRoomToCommit_49 ?_
        refine r_goto (t := 54) hC dX5_hasRoomToCommit_50 (by rfl) ?_
        refine r_zret hC hR dX5_hasRoomToCommit_54 (by first | exact Or.inl rfl | exact Or.inr rfl) (le_b rfl) (le_b rfl) ?_
        refine ⟨congrArg (fun i => some (xI i)) ?_, rfl⟩
        unfold bI; (repeat' split) <;> first | rfl | omega | (exfalso; simp_all; done) | (exfalso; simp_all; omega)
  · skip
    refine r_iconst hC dX5_hasRoomToCommit_8 ?_
    refine r_zret hC hR dX5_hasRoomToCommit_9 (by first | exact Or.inl rfl | exact Or.inr rfl) (le_b rfl) (le_b rfl) ?_
    refine ⟨congrArg (fun i => some (xI i)) ?_, rfl⟩
    unfold bI; (repeat' split) <;> first | rfl | omega | (exfalso; simp_all; done) | (exfalso; simp_all; omega)
