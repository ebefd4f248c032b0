/-! the state: transactions change -/
theorem free_rg (r : RW) : m_free r = -1 ∨ ∃ q : Nat, q < 4 ∧ m_free r = q ∧ m_its r q 0 = 0 := by
  unfold m_free
  by_cases h0 : m_its r 0 0 = 0
  · rw [if_pos h0]; exact Or.inr ⟨0, by decide, rfl, h0⟩
  · rw [if_neg h0]
    by_cases h1 : m_its r 1 0 = 0
    · rw [if_pos h1]; exact Or.inr ⟨1, by decide, rfl, h1⟩
    · rw [if_neg h1]
      by_cases h2 : m_its r 2 0 = 0
      · rw [if_pos h2]; exact Or.inr ⟨2, by decide, rfl, h2⟩
      · rw [if_neg h2]
        by_cases h3 : m_its r 3 0 = 0
        · rw [if_pos h3]; exact Or.inr ⟨3, by decide, rfl, h3⟩
        · rw [if_neg h3]; exact Or.inl rfl
def OpenPost (u : Mem) (a : Nat) (r : RW) : Option SV → Mem → Prop := fun o w => if m_free r = -1 then o = some (xI 0) ∧ w = u else o = some (xI 1) ∧ RS w a (m_begins r) ∧ Blk u w a
theorem begins_at {r : RW} {q : Nat} (hq : m_free r = q) (j : Int) : m_begins r j = if j = 17 + 20 * q + 1 then 0 else if j = 17 + 20 * q then 1 else r j := by
  unfold m_begins up
  rw [hq]
  (repeat' split) <;> first | rfl | omega
theorem rs_begins {u : Mem} {a : Nat} {r : RW} (hS : RS u a r) (hB : IB r) {q : Nat} (hq4 : q < 4) (hq : m_free r = q) : RS (sI (sI u (a + 3 + 4 * q) 3 1) (a + 3 + 4 * q) 4 0) a (m_begins r) := by
  have hb := fun j => begins_at hq j
  refine hS.tr hB hq4 (by repeat (first | exact Fr.refl _ _ _ | refine Fr.sI ?_ _ _ (by omega) | refine Fr.sA ?_ _ (by omega))) ⟨?_, ?_⟩ (fun j h1 h2 => ?_) ⟨?_, ?_, fun i hi => ?_⟩
  · rw [mI_sI_a _ _ _ _ (by omega), mI_sI_a _ _ _ _ (by omega), hb, if_neg (by omega), if_neg (by omega)]; exact hS.tick
  · rw [mI_sI_a _ _ _ _ (by omega), mI_sI_a _ _ _ _ (by omega), hb, if_neg (by omega), if_neg (by omega)]; exact hS.writ
  · rw [hb, if_neg (by omega), if_neg (by omega)]
  · rw [mI_sI_k _ _ _ _ (by decide), mI_sI_s]; unfold m_its; rw [hb, if_neg (by omega), if_pos (by omega)]; rfl
  · rw [mI_sI_s]; unfold m_its; rw [hb, if_pos (by omega)]; rfl
  · exfalso; unfold m_its at hi; rw [hb, if_pos (by omega)] at hi; omega
abbrev rmX5_openAt : Room := { frames := 1, cells := 0, slots := 0, locals := 21 }
set_option maxRecDepth 100000 in
theorem k_St_openAt {l : Launch} {D : DD} (hfl : l.stackTraces = false) {u : Mem} {a : Nat} {r : RW} (hS : RS u a r) (hB : IB r)  : CT l D yX5_openAt cX5_openAt 2 (some .boolean) rmX5_openAt [xA a, xI (m_free r)] u (OpenPost u a r) := by
  have b2 := hB.co.1
  have b3 := hB.co.2.1
  have bk := hB.co.2.2.1
  have rf := hB.rf
  have hfr : -1 ≤ m_free r ∧ m_free r ≤ 3 := by rcases free_rg r with z | ⟨q, z1, z2, z3⟩ <;> omega
  refine CT.of hfl (by decide) (le_b rfl) ?_
  intro C hC hR hL hDD hN
  have hfC : (cxL C).stackTraces = false := by rw [hL]; exact hfl
  show VW C 0 [some (xA a), some (xI (m_free r))] [] u 0 0
  refine r_iload_n hC dX5_openAt_0 rfl ?_
  refine r_iconst hC dX5_openAt_1 ?_
  refine r_SN0 hC dX5_openAt_2 mi_X7_isBelow ss_X7_isBelow mn_X5_81 (rm := rmX7_isBelow) rfl rfl rfl ⟨le_b rfl, le_b rfl⟩ (k_isBelow hfC ⟨by omega, by omega⟩ ⟨by omega, by omega⟩) ?_ rfl
  refine r_beq (t := 20) hC dX5_openAt_5 (by rfl) (fun h_5 => ?_) (fun h_5 => ?_)
  · skip
    refine r_iconst hC dX5_openAt_20 ?_
    refine r_zret hC hR dX5_openAt_21 (by first | exact Or.inl rfl | exact Or.inr rfl) (le_b rfl) (le_b rfl) ?_
    first | (refine Eq.mpr (if_pos ?_) ⟨rfl, rfl⟩; rcases free_rg r with z | ⟨q, z1, z2, z3⟩ <;> omega) | (exfalso; omega)
  · skip
    obtain ⟨q, hq4, hfq, hq0⟩ : ∃ q : Nat, q < 4 ∧ m_free r = q ∧ m_its r q 0 = 0 := by
      rcases free_rg r with z | z
      · omega
      · exact z
    rw [hfq]
    have ht := hS.t hq4
    refine r_aload_n hC dX5_openAt_8 rfl ?_
    refine r_getR (j := 1) hC dX5_openAt_9 fl_X5_25 rfl rfl hS.o.o hS.o.p1 ?_
    refine r_iload_n hC dX5_openAt_12 rfl ?_
    refine r_aald hC dX5_openAt_13 hS.o.a1 (le_b rfl) (lt_b rfl) ⟨by omega, by omega⟩ (hS.o.pt (p := q) (by omega)) ?_
    refine r_getIv (j := 3) (v := m_its r q 0) hC dX5_openAt_14 fl_X5_77 rfl rfl (hS.o.t (show q < 4 by omega)).o ht.1 ?_
    refine r_if_eq (t := 22) hC dX5_openAt_17 (by rfl) (by first | with_reducible exact rg_mI _ _ _ | assumption | with_reducible exact rf_at rf _ | with_reducible exact rg_of rf _ _ | with_reducible exact rg_its rf _ _ | with_reducible exact rg_way rf _ _ | with_reducible exact rg_and _ _ | with_reducible exact rg_or _ _ | exact ⟨by omega, by omega⟩) (fun h_17 => ?_) (fun h_17 => ?_)
    · skip
      refine r_aload_n hC dX5_openAt_22 rfl ?_
      refine r_getR (j := 1) hC dX5_openAt_23 fl_X5_25 rfl rfl hS.o.o hS.o.p1 ?_
      refine r_iload_n hC dX5_openAt_26 rfl ?_
      refine r_aald hC dX5_openAt_27 hS.o.a1 (le_b rfl) (lt_b rfl) ⟨by omega, by omega⟩ (hS.o.pt (p := q) (by omega)) ?_
      refine r_iconst hC dX5_openAt_28 ?_
      refine r_putI (j := 3) hC dX5_openAt_29 fl_X5_77 rfl (hS.o.t (show q < 4 by omega)).o (by rintro _ ⟨⟩; rfl) (Or.inr ⟨rfl, by first | exact Or.inl rfl | exact Or.inr rfl⟩) ?_
      refine r_aload_n hC dX5_openAt_32 rfl ?_
      refine r_getR (j := 1) hC dX5_openAt_33 fl_X5_25 rfl rfl hS.o.o hS.o.p1 ?_
      refine r_iload_n hC dX5_openAt_36 rfl ?_
      refine r_aald hC dX5_openAt_37 hS.o.a1 (le_b rfl) (lt_b rfl) ⟨by omega, by omega⟩ (hS.o.pt (p := q) (by omega)) ?_
      refine r_iconst hC dX5_openAt_38 ?_
      refine r_putI (j := 4) hC dX5_openAt_39 fl_X5_89 rfl (hS.o.t (show q < 4 by omega)).o (by rintro _ ⟨⟩; rfl) (Or.inl rfl) ?_
      refine r_iconst hC dX5_openAt_42 ?_
      refine r_zret hC hR dX5_openAt_43 (by first | exact Or.inl rfl | exact Or.inr rfl) (le_b rfl) (le_b rfl) ?_
      refine Eq.mpr (if_neg (by omega)) ⟨rfl, rs_begins hS hB hq4 hfq, ?_⟩
      exact Fr.blk (S := fun q => a ≤ q ∧ q < a + 146) (by repeat (first | exact Fr.refl _ _ _ | refine Fr.sI ?_ _ _ (by omega) | refine Fr.sA ?_ _ (by omega))) (fun _ z => z)
    · skip
      refine r_iconst hC dX5_openAt_20 ?_
      refine r_zret hC hR dX5_openAt_21 (by first | exact Or.inl rfl | exact Or.inr rfl) (le_b rfl) (le_b rfl) ?_
      first | (refine Eq.mpr (if_pos ?_) ⟨rfl, rfl⟩; rcases free_rg r with z | ⟨q, z1, z2, z3⟩ <;> omega) | (exfalso; omega)

theorem rs_drop {u : Mem} {a : Nat} {r : RW} (hS : RS u a r) (hB : IB r) {q : Nat} (hq4 : q < 4) : RS (sI u (a + 3 + 4 * q) 3 0) a (up r (17 + 20 * (q : Int) + 0) 0) := by
  have ht := hS.t hq4
  have h6 := (hB.pl q hq4).2.1
  have e : ∀ x : Int, 1 ≤ x → x < 20 → m_its (up r (17 + 20 * (q : Int) + 0) 0) q x = m_its r q x := fun x h1 h2 => by unfold m_its; exact up_n _ _ (by omega)
  refine hS.tr hB hq4 (by repeat (first | exact Fr.refl _ _ _ | refine Fr.sI ?_ _ _ (by omega) | refine Fr.sA ?_ _ (by omega))) ⟨?_, ?_⟩ (fun j h1 h2 => ?_) ⟨?_, ?_, fun i hi => ?_⟩
  · rw [mI_sI_a _ _ _ _ (by omega), up_n _ _ (by omega)]; exact hS.tick
  · rw [mI_sI_a _ _ _ _ (by omega), up_n _ _ (by omega)]; exact hS.writ
  · exact up_n _ _ (by omega)
  · rw [mI_sI_s]; unfold m_its; rw [up_s]
  · rw [mI_sI_k _ _ _ _ (by decide), e 1 (by omega) (by omega)]; exact ht.2.1
  · rw [e 1 (by omega) (by omega)] at hi
    rw [mI_sI_a _ _ _ _ (by omega), mI_sI_a _ _ _ _ (by omega), mI_sI_a _ _ _ _ (by omega), e _ (by omega) (by omega), e _ (by omega) (by omega), e _ (by omega) (by omega)]
    exact ht.2.2 i hi
def DropPost (u : Mem) (a : Nat) (r : RW) (p : Int) : Option SV → Mem → Prop := fun o w => if m_open r p = true then o = some (xI (m_its r p 1)) ∧ RS w a (up r (17 + 20 * p + 0) 0) ∧ Blk u w a else o = some (xI (-1)) ∧ w = u
abbrev rmX5_dropAt : Room := { frames := 2, cells := 0, slots := 0, locals := 42 }
set_option maxRecDepth 100000 in
theorem k_St_dropAt {l : Launch} {D : DD} (hfl : l.stackTraces = false) {u : Mem} {a : Nat} {r : RW} (hS : RS u a r) (hB : IB r) {p : Int} (hp : rg p) : CT l D yX5_dropAt cX5_dropAt 2 (some .int) rmX5_dropAt [xA a, xI p] u (DropPost u a r p) := by
  have b2 := hB.co.1
  have b3 := hB.co.2.1
  have bk := hB.co.2.2.1
  have rf := hB.rf
  refine CT.of hfl (by decide) (le_b rfl) ?_
  intro C hC hR hL hDD hN
  have hfC : (cxL C).stackTraces = false := by rw [hL]; exact hfl
  show VW C 0 [some (xA a), some (xI p)] [] u 0 0
  refine r_aload_n hC dX5_dropAt_0 rfl ?_
  refine r_iload_n hC dX5_dropAt_1 rfl ?_
  refine r_V0 hC dX5_dropAt_2 mi_X5_isOpen se_X5_isOpen ml_X5_85 (rm := rmX5_isOpen) rfl hS.o.o rfl rfl rfl rfl ⟨le_b rfl, le_b rfl⟩ (k_St_isOpen hfC hS hB hp) ?_ rfl
  refine r_bne (t := 10) hC dX5_dropAt_5 (by rfl) (fun h_5 => ?_) (fun h_5 => ?_)
  · skip
    have hop := h_5
    obtain ⟨q, rfl, hq4, hq1⟩ := open_q h_5
    have ht := hS.t hq4
    refine r_aload_n hC dX5_dropAt_10 rfl ?_
    refine r_getR (j := 1) hC dX5_dropAt_11 fl_X5_25 rfl rfl hS.o.o hS.o.p1 ?_
    refine r_iload_n hC dX5_dropAt_14 rfl ?_
    refine r_aald hC dX5_dropAt_15 hS.o.a1 (le_b rfl) (lt_b rfl) ⟨by omega, by omega⟩ (hS.o.pt (p := q) (by omega)) ?_
    refine r_iconst hC dX5_dropAt_16 ?_
    refine r_putI (j := 3) hC dX5_dropAt_17 fl_X5_77 rfl (hS.o.t (show q < 4 by omega)).o (by rintro _ ⟨⟩; rfl) (Or.inr ⟨rfl, by first | exact Or.inl rfl | exact Or.inr rfl⟩) ?_
    refine r_aload_n hC dX5_dropAt_20 rfl ?_
    refine r_getR (j := 1) hC dX5_dropAt_21 fl_X5_25 rfl rfl hS.o.o hS.o.p1 ?_
    refine r_iload_n hC dX5_dropAt_24 rfl ?_
    refine r_aald hC dX5_dropAt_25 hS.o.a1 (le_b rfl) (lt_b rfl) ⟨by omega, by omega⟩ (hS.o.pt (p := q) (by omega)) ?_
    refine r_getIv (j := 4) (v := m_its r q 1) hC dX5_dropAt_26 fl_X5_89 rfl rfl (hS.o.t (show q < 4 by omega)).o (by rw [mI_sI_k _ _ _ _ (by decide)]; exact ht.2.1) ?_
    refine r_iret hC hR dX5_dropAt_29 (le_b rfl) (le_b rfl) ?_
    refine Eq.mpr (if_pos hop) ⟨rfl, rs_drop hS hB hq4, ?_⟩
    exact Fr.blk (S := fun q => a ≤ q ∧ q < a + 146) (by repeat (first | exact Fr.refl _ _ _ | refine Fr.sI ?_ _ _ (by omega) | refine Fr.sA ?_ _ (by omega))) (fun _ z => z)
  · skip
    refine r_iconst hC dX5_dropAt_8 ?_
    refine r_iret hC hR dX5_dropAt_9 (le_b rfl) (le_b rfl) ?_
    exact Eq.mpr (if_neg (by simpa using h_5)) ⟨rfl, rfl⟩

theorem writesR_at {r : RW} (rf : RF r) {q : Nat} {n t v : Int} (hn : m_its r q 1 = n) (h6 : 0 ≤ n ∧ n < 6) (j : Int) : m_writesR r q t v j = if j = 1 then wr (r 1 + 1) else if j = 17 + 20 * q + 1 then wr (n + 1) else if j = 17 + 20 * q + (4 + 3 * n) then r 1 else if j = 17 + 20 * q + (2 + 3 * n + 1) then wr v else if j = 17 + 20 * q + (2 + 3 * n) then wr t else r j := by
  unfold m_writesR
  simp only [hn]
  have e1 : ∀ x, (up (up r (17 + 20 * (q : Int) + 2 + 3 * n) t) (17 + 20 * q + 2 + 3 * n + 1) v) 1 = x → r 1 = x := fun x hx => by rw [up_n _ _ (by omega), up_n _ _ (by omega)] at hx; exact hx
  have e2 := e1 _ rfl
  rw [← e2]
  have e3 : (up (up (up (up r (17 + 20 * (q : Int) + 2 + 3 * n) t) (17 + 20 * q + 2 + 3 * n + 1) v) (17 + 20 * q + 2 + 3 * n + 2) (r 1)) (17 + 20 * q + 1) (n + 1)) 1 = r 1 := by
    rw [up_n _ _ (by omega), up_n _ _ (by omega), up_n _ _ (by omega), up_n _ _ (by omega)]
  rw [e3]
  unfold up
  (repeat' split) <;> first | rfl | (exfalso; omega) | exact wr_id (rf 1)
theorem rs_write {u : Mem} {a : Nat} {r : RW} (hS : RS u a r) (hB : IB r) {q : Nat} {t v : Int} (hq4 : q < 4) (h6 : m_its r q 1 < 6) (hr1 : rg (r 1 + 1)) (ht3 : 0 ≤ t ∧ t ≤ 3) (hv : 0 ≤ v ∧ v ≤ 99) : RS (sI (sI (sI (sI (sI u (a + 3 + 4 * q + 1) (m_its r q 1) (r 1)) (a + 3 + 4 * q + 2) (m_its r q 1) t) (a + 3 + 4 * q + 3) (m_its r q 1) v) (a + 3 + 4 * q) 4 (m_its r q 1 + 1)) a 6 (r 1 + 1)) a (m_writesR r q t v) := by
  have rf := hB.rf
  have ht := hS.t hq4
  have h60 := (hB.pl q hq4).2.1
  obtain ⟨n, hn⟩ : ∃ n : Nat, m_its r q 1 = n := ⟨(m_its r q 1).toNat, by omega⟩
  have hw := fun j => writesR_at (t := t) (v := v) rf hn (by omega) j
  rw [hn] at h6
  rw [hn]
  have hm1 := (hB.ro)
  refine hS.tr hB hq4 (by repeat (first | exact Fr.refl _ _ _ | refine Fr.sI ?_ _ _ (by omega) | refine Fr.sA ?_ _ (by omega))) ⟨?_, ?_⟩ (fun j h1 h2 => ?_) ⟨?_, ?_, fun i hi => ?_⟩
  · rw [mI_sI_k _ _ _ _ (by decide), mI_sI_a _ _ _ _ (by omega), mI_sI_a _ _ _ _ (by omega), mI_sI_a _ _ _ _ (by omega), mI_sI_a _ _ _ _ (by omega), hw, if_neg (by omega), if_neg (by omega), if_neg (by omega), if_neg (by omega), if_neg (by omega)]; exact hS.tick
  · rw [mI_sI_s, hw, if_pos rfl]
  · rw [hw, if_neg (by omega), if_neg (by omega), if_neg (by omega), if_neg (by omega), if_neg (by omega)]
  · rw [mI_sI_a _ _ _ _ (by omega), mI_sI_k _ _ _ _ (by decide), mI_sI_a _ _ _ _ (by omega), mI_sI_a _ _ _ _ (by omega), mI_sI_a _ _ _ _ (by omega)]
    unfold m_its; rw [hw, if_neg (by omega), if_neg (by omega), if_neg (by omega), if_neg (by omega), if_neg (by omega)]; exact ht.1
  · rw [mI_sI_a _ _ _ _ (by omega), mI_sI_s]
    unfold m_its; rw [hw, if_neg (by omega), if_pos (by omega)]
  · have hs' : m_its (m_writesR r q t v) q 1 = n + 1 := by unfold m_its; rw [hw, if_neg (by omega), if_pos (by omega), wr_id ⟨by omega, by omega⟩]
    rw [hs'] at hi
    have hti := fun z : i < n => ht.2.2 i (by omega)
    refine ⟨?_, ?_, ?_⟩
    · rw [mI_sI_a _ _ _ _ (by omega), mI_sI_a _ _ _ _ (by omega), mI_sI_a _ _ _ _ (by omega), mI_sI_a _ _ _ _ (by omega), mI_sI]
      by_cases e : i = n
      · rw [if_pos ⟨rfl, by omega⟩, wr_id (rf 1)]; unfold m_its; rw [hw, if_neg (by omega), if_neg (by omega), if_pos (by omega)]
      · rw [if_neg (fun z => e (by omega)), (hti (by omega)).1]; unfold m_its; rw [hw, if_neg (by omega), if_neg (by omega), if_neg (by omega), if_neg (by omega), if_neg (by omega)]
    · rw [mI_sI_a _ _ _ _ (by omega), mI_sI_a _ _ _ _ (by omega), mI_sI_a _ _ _ _ (by omega), mI_sI]
      by_cases e : i = n
      · rw [if_pos ⟨rfl, by omega⟩]; unfold m_its; rw [hw, if_neg (by omega), if_neg (by omega), if_neg (by omega), if_neg (by omega), if_pos (by omega)]
      · rw [if_neg (fun z => e (by omega)), mI_sI_a _ _ _ _ (by omega), (hti (by omega)).2.1]; unfold m_its; rw [hw, if_neg (by omega), if_neg (by omega), if_neg (by omega), if_neg (by omega), if_neg (by omega)]
    · rw [mI_sI_a _ _ _ _ (by omega), mI_sI_a _ _ _ _ (by omega), mI_sI]
      by_cases e : i = n
      · rw [if_pos ⟨rfl, by omega⟩]; unfold m_its; rw [hw, if_neg (by omega), if_neg (by omega), if_neg (by omega), if_pos (by omega)]
      · rw [if_neg (fun z => e (by omega)), mI_sI_a _ _ _ _ (by omega), mI_sI_a _ _ _ _ (by omega), (hti (by omega)).2.2]; unfold m_its; rw [hw, if_neg (by omega), if_neg (by omega), if_neg (by omega), if_neg (by omega), if_neg (by omega)]
abbrev rmX5_writeAt : Room := { frames := 3, cells := 0, slots := 0, locals := 63 }
set_option maxRecDepth 100000 in
theorem k_St_writeAt {l : Launch} {D : DD} (hfl : l.stackTraces = false) {u : Mem} {a : Nat} {r : RW} (hS : RS u a r) (hB : IB r) {p t v : Int} (hp : rg p) (hop : m_open r p = true) (h6 : m_its r p 1 < 6) (hr1 : rg (r 1 + 1)) (ht3 : 0 ≤ t ∧ t ≤ 3) (hv : 0 ≤ v ∧ v ≤ 99) : CT l D yX5_writeAt cX5_writeAt 4 (some .int) rmX5_writeAt [xA a, xI p, xI t, xI v] u (fun o w => o = some (xI ((m_writesR r p t v) 1 - 1)) ∧ RS w a (m_writesR r p t v) ∧ Blk u w a) := by
  have b2 := hB.co.1
  have b3 := hB.co.2.1
  have bk := hB.co.2.2.1
  have rf := hB.rf
  refine CT.of hfl (by decide) (le_b rfl) ?_
  intro C hC hR hL hDD hN
  have hfC : (cxL C).stackTraces = false := by rw [hL]; exact hfl
  show VW C 0 [some (xA a), some (xI p), some (xI t), some (xI v)] [] u 0 0
  refine r_aload_n hC dX5_writeAt_0 rfl ?_
  refine r_iload_n hC dX5_writeAt_1 rfl ?_
  refine r_V0 hC dX5_writeAt_2 mi_X5_hasRoomToWrite se_X5_hasRoomToWrite ml_X5_98 (rm := rmX5_hasRoomToWrite) rfl hS.o.o rfl rfl rfl rfl ⟨le_b rfl, le_b rfl⟩ (k_St_roomW hfC hS hB hp) ?_ rfl
  refine r_bne (t := 10) hC dX5_writeAt_5 (by rfl) (fun h_5 => ?_) (fun h_5 => ?_)
  · skip
    obtain ⟨q, rfl, hq4, hq1⟩ := open_q hop
    have ht := hS.t hq4
    have hpl := (hB.pl q hq4).2.1
    have hne : ∀ (b : Nat) (x : Mem) (k z : Int), b ≠ a → mI (sI x b k z) a = mI x a := fun b x k z hb => up_mI_n x k z (Ne.symm hb)
    refine r_aload_n hC dX5_writeAt_10 rfl ?_
    refine r_getR (j := 1) hC dX5_writeAt_11 fl_X5_25 rfl rfl hS.o.o hS.o.p1 ?_
    refine r_iload_n hC dX5_writeAt_14 rfl ?_
    refine r_aald hC dX5_writeAt_15 hS.o.a1 (le_b rfl) (lt_b rfl) ⟨by omega, by omega⟩ (hS.o.pt (p := q) (by omega)) ?_
    refine r_aload_n hC dX5_writeAt_16 rfl ?_
    refine r_getIv (j := 6) (v := r 1) hC dX5_writeAt_17 fl_X5_55 rfl rfl hS.o.o hS.writ ?_
    refine r_iload_n hC dX5_writeAt_20 rfl ?_
    refine r_iload_n hC dX5_writeAt_21 rfl ?_
    refine r_V0v hC dX5_writeAt_22 mi_X6_addRow se_X6_addRow ml_X5_101 (rm := rmX6_addRow) rfl (hS.o.t (show q < 4 by omega)).o rfl rfl rfl rfl ⟨le_b rfl, le_b rfl⟩ (k_Tr_add hfC (hS.o.t hq4) (by rw [ht.2.1]; exact ⟨by omega, by omega⟩)) ?_ rfl
    refine r_aload_n hC dX5_writeAt_25 rfl ?_
    refine r_dup hC dX5_writeAt_26 rfl ?_
    refine r_getIv (j := 6) (v := r 1) hC dX5_writeAt_27 fl_X5_55 rfl rfl hS.o.o (by rw [hne _ _ _ _ (by omega), hne _ _ _ _ (by omega), hne _ _ _ _ (by omega), hne _ _ _ _ (by omega)]; exact hS.writ) ?_
    refine r_iconst hC dX5_writeAt_30 ?_
    refine r_iadd hC dX5_writeAt_31 ?_
    refine r_putI (j := 6) hC dX5_writeAt_32 fl_X5_55 rfl hS.o.o (by rintro _ ⟨⟩; rfl) (Or.inl rfl) ?_
    refine r_aload_n hC dX5_writeAt_35 rfl ?_
    refine r_getIv (j := 6) (v := wr (r 1 + 1)) hC dX5_writeAt_36 fl_X5_55 rfl rfl hS.o.o (mI_sI_s _ _ _ _) ?_
    refine r_iconst hC dX5_writeAt_39 ?_
    refine r_isub hC dX5_writeAt_40 ?_
    refine r_iret hC hR dX5_writeAt_41 (le_b rfl) (le_b rfl) ?_
    refine ⟨?_, ?_, ?_⟩
    · rw [writesR_at rf rfl ⟨by omega, h6⟩, if_pos rfl]
    · rw [ht.2.1]; exact rs_write hS hB hq4 h6 hr1 ht3 hv
    · exact Fr.blk (S := fun q => a ≤ q ∧ q < a + 146) (by repeat (first | exact Fr.refl _ _ _ | refine Fr.sI ?_ _ _ (by omega) | refine Fr.sA ?_ _ (by omega))) (fun _ z => z)
  · skip
    refine r_iconst hC dX5_writeAt_8 ?_
    refine r_iret hC hR dX5_writeAt_9 (le_b rfl) (le_b rfl) ?_
    exact absurd ⟨hop, h6⟩ h_5
