/-! the state: rows' looks -/
theorem ans_iff (r : RW) (k c : Int) : m_ans r k c = false ↔ (m_wants r c (m_topic r k) = true ∧ m_of r c 8 < m_num r k) := by
  unfold m_ans
  cases h : m_wants r c (m_topic r k) <;> simp
abbrev rmX5_isFor : Room := { frames := 1, cells := 0, slots := 0, locals := 21 }
set_option maxRecDepth 100000 in
theorem k_St_isFor {l : Launch} {D : DD} (hfl : l.stackTraces = false) {u : Mem} {a : Nat} {r : RW} (hS : RS u a r) (hB : IB r) {k c : Nat} (hk : (k : Int) < r 2) (hc : c < 3) : CT l D yX5_isFor cX5_isFor 3 (some .boolean) rmX5_isFor [xA a, xI k, xA (a + 28 + 2 * c)] u (RT (xI (bI (m_ans r k c = false))) u) := by
  have b2 := hB.co.1
  have b3 := hB.co.2.1
  have bk := hB.co.2.2.1
  have rf := hB.rf
  have ha := hS.r.2.2.2.1 k hk
  have hc2 := hS.c hc
  refine CT.of hfl (by decide) (le_b rfl) ?_
  intro C hC hR hL hDD hN
  have hfC : (cxL C).stackTraces = false := by rw [hL]; exact hfl
  show VW C 0 [some (xA a), some (xI k), some (xA (a + 28 + 2 * c))] [] u 0 0
  refine r_aload_n hC dX5_isFor_0 rfl ?_
  refine r_aload_n hC dX5_isFor_1 rfl ?_
  refine r_getR (j := 2) hC dX5_isFor_2 fl_X5_33 rfl rfl hS.o.o hS.o.p2 ?_
  refine r_getR (j := 2) hC dX5_isFor_5 fl_X5_224 rfl rfl hS.o.r.o hS.o.r.p2 ?_
  refine r_iload_n hC dX5_isFor_8 rfl ?_
  refine r_iald hC dX5_isFor_9 hS.o.r.a2 ⟨by omega, by omega⟩ ?_
  refine r_V0 hC dX5_isFor_10 mi_X3_wants se_X3_wants ml_X5_225 (rm := rmX3_wants) rfl (hS.o.c hc).o rfl rfl rfl rfl ⟨le_b rfl, le_b rfl⟩ (k_Re_wants2 (c := (c : Int)) hfC (hS.o.c hc) hc2.2.1) ?_ rfl
  refine r_beq (t := 36) hC dX5_isFor_13 (by rfl) (fun h_13 => ?_) (fun h_13 => ?_)
  · skip
    refine r_iconst hC dX5_isFor_36 ?_
    refine r_zret hC hR dX5_isFor_37 (by first | exact Or.inl rfl | exact Or.inr rfl) (le_b rfl) (le_b rfl) ?_
    refine ⟨congrArg (fun i => some (xI i)) ?_, rfl⟩
    rw [bI_congr (ans_iff r k c)]
    unfold bI
    (repeat' split) <;> first | rfl | omega | (exfalso; simp_all; done) | (exfalso; simp_all; omega)
  · skip
    refine r_aload_n hC dX5_isFor_16 rfl ?_
    refine r_getR (j := 2) hC dX5_isFor_17 fl_X5_33 rfl rfl hS.o.o hS.o.p2 ?_
    refine r_getR (j := 0) hC dX5_isFor_20 fl_X5_177 rfl rfl hS.o.r.o hS.o.r.p0 ?_
    refine r_iload_n hC dX5_isFor_23 rfl ?_
    refine r_ialdv (v := m_num r k) hC dX5_isFor_24 hS.o.r.a0 ⟨by omega, by omega⟩ ha.1 ?_
    refine r_aload_n hC dX5_isFor_25 rfl ?_
    refine r_getIv (j := 10) (v := m_of r c 8) hC dX5_isFor_26 fl_X5_228 rfl rfl (hS.o.c hc).o hc2.2.2.2.2.2.2.2.2.2.1 ?_
    refine r_icmp_le (t := 36) hC dX5_isFor_29 (by rfl) (num_rg rf hB.ro hk) (rg_of rf _ _) (fun h_29 => ?_) (fun h_29 => ?_)
    · skip
      refine r_iconst hC dX5_isFor_36 ?_
      refine r_zret hC hR dX5_isFor_37 (by first | exact Or.inl rfl | exact Or.inr rfl) (le_b rfl) (le_b rfl) ?_
      refine ⟨congrArg (fun i => some (xI i)) ?_, rfl⟩
      rw [bI_congr (ans_iff r k c)]
      unfold bI
      (repeat' split) <;> first | rfl | omega | (exfalso; simp_all; done) | (exfalso; simp_all; omega)
    · skip
      refine r_iconst hC dX5_isFor_32 ?_
      refine r_goto (t := 37) hC dX5_isFor_33 (by rfl) ?_
      refine r_zret hC hR dX5_isFor_37 (by first | exact Or.inl rfl | exact Or.inr rfl) (le_b rfl) (le_b rfl) ?_
      refine ⟨congrArg (fun i => some (xI i)) ?_, rfl⟩
      rw [bI_congr (ans_iff r k c)]
      unfold bI
      (repeat' split) <;> first | rfl | omega | (exfalso; simp_all; done) | (exfalso; simp_all; omega)

abbrev rmX5_rowsFor : Room := { frames := 2, cells := 0, slots := 0, locals := 43 }
set_option maxRecDepth 100000 in
theorem k_St_rowsFor {l : Launch} {D : DD} (hfl : l.stackTraces = false) {u : Mem} {a : Nat} {r : RW} (hS : RS u a r) (hB : IB r) {c : Nat} (hc : c < 3) : CT l D yX5_rowsFor cX5_rowsFor 4 (some .int) rmX5_rowsFor [xA a, xI c] u (RT (xI (m_rows r c)) u) := by
  have b2 := hB.co.1
  have b3 := hB.co.2.1
  have bk := hB.co.2.2.1
  have rf := hB.rf
  obtain ⟨o, hO, ho⟩ := hS.r.2.2.2.2
  obtain ⟨N, hN⟩ : ∃ N : Nat, m_kept r = N := ⟨(m_kept r).toNat, by unfold m_kept at *; omega⟩
  rw [show (m_kept r).toNat = N by omega] at hO ho
  have h8 : mI u (a + 19) 8 = N := by rw [← hN]; exact hS.r.2.1
  refine CT.of hfl (by decide) (le_b rfl) ?_
  intro C hC hR hL hDD hN
  have hfC : (cxL C).stackTraces = false := by rw [hL]; exact hfl
  have lp : ∀ (n : Nat) (i : Nat) (s : Int), (N - i = n) → (i ≤ N) → (s = sumN (fun j => if m_ans r (o j) c = false then 1 else 0) i) → VW C 4 [some (xA a), some (xI c), some (xI s), some (xI i)] [] u 0 0 := by
    intro n
    induction n using Nat.strongRecOn with
    | _ n ih =>
      intro i s hn hi hs
      have hoi : i < N → (o i : Int) < r 2 := fun z => (hO.1 i z).1
      refine r_iload_n hC dX5_rowsFor_4 rfl ?_
      refine r_aload_n hC dX5_rowsFor_5 rfl ?_
      refine r_getR (j := 2) hC dX5_rowsFor_6 fl_X5_33 rfl rfl hS.o.o hS.o.p2 ?_
      refine r_getIv (j := 8) (v := N) hC dX5_rowsFor_9 fl_X5_92 rfl rfl hS.o.r.o h8 ?_
      refine r_icmp_ge (t := 46) hC dX5_rowsFor_12 (by rfl) (by first | with_reducible exact rg_mI _ _ _ | assumption | with_reducible exact rf_at rf _ | with_reducible exact rg_of rf _ _ | with_reducible exact rg_its rf _ _ | with_reducible exact rg_way rf _ _ | with_reducible exact rg_and _ _ | with_reducible exact rg_or _ _ | exact ⟨by omega, by omega⟩) (by first | with_reducible exact rg_mI _ _ _ | assumption | with_reducible exact rf_at rf _ | with_reducible exact rg_of rf _ _ | with_reducible exact rg_its rf _ _ | with_reducible exact rg_way rf _ _ | with_reducible exact rg_and _ _ | with_reducible exact rg_or _ _ | exact ⟨by omega, by omega⟩) (fun h_12 => ?_) (fun h_12 => ?_)
      · skip
        refine r_iload_n hC dX5_rowsFor_46 rfl ?_
        refine r_iret hC hR dX5_rowsFor_47 (le_b rfl) (le_b rfl) ?_
        refine ⟨congrArg (fun i => some (xI i)) ?_, rfl⟩
        rw [hs, rows_at hO, show i = N by omega]
      · skip
        refine r_aload_n hC dX5_rowsFor_15 rfl ?_
        refine r_aload_n hC dX5_rowsFor_16 rfl ?_
        refine r_getR (j := 2) hC dX5_rowsFor_17 fl_X5_33 rfl rfl hS.o.o hS.o.p2 ?_
        refine r_getR (j := 6) hC dX5_rowsFor_20 fl_X5_206 rfl rfl hS.o.r.o hS.o.r.p6 ?_
        refine r_iload_n hC dX5_rowsFor_23 rfl ?_
        refine r_ialdv (v := o i) hC dX5_rowsFor_24 hS.o.r.a6 ⟨by omega, by omega⟩ (ho i (by omega)) ?_
        refine r_aload_n hC dX5_rowsFor_25 rfl ?_
        refine r_getR (j := 3) hC dX5_rowsFor_26 fl_X5_39 rfl rfl hS.o.o hS.o.p3 ?_
        refine r_iload_n hC dX5_rowsFor_29 rfl ?_
        refine r_aald hC dX5_rowsFor_30 hS.o.a3 (le_b rfl) (lt_b rfl) ⟨by omega, by omega⟩ (hS.o.pc (i := c) (by omega)) ?_
        refine r_V0 hC dX5_rowsFor_31 mi_X5_isFor se_X5_isFor ml_X5_209 (rm := rmX5_isFor) rfl hS.o.o rfl rfl rfl rfl ⟨le_b rfl, le_b rfl⟩ (k_St_isFor hfC hS hB (k := o i) (c := c) (hoi (by omega)) hc) ?_ rfl
        refine r_beq (t := 40) hC dX5_rowsFor_34 (by rfl) (fun h_34 => ?_) (fun h_34 => ?_)
        · skip
          refine r_iinc (lv' := [_, _, _, _]) hC dX5_rowsFor_40 rfl (lt_b rfl) rfl (lt_b rfl) rfl ?_
          refine r_goto (t := 4) hC dX5_rowsFor_43 (by rfl) ?_
          exact ih _ (by omega) (i + 1) _ rfl (by omega) (by simp only [sumN]; first | (rw [if_pos (by assumption), hs]; done) | (rw [if_neg (by assumption), hs]; omega))
        · skip
          refine r_iinc (lv' := [_, _, _, _]) hC dX5_rowsFor_37 rfl (lt_b rfl) rfl (lt_b rfl) rfl ?_
          refine r_iinc (lv' := [_, _, _, _]) hC dX5_rowsFor_40 rfl (lt_b rfl) rfl (lt_b rfl) rfl ?_
          refine r_goto (t := 4) hC dX5_rowsFor_43 (by rfl) ?_
          exact ih _ (by omega) (i + 1) _ rfl (by omega) (by simp only [sumN]; first | (rw [if_pos (by assumption), hs]; done) | (rw [if_neg (by assumption), hs]; omega))
  show VW C 0 [some (xA a), some (xI c), none, none] [] u 0 0
  refine r_iconst hC dX5_rowsFor_0 ?_
  refine r_istore_n (lv' := [_, _, _, _]) hC dX5_rowsFor_1 (lt_b rfl) rfl (lt_b rfl) rfl ?_
  refine r_iconst hC dX5_rowsFor_2 ?_
  refine r_istore_n (lv' := [_, _, _, _]) hC dX5_rowsFor_3 (lt_b rfl) rfl (lt_b rfl) rfl ?_
  exact lp _ 0 _ rfl (by omega) rfl

abbrev rmX5_answeredBy : Room := { frames := 2, cells := 0, slots := 0, locals := 43 }
set_option maxRecDepth 100000 in
theorem k_St_ansBy {l : Launch} {D : DD} (hfl : l.stackTraces = false) {u : Mem} {a : Nat} {r : RW} (hS : RS u a r) (hB : IB r) {k : Nat} (hk : (k : Int) < r 2) : CT l D yX5_answeredBy cX5_answeredBy 4 (some .int) rmX5_answeredBy [xA a, xI k] u (RT (xI (m_ansBy r k)) u) := by
  have b2 := hB.co.1
  have b3 := hB.co.2.1
  have bk := hB.co.2.2.1
  have rf := hB.rf
  refine CT.of hfl (by decide) (le_b rfl) ?_
  intro C hC hR hL hDD hN
  have hfC : (cxL C).stackTraces = false := by rw [hL]; exact hfl
  have lp : ∀ (n : Nat) (i : Nat) (s : Int), (3 - i = n) → (i ≤ 3) → (s = c_ansL r k i) → VW C 4 [some (xA a), some (xI k), some (xI s), some (xI i)] [] u 0 0 := by
    intro n
    induction n using Nat.strongRecOn with
    | _ n ih =>
      intro i s hn hi hs
      refine r_iload_n hC dX5_answeredBy_4 rfl ?_
      refine r_iconst hC dX5_answeredBy_5 ?_
      refine r_icmp_ge (t := 35) hC dX5_answeredBy_6 (by rfl) (by first | with_reducible exact rg_mI _ _ _ | assumption | with_reducible exact rf_at rf _ | with_reducible exact rg_of rf _ _ | with_reducible exact rg_its rf _ _ | with_reducible exact rg_way rf _ _ | with_reducible exact rg_and _ _ | with_reducible exact rg_or _ _ | exact ⟨by omega, by omega⟩) (by first | with_reducible exact rg_mI _ _ _ | assumption | with_reducible exact rf_at rf _ | with_reducible exact rg_of rf _ _ | with_reducible exact rg_its rf _ _ | with_reducible exact rg_way rf _ _ | with_reducible exact rg_and _ _ | with_reducible exact rg_or _ _ | exact ⟨by omega, by omega⟩) (fun h_6 => ?_) (fun h_6 => ?_)
      · skip
        refine r_iload_n hC dX5_answeredBy_35 rfl ?_
        refine r_iret hC hR dX5_answeredBy_36 (le_b rfl) (le_b rfl) ?_
        refine ⟨congrArg (fun i => some (xI i)) ?_, rfl⟩
        rw [hs, show i = 3 by omega]; exact c_ansL_3 r k
      · skip
        refine r_aload_n hC dX5_answeredBy_9 rfl ?_
        refine r_iload_n hC dX5_answeredBy_10 rfl ?_
        refine r_aload_n hC dX5_answeredBy_11 rfl ?_
        refine r_getR (j := 3) hC dX5_answeredBy_12 fl_X5_39 rfl rfl hS.o.o hS.o.p3 ?_
        refine r_iload_n hC dX5_answeredBy_15 rfl ?_
        refine r_aald hC dX5_answeredBy_16 hS.o.a3 (le_b rfl) (lt_b rfl) ⟨by omega, by omega⟩ (hS.o.pc (i := i) (by omega)) ?_
        refine r_V0 hC dX5_answeredBy_17 mi_X5_isFor se_X5_isFor ml_X5_209 (rm := rmX5_isFor) rfl hS.o.o rfl rfl rfl rfl ⟨le_b rfl, le_b rfl⟩ (k_St_isFor hfC hS hB (k := k) (c := i) hk (by omega)) ?_ rfl
        refine r_bne (t := 29) hC dX5_answeredBy_20 (by rfl) (fun h_20 => ?_) (fun h_20 => ?_)
        · skip
          refine r_iinc (lv' := [_, _, _, _]) hC dX5_answeredBy_29 rfl (lt_b rfl) rfl (lt_b rfl) rfl ?_
          refine r_goto (t := 4) hC dX5_answeredBy_32 (by rfl) ?_
          exact ih _ (by omega) (i + 1) _ rfl (by omega) (by simp only [c_ansL]; first | (rw [if_pos (by simpa using h_20), hs]; done) | (rw [if_neg (by simp_all), hs]; done))
        · skip
          refine r_iload_n hC dX5_answeredBy_23 rfl ?_
          refine r_iconst hC dX5_answeredBy_24 ?_
          refine r_iload_n hC dX5_answeredBy_25 rfl ?_
          refine r_ishl hC dX5_answeredBy_26 ?_
          refine r_ior hC dX5_answeredBy_27 ?_
          refine r_istore_n (lv' := [_, _, _, _]) hC dX5_answeredBy_28 (lt_b rfl) rfl (lt_b rfl) rfl ?_
          refine r_iinc (lv' := [_, _, _, _]) hC dX5_answeredBy_29 rfl (lt_b rfl) rfl (lt_b rfl) rfl ?_
          refine r_goto (t := 4) hC dX5_answeredBy_32 (by rfl) ?_
          exact ih _ (by omega) (i + 1) _ rfl (by omega) (by simp only [c_ansL]; first | (rw [if_pos (by simpa using h_20), hs]; done) | (rw [if_neg (by simp_all), hs]; done))
  show VW C 0 [some (xA a), some (xI k), none, none] [] u 0 0
  refine r_iconst hC dX5_answeredBy_0 ?_
  refine r_istore_n (lv' := [_, _, _, _]) hC dX5_answeredBy_1 (lt_b rfl) rfl (lt_b rfl) rfl ?_
  refine r_iconst hC dX5_answeredBy_2 ?_
  refine r_istore_n (lv' := [_, _, _, _]) hC dX5_answeredBy_3 (lt_b rfl) rfl (lt_b rfl) rfl ?_
  exact lp _ 0 _ rfl (by omega) rfl

theorem sumN_pos0 {f : Nat → Int} (n : Nat) (h : ∀ k, k < n → 0 ≤ f k) : sumN f n = 0 ↔ ∀ k, k < n → f k = 0 := by
  induction n with
  | zero => simp [sumN]
  | succ n ih =>
    have i1 := ih fun k hk => h k (by omega)
    have h2 := h n (by omega)
    have h0 : 0 ≤ sumN f n := by
      have := (sumN_rg (f := f) (lo := 0) (hi := sumN f n + 1000000) n) 
      clear this
      clear i1 ih h2
      induction n with
      | zero => exact Int.le_refl _
      | succ n ih2 =>
        have := ih2 (fun k hk => h k (by omega))
        have := h n (by omega)
        simp only [sumN]; omega
    simp only [sumN]
    constructor
    · intro e k hk
      rcases Nat.lt_or_ge k n with q | q
      · exact i1.mp (by omega) k q
      · rw [show k = n by omega]; omega
    · intro e
      rw [i1.mpr fun k hk => e k (by omega), e n (by omega)]; rfl
theorem drained_iff {r : RW} {N : Nat} {o : Nat → Nat} (hO : Ord r N o) : m_drained r = true ↔ (r 9 = 0 ∧ ∀ i, i < N → m_ansBy r (o i) = 7) := by
  unfold m_drained
  simp only [Bool.and_eq_true, decide_eq_true_eq]
  rw [rows_at hO, rows_at hO, rows_at hO, sumN_pos0 N (fun k _ => by split <;> decide), sumN_pos0 N (fun k _ => by split <;> decide), sumN_pos0 N (fun k _ => by split <;> decide)]
  constructor
  · rintro ⟨h9, h0, h1, h2⟩
    refine ⟨h9, fun i hi => (ansBy_7 r (o i)).mpr ⟨?_, ?_, ?_⟩⟩
    · have := h0 i hi; cases q : m_ans r (o i) 0
      · rw [if_pos q] at this; omega
      · rfl
    · have := h1 i hi; cases q : m_ans r (o i) 1
      · rw [if_pos q] at this; omega
      · rfl
    · have := h2 i hi; cases q : m_ans r (o i) 2
      · rw [if_pos q] at this; omega
      · rfl
  · rintro ⟨h9, h⟩
    refine ⟨h9, fun i hi => ?_, fun i hi => ?_, fun i hi => ?_⟩
    · rw [if_neg]; rw [((ansBy_7 r (o i)).mp (h i hi)).1]; decide
    · rw [if_neg]; rw [((ansBy_7 r (o i)).mp (h i hi)).2.1]; decide
    · rw [if_neg]; rw [((ansBy_7 r (o i)).mp (h i hi)).2.2]; decide
abbrev rmX5_isDrained : Room := { frames := 3, cells := 0, slots := 0, locals := 66 }
set_option maxRecDepth 100000 in
theorem k_St_drained {l : Launch} {D : DD} (hfl : l.stackTraces = false) {u : Mem} {a : Nat} {r : RW} (hS : RS u a r) (hB : IB r)  : CT l D yX5_isDrained cX5_isDrained 2 (some .boolean) rmX5_isDrained [xA a] u (RT (xI (bI (m_drained r = true))) u) := by
  have b2 := hB.co.1
  have b3 := hB.co.2.1
  have bk := hB.co.2.2.1
  have rf := hB.rf
  obtain ⟨o, hO, ho⟩ := hS.r.2.2.2.2
  obtain ⟨N, hN⟩ : ∃ N : Nat, m_kept r = N := ⟨(m_kept r).toNat, by unfold m_kept at *; omega⟩
  rw [show (m_kept r).toNat = N by omega] at hO ho
  have h8 : mI u (a + 19) 8 = N := by rw [← hN]; exact hS.r.2.1
  have h9 := hB.co.2.2.2.1
  refine CT.of hfl (by decide) (le_b rfl) ?_
  intro C hC hR hL hDD hN
  have hfC : (cxL C).stackTraces = false := by rw [hL]; exact hfl
  show VW C 0 [some (xA a), none] [] u 0 0
  refine r_aload_n hC dX5_isDrained_0 rfl ?_
  refine r_getR (j := 4) hC dX5_isDrained_1 fl_X5_47 rfl rfl hS.o.o hS.o.p4 ?_
  refine r_getIv (j := 1) (v := r 9) hC dX5_isDrained_4 fl_X5_243 rfl rfl hS.o.l.o hS.l.1 ?_
  refine r_if_le (t := 12) hC dX5_isDrained_7 (by rfl) (rf_at rf _) (fun h_7 => ?_) (fun h_7 => ?_)
  · skip
    refine r_iconst hC dX5_isDrained_12 ?_
    refine r_istore_n (lv' := [_, _]) hC dX5_isDrained_13 (lt_b rfl) rfl (lt_b rfl) rfl ?_
    have lp : ∀ (n : Nat) (i : Nat), (N - i = n) → (i ≤ N) → (∀ j, j < i → m_ansBy r (o j) = 7) → VW C 14 [some (xA a), some (xI i)] [] u 0 0 := by
      intro n
      induction n using Nat.strongRecOn with
      | _ n ih =>
        intro i hn hi hs
        have hoi : i < N → (o i : Int) < r 2 := fun z => (hO.1 i z).1
        refine r_iload_n hC dX5_isDrained_14 rfl ?_
        refine r_aload_n hC dX5_isDrained_15 rfl ?_
        refine r_getR (j := 2) hC dX5_isDrained_16 fl_X5_33 rfl rfl hS.o.o hS.o.p2 ?_
        refine r_getIv (j := 8) (v := N) hC dX5_isDrained_19 fl_X5_92 rfl rfl hS.o.r.o h8 ?_
        refine r_icmp_ge (t := 51) hC dX5_isDrained_22 (by rfl) (by first | with_reducible exact rg_mI _ _ _ | assumption | with_reducible exact rf_at rf _ | with_reducible exact rg_of rf _ _ | with_reducible exact rg_its rf _ _ | with_reducible exact rg_way rf _ _ | with_reducible exact rg_and _ _ | with_reducible exact rg_or _ _ | exact ⟨by omega, by omega⟩) (by first | with_reducible exact rg_mI _ _ _ | assumption | with_reducible exact rf_at rf _ | with_reducible exact rg_of rf _ _ | with_reducible exact rg_its rf _ _ | with_reducible exact rg_way rf _ _ | with_reducible exact rg_and _ _ | with_reducible exact rg_or _ _ | exact ⟨by omega, by omega⟩) (fun h_22 => ?_) (fun h_22 => ?_)
        · skip
          refine r_iconst hC dX5_isDrained_51 ?_
          refine r_zret hC hR dX5_isDrained_52 (by first | exact Or.inl rfl | exact Or.inr rfl) (le_b rfl) (le_b rfl) ?_
          refine ⟨congrArg (fun i => some (xI i)) ?_, rfl⟩
          rw [bI_congr (drained_iff hO)]
          exact (if_pos ⟨by omega, fun j hj => hs j (by omega)⟩).symm
        · skip
          refine r_aload_n hC dX5_isDrained_25 rfl ?_
          refine r_aload_n hC dX5_isDrained_26 rfl ?_
          refine r_getR (j := 2) hC dX5_isDrained_27 fl_X5_33 rfl rfl hS.o.o hS.o.p2 ?_
          refine r_getR (j := 6) hC dX5_isDrained_30 fl_X5_206 rfl rfl hS.o.r.o hS.o.r.p6 ?_
          refine r_iload_n hC dX5_isDrained_33 rfl ?_
          refine r_ialdv (v := o i) hC dX5_isDrained_34 hS.o.r.a6 ⟨by omega, by omega⟩ (ho i (by omega)) ?_
          refine r_V0 hC dX5_isDrained_35 mi_X5_answeredBy se_X5_answeredBy ml_X5_231 (rm := rmX5_answeredBy) rfl hS.o.o rfl rfl rfl rfl ⟨le_b rfl, le_b rfl⟩ (k_St_ansBy hfC hS hB (k := o i) (hoi (by omega))) ?_ rfl
          refine r_bipush hC dX5_isDrained_38 (by rfl) ?_
          refine r_icmp_eq (t := 45) hC dX5_isDrained_40 (by rfl) (rg_ansBy _ _) ⟨by omega, by omega⟩ (fun h_40 => ?_) (fun h_40 => ?_)
          · skip
            refine r_iinc (lv' := [_, _]) hC dX5_isDrained_45 rfl (lt_b rfl) rfl (lt_b rfl) rfl ?_
            refine r_goto (t := 14) hC dX5_isDrained_48 (by rfl) ?_
            exact ih _ (by omega) (i + 1) rfl (by omega) (fun j hj => by by_cases e : j = i; (subst e; exact h_40); exact hs j (by omega))
          · skip
            refine r_iconst hC dX5_isDrained_43 ?_
            refine r_zret hC hR dX5_isDrained_44 (by first | exact Or.inl rfl | exact Or.inr rfl) (le_b rfl) (le_b rfl) ?_
            refine ⟨congrArg (fun i => some (xI i)) ?_, rfl⟩
            rw [bI_congr (drained_iff hO)]
            exact (if_neg (fun z => h_40 (z.2 i (by omega)))).symm
    exact lp _ 0 rfl (by omega) (fun j hj => by omega)
  · skip
    refine r_iconst hC dX5_isDrained_10 ?_
    refine r_zret hC hR dX5_isDrained_11 (by first | exact Or.inl rfl | exact Or.inr rfl) (le_b rfl) (le_b rfl) ?_
    refine ⟨congrArg (fun i => some (xI i)) ?_, rfl⟩
    rw [bI_congr (drained_iff hO)]
    exact (if_neg (fun z => by omega)).symm

abbrev rmX5_whyItStays : Room := { frames := 2, cells := 0, slots := 0, locals := 43 }
set_option maxRecDepth 100000 in
theorem k_St_why {l : Launch} {D : DD} (hfl : l.stackTraces = false) {u : Mem} {a : Nat} {r : RW} (hS : RS u a r) (hB : IB r) {k : Nat} (hk : (k : Int) < r 2) : CT l D yX5_whyItStays cX5_whyItStays 3 (some .int) rmX5_whyItStays [xA a, xI k] u (RT (xI (m_why r k)) u) := by
  have b2 := hB.co.1
  have b3 := hB.co.2.1
  have bk := hB.co.2.2.1
  have rf := hB.rf
  have ha := hS.r.2.2.2.1 k hk
  refine CT.of hfl (by decide) (le_b rfl) ?_
  intro C hC hR hL hDD hN
  have hfC : (cxL C).stackTraces = false := by rw [hL]; exact hfl
  have lp : ∀ (n : Nat) (i : Nat), (3 - i = n) → (i ≤ 3) → (∀ j : Nat, j < i → m_ans r k j = true) → VW C 2 [some (xA a), some (xI k), some (xI i)] [] u 0 0 := by
    intro n
    induction n using Nat.strongRecOn with
    | _ n ih =>
      intro i hn hi hs
      refine r_iload_n hC dX5_whyItStays_2 rfl ?_
      refine r_iconst hC dX5_whyItStays_3 ?_
      refine r_icmp_ge (t := 68) hC dX5_whyItStays_4 (by rfl) (by first | with_reducible exact rg_mI _ _ _ | assumption | with_reducible exact rf_at rf _ | with_reducible exact rg_of rf _ _ | with_reducible exact rg_its rf _ _ | with_reducible exact rg_way rf _ _ | with_reducible exact rg_and _ _ | with_reducible exact rg_or _ _ | exact ⟨by omega, by omega⟩) (by first | with_reducible exact rg_mI _ _ _ | assumption | with_reducible exact rf_at rf _ | with_reducible exact rg_of rf _ _ | with_reducible exact rg_its rf _ _ | with_reducible exact rg_way rf _ _ | with_reducible exact rg_and _ _ | with_reducible exact rg_or _ _ | exact ⟨by omega, by omega⟩) (fun h_4 => ?_) (fun h_4 => ?_)
      · skip
        refine r_iconst hC dX5_whyItStays_68 ?_
        refine r_iret hC hR dX5_whyItStays_69 (le_b rfl) (le_b rfl) ?_
        refine ⟨congrArg (fun i => some (xI i)) ?_, rfl⟩
        unfold m_why
        have q0 := hs 0 (by omega)
        have q1 := hs 1 (by omega)
        have q2 := hs 2 (by omega)
        rw [show ((0 : Nat) : Int) = 0 from rfl] at q0
        rw [show ((1 : Nat) : Int) = 1 from rfl] at q1
        rw [show ((2 : Nat) : Int) = 2 from rfl] at q2
        rw [q0, q1, q2]; rfl
      · skip
        refine r_aload_n hC dX5_whyItStays_7 rfl ?_
        refine r_iload_n hC dX5_whyItStays_8 rfl ?_
        refine r_aload_n hC dX5_whyItStays_9 rfl ?_
        refine r_getR (j := 3) hC dX5_whyItStays_10 fl_X5_39 rfl rfl hS.o.o hS.o.p3 ?_
        refine r_iload_n hC dX5_whyItStays_13 rfl ?_
        refine r_aald hC dX5_whyItStays_14 hS.o.a3 (le_b rfl) (lt_b rfl) ⟨by omega, by omega⟩ (hS.o.pc (i := i) (by omega)) ?_
        refine r_V0 hC dX5_whyItStays_15 mi_X5_isFor se_X5_isFor ml_X5_209 (rm := rmX5_isFor) rfl hS.o.o rfl rfl rfl rfl ⟨le_b rfl, le_b rfl⟩ (k_St_isFor hfC hS hB (k := k) (c := i) hk (by omega)) ?_ rfl
        refine r_beq (t := 62) hC dX5_whyItStays_18 (by rfl) (fun h_18 => ?_) (fun h_18 => ?_)
        · skip
          refine r_iinc (lv' := [_, _, _]) hC dX5_whyItStays_62 rfl (lt_b rfl) rfl (lt_b rfl) rfl ?_
          refine r_goto (t := 2) hC dX5_whyItStays_65 (by rfl) ?_
          exact ih _ (by omega) (i + 1) rfl (by omega) (fun j hj => by by_cases e : j = i; (subst e; simpa using h_18); exact hs j (by omega))
        · skip
          refine r_aload_n hC dX5_whyItStays_21 rfl ?_
          refine r_getR (j := 2) hC dX5_whyItStays_22 fl_X5_33 rfl rfl hS.o.o hS.o.p2 ?_
          refine r_getR (j := 5) hC dX5_whyItStays_25 fl_X5_215 rfl rfl hS.o.r.o hS.o.r.p5 ?_
          refine r_iload_n hC dX5_whyItStays_28 rfl ?_
          refine r_ialdv (v := b_and (b_shr (r (97 + 3 * k + 2)) 4) 7) hC dX5_whyItStays_29 hS.o.r.a5 ⟨by omega, by omega⟩ ha.2.2.2.2.2 ?_
          refine r_iload_n hC dX5_whyItStays_30 rfl ?_
          refine r_ishr hC dX5_whyItStays_31 ?_
          refine r_iconst hC dX5_whyItStays_32 ?_
          refine r_iand hC dX5_whyItStays_33 ?_
          refine r_if_ne (t := 39) hC dX5_whyItStays_34 (by rfl) (rg_and _ _) (fun h_34 => ?_) (fun h_34 => ?_)
          · skip
            refine r_aload_n hC dX5_whyItStays_39 rfl ?_
            refine r_getR (j := 2) hC dX5_whyItStays_40 fl_X5_33 rfl rfl hS.o.o hS.o.p2 ?_
            refine r_getR (j := 4) hC dX5_whyItStays_43 fl_X5_187 rfl rfl hS.o.r.o hS.o.r.p4 ?_
            refine r_iload_n hC dX5_whyItStays_46 rfl ?_
            refine r_ialdv (v := b_and (b_shr (r (97 + 3 * k + 2)) 1) 7) hC dX5_whyItStays_47 hS.o.r.a4 ⟨by omega, by omega⟩ ha.2.2.2.2.1 ?_
            refine r_iload_n hC dX5_whyItStays_48 rfl ?_
            refine r_ishr hC dX5_whyItStays_49 ?_
            refine r_iconst hC dX5_whyItStays_50 ?_
            refine r_iand hC dX5_whyItStays_51 ?_
            refine r_iconst hC dX5_whyItStays_52 ?_
            refine r_icmp_ne (t := 60) hC dX5_whyItStays_53 (by rfl) (rg_and _ _) ⟨by omega, by omega⟩ (fun h_53 => ?_) (fun h_53 => ?_)
            · skip
              refine r_iconst hC dX5_whyItStays_60 ?_
              refine r_iret hC hR dX5_whyItStays_61 (le_b rfl) (le_b rfl) ?_
              refine ⟨congrArg (fun i => some (xI i)) ?_, rfl⟩
              have hw : m_why r k = m_wh r k i := by
                unfold m_why
                have h3 : i = 0 ∨ i = 1 ∨ i = 2 := by omega
                rcases h3 with rfl | rfl | rfl
                · rw [show ((0 : Nat) : Int) = 0 from rfl] at h_18 ⊢; rw [if_pos h_18]
                · rw [show ((1 : Nat) : Int) = 1 from rfl] at h_18 ⊢; rw [if_neg (by have := hs 0 (by omega); rw [show ((0 : Nat) : Int) = 0 from rfl] at this; rw [this]; decide), if_pos h_18]
                · rw [show ((2 : Nat) : Int) = 2 from rfl] at h_18 ⊢; rw [if_neg (by have := hs 0 (by omega); rw [show ((0 : Nat) : Int) = 0 from rfl] at this; rw [this]; decide), if_neg (by have := hs 1 (by omega); rw [show ((1 : Nat) : Int) = 1 from rfl] at this; rw [this]; decide), if_pos h_18]
              rw [hw]; unfold m_wh
              have e1 := snt_01 hB.ro hk (i := i) (by omega)
              have e2 := eff_at hB.ro hk (i := i) (by omega)
              rw [if_neg (fun z => h_34 (e1.mpr z))]
              first | (rw [if_pos (e2.mp h_53)]; done) | (rw [if_neg (fun z => h_53 (e2.mpr z))]; done)
            · skip
              refine r_iconst hC dX5_whyItStays_56 ?_
              refine r_goto (t := 61) hC dX5_whyItStays_57 (by rfl) ?_
              refine r_iret hC hR dX5_whyItStays_61 (le_b rfl) (le_b rfl) ?_
              refine ⟨congrArg (fun i => some (xI i)) ?_, rfl⟩
              have hw : m_why r k = m_wh r k i := by
                unfold m_why
                have h3 : i = 0 ∨ i = 1 ∨ i = 2 := by omega
                rcases h3 with rfl | rfl | rfl
                · rw [show ((0 : Nat) : Int) = 0 from rfl] at h_18 ⊢; rw [if_pos h_18]
                · rw [show ((1 : Nat) : Int) = 1 from rfl] at h_18 ⊢; rw [if_neg (by have := hs 0 (by omega); rw [show ((0 : Nat) : Int) = 0 from rfl] at this; rw [this]; decide), if_pos h_18]
                · rw [show ((2 : Nat) : Int) = 2 from rfl] at h_18 ⊢; rw [if_neg (by have := hs 0 (by omega); rw [show ((0 : Nat) : Int) = 0 from rfl] at this; rw [this]; decide), if_neg (by have := hs 1 (by omega); rw [show ((1 : Nat) : Int) = 1 from rfl] at this; rw [this]; decide), if_pos h_18]
              rw [hw]; unfold m_wh
              have e1 := snt_01 hB.ro hk (i := i) (by omega)
              have e2 := eff_at hB.ro hk (i := i) (by omega)
              rw [if_neg (fun z => h_34 (e1.mpr z))]
              first | (rw [if_pos (e2.mp h_53)]; done) | (rw [if_neg (fun z => h_53 (e2.mpr z))]; done)
          · skip
            refine r_iconst hC dX5_whyItStays_37 ?_
            refine r_iret hC hR dX5_whyItStays_38 (le_b rfl) (le_b rfl) ?_
            refine ⟨congrArg (fun i => some (xI i)) ?_, rfl⟩
            have hw : m_why r k = m_wh r k i := by
              unfold m_why
              have h3 : i = 0 ∨ i = 1 ∨ i = 2 := by omega
              rcases h3 with rfl | rfl | rfl
              · rw [show ((0 : Nat) : Int) = 0 from rfl] at h_18 ⊢; rw [if_pos h_18]
              · rw [show ((1 : Nat) : Int) = 1 from rfl] at h_18 ⊢; rw [if_neg (by have := hs 0 (by omega); rw [show ((0 : Nat) : Int) = 0 from rfl] at this; rw [this]; decide), if_pos h_18]
              · rw [show ((2 : Nat) : Int) = 2 from rfl] at h_18 ⊢; rw [if_neg (by have := hs 0 (by omega); rw [show ((0 : Nat) : Int) = 0 from rfl] at this; rw [this]; decide), if_neg (by have := hs 1 (by omega); rw [show ((1 : Nat) : Int) = 1 from rfl] at this; rw [this]; decide), if_pos h_18]
            rw [hw]; unfold m_wh
            have e1 := snt_01 hB.ro hk (i := i) (by omega)
            have e2 := eff_at hB.ro hk (i := i) (by omega)
            rw [if_pos (e1.mp h_34)]
  show VW C 0 [some (xA a), some (xI k), none] [] u 0 0
  refine r_iconst hC dX5_whyItStays_0 ?_
  refine r_istore_n (lv' := [_, _, _]) hC dX5_whyItStays_1 (lt_b rfl) rfl (lt_b rfl) rfl ?_
  exact lp _ 0 rfl (by omega) (fun j hj => by omega)

abbrev rmX5_rowNumber : Room := { frames := 3, cells := 0, slots := 0, locals := 66 }
set_option maxRecDepth 100000 in
theorem k_St_rowNum {l : Launch} {D : DD} (hfl : l.stackTraces = false) {u : Mem} {a : Nat} {r : RW} (hS : RS u a r) (hB : IB r) {k : Nat} {w : Int} (hk : (k : Int) < r 2) (hw : 0 ≤ w ∧ w ≤ 7) : CT l D yX5_rowNumber cX5_rowNumber 3 (some .int) rmX5_rowNumber [xA a, xI k, xI w] u (RT (xI (m_rowV r k w)) u) := by
  have b2 := hB.co.1
  have b3 := hB.co.2.1
  have bk := hB.co.2.2.1
  have rf := hB.rf
  have ha := hS.r.2.2.2.1 k hk
  refine CT.of hfl (by decide) (le_b rfl) ?_
  intro C hC hR hL hDD hN
  have hfC : (cxL C).stackTraces = false := by rw [hL]; exact hfl
  show VW C 0 [some (xA a), some (xI k), some (xI w)] [] u 0 0
  refine r_iload_n hC dX5_rowNumber_0 rfl ?_
  refine r_tb7 (td := 102) (t0 := 44) (t1 := 54) (t2 := 64) (t3 := 66) (t4 := 76) (t5 := 86) (t6 := 96) hC dX5_rowNumber_1 (by rfl) (by first | with_reducible exact rg_mI _ _ _ | assumption | with_reducible exact rf_at rf _ | with_reducible exact rg_of rf _ _ | with_reducible exact rg_its rf _ _ | with_reducible exact rg_way rf _ _ | with_reducible exact rg_and _ _ | with_reducible exact rg_or _ _ | exact ⟨by omega, by omega⟩) (by rfl) (by rfl) (by rfl) (by rfl) (by rfl) (by rfl) (by rfl) (by rfl) ?_ ?_ ?_ ?_ ?_ ?_ ?_ ?_
  · intro s_1
    refine r_aload_n hC dX5_rowNumber_44 rfl ?_
    refine r_getR (j := 2) hC dX5_rowNumber_45 fl_X5_33 rfl rfl hS.o.o hS.o.p2 ?_
    refine r_getR (j := 0) hC dX5_rowNumber_48 fl_X5_177 rfl rfl hS.o.r.o hS.o.r.p0 ?_
    refine r_iload_n hC dX5_rowNumber_51 rfl ?_
    refine r_ialdv (v := m_num r k) hC dX5_rowNumber_52 hS.o.r.a0 ⟨by omega, by omega⟩ ha.1 ?_
    refine r_iret hC hR dX5_rowNumber_53 (le_b rfl) (le_b rfl) ?_
    refine ⟨congrArg (fun i => some (xI i)) ?_, rfl⟩
    first | (subst s_1; rfl) | (unfold m_rowV; rw [if_neg (by omega), if_neg (by omega), if_neg (by omega), if_neg (by omega), if_neg (by omega), if_neg (by omega), if_neg (by omega)])
  · intro s_1
    refine r_aload_n hC dX5_rowNumber_54 rfl ?_
    refine r_getR (j := 2) hC dX5_rowNumber_55 fl_X5_33 rfl rfl hS.o.o hS.o.p2 ?_
    refine r_getR (j := 1) hC dX5_rowNumber_58 fl_X5_246 rfl rfl hS.o.r.o hS.o.r.p1 ?_
    refine r_iload_n hC dX5_rowNumber_61 rfl ?_
    refine r_ialdv (v := m_write r k) hC dX5_rowNumber_62 hS.o.r.a1 ⟨by omega, by omega⟩ ha.2.1 ?_
    refine r_iret hC hR dX5_rowNumber_63 (le_b rfl) (le_b rfl) ?_
    refine ⟨congrArg (fun i => some (xI i)) ?_, rfl⟩
    first | (subst s_1; rfl) | (unfold m_rowV; rw [if_neg (by omega), if_neg (by omega), if_neg (by omega), if_neg (by omega), if_neg (by omega), if_neg (by omega), if_neg (by omega)])
  · intro s_1
    refine r_iload_n hC dX5_rowNumber_64 rfl ?_
    refine r_iret hC hR dX5_rowNumber_65 (le_b rfl) (le_b rfl) ?_
    refine ⟨congrArg (fun i => some (xI i)) ?_, rfl⟩
    first | (subst s_1; rfl) | (unfold m_rowV; rw [if_neg (by omega), if_neg (by omega), if_neg (by omega), if_neg (by omega), if_neg (by omega), if_neg (by omega), if_neg (by omega)])
  · intro s_1
    refine r_aload_n hC dX5_rowNumber_66 rfl ?_
    refine r_getR (j := 2) hC dX5_rowNumber_67 fl_X5_33 rfl rfl hS.o.o hS.o.p2 ?_
    refine r_getR (j := 2) hC dX5_rowNumber_70 fl_X5_224 rfl rfl hS.o.r.o hS.o.r.p2 ?_
    refine r_iload_n hC dX5_rowNumber_73 rfl ?_
    refine r_ialdv (v := m_topic r k) hC dX5_rowNumber_74 hS.o.r.a2 ⟨by omega, by omega⟩ ha.2.2.1 ?_
    refine r_iret hC hR dX5_rowNumber_75 (le_b rfl) (le_b rfl) ?_
    refine ⟨congrArg (fun i => some (xI i)) ?_, rfl⟩
    first | (subst s_1; rfl) | (unfold m_rowV; rw [if_neg (by omega), if_neg (by omega), if_neg (by omega), if_neg (by omega), if_neg (by omega), if_neg (by omega), if_neg (by omega)])
  · intro s_1
    refine r_aload_n hC dX5_rowNumber_76 rfl ?_
    refine r_getR (j := 2) hC dX5_rowNumber_77 fl_X5_33 rfl rfl hS.o.o hS.o.p2 ?_
    refine r_getR (j := 3) hC dX5_rowNumber_80 fl_X5_193 rfl rfl hS.o.r.o hS.o.r.p3 ?_
    refine r_iload_n hC dX5_rowNumber_83 rfl ?_
    refine r_ialdv (v := m_value r k) hC dX5_rowNumber_84 hS.o.r.a3 ⟨by omega, by omega⟩ ha.2.2.2.1 ?_
    refine r_iret hC hR dX5_rowNumber_85 (le_b rfl) (le_b rfl) ?_
    refine ⟨congrArg (fun i => some (xI i)) ?_, rfl⟩
    first | (subst s_1; rfl) | (unfold m_rowV; rw [if_neg (by omega), if_neg (by omega), if_neg (by omega), if_neg (by omega), if_neg (by omega), if_neg (by omega), if_neg (by omega)])
  · intro s_1
    refine r_aload_n hC dX5_rowNumber_86 rfl ?_
    refine r_getR (j := 2) hC dX5_rowNumber_87 fl_X5_33 rfl rfl hS.o.o hS.o.p2 ?_
    refine r_getR (j := 4) hC dX5_rowNumber_90 fl_X5_187 rfl rfl hS.o.r.o hS.o.r.p4 ?_
    refine r_iload_n hC dX5_rowNumber_93 rfl ?_
    refine r_ialdv (v := b_and (b_shr (r (97 + 3 * k + 2)) 1) 7) hC dX5_rowNumber_94 hS.o.r.a4 ⟨by omega, by omega⟩ ha.2.2.2.2.1 ?_
    refine r_iret hC hR dX5_rowNumber_95 (le_b rfl) (le_b rfl) ?_
    refine ⟨congrArg (fun i => some (xI i)) ?_, rfl⟩
    first | (subst s_1; rfl) | (unfold m_rowV; rw [if_neg (by omega), if_neg (by omega), if_neg (by omega), if_neg (by omega), if_neg (by omega), if_neg (by omega), if_neg (by omega)])
  · intro s_1
    refine r_aload_n hC dX5_rowNumber_96 rfl ?_
    refine r_iload_n hC dX5_rowNumber_97 rfl ?_
    refine r_V0 hC dX5_rowNumber_98 mi_X5_answeredBy se_X5_answeredBy ml_X5_231 (rm := rmX5_answeredBy) rfl hS.o.o rfl rfl rfl rfl ⟨le_b rfl, le_b rfl⟩ (k_St_ansBy hfC hS hB hk) ?_ rfl
    refine r_iret hC hR dX5_rowNumber_101 (le_b rfl) (le_b rfl) ?_
    refine ⟨congrArg (fun i => some (xI i)) ?_, rfl⟩
    first | (subst s_1; rfl) | (unfold m_rowV; rw [if_neg (by omega), if_neg (by omega), if_neg (by omega), if_neg (by omega), if_neg (by omega), if_neg (by omega), if_neg (by omega)])
  · intro n_1
    refine r_aload_n hC dX5_rowNumber_102 rfl ?_
    refine r_iload_n hC dX5_rowNumber_103 rfl ?_
    refine r_V0 hC dX5_rowNumber_104 mi_X5_whyItStays se_X5_whyItStays ml_X5_247 (rm := rmX5_whyItStays) rfl hS.o.o rfl rfl rfl rfl ⟨le_b rfl, le_b rfl⟩ (k_St_why hfC hS hB hk) ?_ rfl
    refine r_iret hC hR dX5_rowNumber_107 (le_b rfl) (le_b rfl) ?_
    refine ⟨congrArg (fun i => some (xI i)) ?_, rfl⟩
    first | (subst s_1; rfl) | (unfold m_rowV; rw [if_neg (by omega), if_neg (by omega), if_neg (by omega), if_neg (by omega), if_neg (by omega), if_neg (by omega), if_neg (by omega)])

abbrev rmX5_sumDue : Room := { frames := 1, cells := 0, slots := 0, locals := 21 }
set_option maxRecDepth 100000 in
theorem k_St_sumDue {l : Launch} {D : DD} (hfl : l.stackTraces = false) {u : Mem} {a : Nat} {r : RW} (hS : RS u a r) (hB : IB r) {c : Nat} (hc : c < 3) : CT l D yX5_sumDue cX5_sumDue 4 (some .int) rmX5_sumDue [xA a, xA (a + 28 + 2 * c)] u (RT (xI (m_should r c)) u) := by
  have b2 := hB.co.1
  have b3 := hB.co.2.1
  have bk := hB.co.2.2.1
  have rf := hB.rf
  have hc2 := hS.c hc
  obtain ⟨N, hN2⟩ : ∃ N : Nat, r 2 = N := ⟨(r 2).toNat, by omega⟩
  refine CT.of hfl (by decide) (le_b rfl) ?_
  intro C hC hR hL hDD hN
  have hfC : (cxL C).stackTraces = false := by rw [hL]; exact hfl
  have lp : ∀ (n : Nat) (i : Nat) (s : Int), (N - i = n) → (i ≤ N) → (s = m_shouldL r c i) → VW C 4 [some (xA a), some (xA (a + 28 + 2 * c)), some (xI s), some (xI i)] [] u 0 0 := by
    intro n
    induction n using Nat.strongRecOn with
    | _ n ih =>
      intro i s hn hi hs
      have hk : i < N → (i : Int) < r 2 := fun z => by omega
      have ha := fun z => hS.r.2.2.2.1 i (hk z)
      refine r_iload_n hC dX5_sumDue_4 rfl ?_
      refine r_aload_n hC dX5_sumDue_5 rfl ?_
      refine r_getR (j := 2) hC dX5_sumDue_6 fl_X5_33 rfl rfl hS.o.o hS.o.p2 ?_
      refine r_getIv (j := 7) (v := N) hC dX5_sumDue_9 fl_X5_95 rfl rfl hS.o.r.o (hS.r.1.trans hN2) ?_
      refine r_icmp_ge (t := 65) hC dX5_sumDue_12 (by rfl) (by first | with_reducible exact rg_mI _ _ _ | assumption | with_reducible exact rf_at rf _ | with_reducible exact rg_of rf _ _ | with_reducible exact rg_its rf _ _ | with_reducible exact rg_way rf _ _ | with_reducible exact rg_and _ _ | with_reducible exact rg_or _ _ | exact ⟨by omega, by omega⟩) (by first | with_reducible exact rg_mI _ _ _ | assumption | with_reducible exact rf_at rf _ | with_reducible exact rg_of rf _ _ | with_reducible exact rg_its rf _ _ | with_reducible exact rg_way rf _ _ | with_reducible exact rg_and _ _ | with_reducible exact rg_or _ _ | exact ⟨by omega, by omega⟩) (fun h_12 => ?_) (fun h_12 => ?_)
      · skip
        refine r_iload_n hC dX5_sumDue_65 rfl ?_
        refine r_iret hC hR dX5_sumDue_66 (le_b rfl) (le_b rfl) ?_
        refine ⟨congrArg (fun i => some (xI i)) ?_, rfl⟩
        unfold m_should; rw [hs, show (r 2).toNat = i by omega]
      · skip
        refine r_aload_n hC dX5_sumDue_15 rfl ?_
        refine r_aload_n hC dX5_sumDue_16 rfl ?_
        refine r_getR (j := 2) hC dX5_sumDue_17 fl_X5_33 rfl rfl hS.o.o hS.o.p2 ?_
        refine r_getR (j := 2) hC dX5_sumDue_20 fl_X5_224 rfl rfl hS.o.r.o hS.o.r.p2 ?_
        refine r_iload_n hC dX5_sumDue_23 rfl ?_
        refine r_ialdv (v := m_topic r i) hC dX5_sumDue_24 hS.o.r.a2 ⟨by omega, by omega⟩ (ha (by omega)).2.2.1 ?_
        refine r_V0 hC dX5_sumDue_25 mi_X3_wants se_X3_wants ml_X5_225 (rm := rmX3_wants) rfl (hS.o.c hc).o rfl rfl rfl rfl ⟨le_b rfl, le_b rfl⟩ (k_Re_wants2 (c := (c : Int)) hfC (hS.o.c hc) hc2.2.1) ?_ rfl
        refine r_beq (t := 59) hC dX5_sumDue_28 (by rfl) (fun h_28 => ?_) (fun h_28 => ?_)
        · skip
          refine r_iinc (lv' := [_, _, _, _]) hC dX5_sumDue_59 rfl (lt_b rfl) rfl (lt_b rfl) rfl ?_
          refine r_goto (t := 4) hC dX5_sumDue_62 (by rfl) ?_
          exact ih _ (by omega) (i + 1) _ rfl (by omega) (by simp only [m_shouldL]; first | (rw [if_pos ⟨h_28, by omega⟩, hs]; done) | (rw [if_neg (fun z => h_28 z.1), hs]; omega) | (rw [if_neg (fun z => by have := z.2; omega), hs]; omega))
        · skip
          refine r_aload_n hC dX5_sumDue_31 rfl ?_
          refine r_getR (j := 2) hC dX5_sumDue_32 fl_X5_33 rfl rfl hS.o.o hS.o.p2 ?_
          refine r_getR (j := 0) hC dX5_sumDue_35 fl_X5_177 rfl rfl hS.o.r.o hS.o.r.p0 ?_
          refine r_iload_n hC dX5_sumDue_38 rfl ?_
          refine r_ialdv (v := m_num r i) hC dX5_sumDue_39 hS.o.r.a0 ⟨by omega, by omega⟩ (ha (by omega)).1 ?_
          refine r_aload_n hC dX5_sumDue_40 rfl ?_
          refine r_getIv (j := 3) (v := m_of r c 1) hC dX5_sumDue_41 fl_X5_263 rfl rfl (hS.o.c hc).o hc2.2.2.1 ?_
          refine r_icmp_gt (t := 59) hC dX5_sumDue_44 (by rfl) (num_rg rf hB.ro (hk (by omega))) (rg_of rf _ _) (fun h_44 => ?_) (fun h_44 => ?_)
          · skip
            refine r_iinc (lv' := [_, _, _, _]) hC dX5_sumDue_59 rfl (lt_b rfl) rfl (lt_b rfl) rfl ?_
            refine r_goto (t := 4) hC dX5_sumDue_62 (by rfl) ?_
            exact ih _ (by omega) (i + 1) _ rfl (by omega) (by simp only [m_shouldL]; first | (rw [if_pos ⟨h_28, by omega⟩, hs]; done) | (rw [if_neg (fun z => h_28 z.1), hs]; omega) | (rw [if_neg (fun z => by have := z.2; omega), hs]; omega))
          · skip
            refine r_iload_n hC dX5_sumDue_47 rfl ?_
            refine r_aload_n hC dX5_sumDue_48 rfl ?_
            refine r_getR (j := 2) hC dX5_sumDue_49 fl_X5_33 rfl rfl hS.o.o hS.o.p2 ?_
            refine r_getR (j := 3) hC dX5_sumDue_52 fl_X5_193 rfl rfl hS.o.r.o hS.o.r.p3 ?_
            refine r_iload_n hC dX5_sumDue_55 rfl ?_
            refine r_ialdv (v := m_value r i) hC dX5_sumDue_56 hS.o.r.a3 ⟨by omega, by omega⟩ (ha (by omega)).2.2.2.1 ?_
            refine r_iadd hC dX5_sumDue_57 ?_
            refine r_istore_n (lv' := [_, _, _, _]) hC dX5_sumDue_58 (lt_b rfl) rfl (lt_b rfl) rfl ?_
            refine r_iinc (lv' := [_, _, _, _]) hC dX5_sumDue_59 rfl (lt_b rfl) rfl (lt_b rfl) rfl ?_
            refine r_goto (t := 4) hC dX5_sumDue_62 (by rfl) ?_
            exact ih _ (by omega) (i + 1) _ rfl (by omega) (by simp only [m_shouldL]; first | (rw [if_pos ⟨h_28, by omega⟩, hs]; done) | (rw [if_neg (fun z => h_28 z.1), hs]; omega) | (rw [if_neg (fun z => by have := z.2; omega), hs]; omega))
  show VW C 0 [some (xA a), some (xA (a + 28 + 2 * c)), none, none] [] u 0 0
  refine r_iconst hC dX5_sumDue_0 ?_
  refine r_istore_n (lv' := [_, _, _, _]) hC dX5_sumDue_1 (lt_b rfl) rfl (lt_b rfl) rfl ?_
  refine r_iconst hC dX5_sumDue_2 ?_
  refine r_istore_n (lv' := [_, _, _, _]) hC dX5_sumDue_3 (lt_b rfl) rfl (lt_b rfl) rfl ?_
  exact lp _ 0 _ rfl (by omega) rfl

theorem c_onL_sum {u : Mem} {b : Nat} {r : RW} (h : RSl u b r) (c : Int) : c_onL u b c (r 9).toNat = m_onway r c := by
  obtain ⟨-, -, -, -, -, -, s, hs, hm⟩ := h
  rw [onway_at rfl hs c]
  have : ∀ n, n ≤ (r 9).toNat → c_onL u b c n = sumN (fun j => if m_way r (s j) 1 = c then 1 else 0) n := by
    intro n
    induction n with
    | zero => intro _; rfl
    | succ n ih =>
      intro hn
      simp only [c_onL, sumN]
      rw [ih (by omega), (hm n (by omega)).2.1]
      split <;> omega
  exact this _ (Nat.le_refl _)
abbrev rmX5_receiverNumber : Room := { frames := 3, cells := 0, slots := 0, locals := 66 }
set_option maxRecDepth 100000 in
theorem k_St_recv {l : Launch} {D : DD} (hfl : l.stackTraces = false) {u : Mem} {a : Nat} {r : RW} (hS : RS u a r) (hB : IB r) {c : Nat} {w : Int} (hc : c < 3) (hw : 0 ≤ w ∧ w ≤ 13) : CT l D yX5_receiverNumber cX5_receiverNumber 3 (some .int) rmX5_receiverNumber [xA a, xI c, xI w] u (RT (xI (m_recvV r c w)) u) := by
  have b2 := hB.co.1
  have b3 := hB.co.2.1
  have bk := hB.co.2.2.1
  have rf := hB.rf
  have hc2 := hS.c hc
  have h9 := hB.co.2.2.2.1
  have h54 := hB.ni
  have hw9 := (hB.re c hc).2.2.2.2.1
  refine CT.of hfl (by decide) (le_b rfl) ?_
  intro C hC hR hL hDD hN
  have hfC : (cxL C).stackTraces = false := by rw [hL]; exact hfl
  show VW C 0 [some (xA a), some (xI c), some (xI w)] [] u 0 0
  refine r_iload_n hC dX5_receiverNumber_0 rfl ?_
  refine r_tb4 (td := 58) (t0 := 32) (t1 := 58) (t2 := 38) (t3 := 49) hC dX5_receiverNumber_1 (by rfl) (by first | with_reducible exact rg_mI _ _ _ | assumption | with_reducible exact rf_at rf _ | with_reducible exact rg_of rf _ _ | with_reducible exact rg_its rf _ _ | with_reducible exact rg_way rf _ _ | with_reducible exact rg_and _ _ | with_reducible exact rg_or _ _ | exact ⟨by omega, by omega⟩) (by rfl) (by rfl) (by rfl) (by rfl) (by rfl) ?_ ?_ ?_ ?_ ?_
  · intro s_1
    refine r_aload_n hC dX5_receiverNumber_32 rfl ?_
    refine r_iload_n hC dX5_receiverNumber_33 rfl ?_
    refine r_V0 hC dX5_receiverNumber_34 mi_X5_rowsFor se_X5_rowsFor ml_X5_250 (rm := rmX5_rowsFor) rfl hS.o.o rfl rfl rfl rfl ⟨le_b rfl, le_b rfl⟩ (k_St_rowsFor hfC hS hB hc) ?_ rfl
    refine r_iret hC hR dX5_receiverNumber_37 (le_b rfl) (le_b rfl) ?_
    refine ⟨congrArg (fun i => some (xI i)) ?_, rfl⟩
    subst s_1; rfl
  · intro s_1
    refine r_aload_n hC dX5_receiverNumber_58 rfl ?_
    refine r_getR (j := 3) hC dX5_receiverNumber_59 fl_X5_39 rfl rfl hS.o.o hS.o.p3 ?_
    refine r_iload_n hC dX5_receiverNumber_62 rfl ?_
    refine r_aald hC dX5_receiverNumber_63 hS.o.a3 (le_b rfl) (lt_b rfl) ⟨by omega, by omega⟩ (hS.o.pc hc) ?_
    refine r_iload_n hC dX5_receiverNumber_64 rfl ?_
    refine r_V0 hC dX5_receiverNumber_65 mi_X3_tell se_X3_tell ml_X5_260 (rm := rmX3_tell) rfl (hS.o.c hc).o rfl rfl rfl rfl ⟨le_b rfl, le_b rfl⟩ (k_Re_tell hfC (hS.o.c hc) ⟨by omega, by omega⟩ (by rw [hc2.2.2.2.2.2.2.2.2.2.2.1]; exact hw9)) ?_ rfl
    refine r_iret hC hR dX5_receiverNumber_68 (le_b rfl) (le_b rfl) ?_
    refine ⟨congrArg (fun i => some (xI i)) ?_, rfl⟩
    have hx : (if w = 0 then mI u (a + 28 + 2 * c) 2 else if w = 1 then mI u (a + 28 + 2 * c) 3 else if w = 2 then mI u (a + 28 + 2 * c) 1 else if w = 3 then mI u (a + 28 + 2 * c) 4 else if w = 4 then mI u (a + 28 + 2 * c) 5 else if w = 5 then mI u (a + 28 + 2 * c) 6 else if w = 6 then mI u (a + 28 + 2 * c) 7 else if w = 7 then mI u (a + 28 + 2 * c) 8 else if w = 8 then mI u (a + 28 + 2 * c) 10 else if w = 9 then mI u (a + 28 + 2 * c) 11 else mI u (a + 28 + 2 * c) 9) = m_recvV r c w := by
      have h11 : w = 0 ∨ w = 1 ∨ w = 2 ∨ w = 3 ∨ w = 4 ∨ w = 5 ∨ w = 6 ∨ w = 7 ∨ w = 8 ∨ w = 9 ∨ w = 11 := by omega
      rcases h11 with rfl | rfl | rfl | rfl | rfl | rfl | rfl | rfl | rfl | rfl | rfl
      · exact hc2.2.1
      · exact hc2.2.2.1
      · exact hc2.1
      · exact hc2.2.2.2.1
      · exact hc2.2.2.2.2.1
      · exact hc2.2.2.2.2.2.1
      · exact hc2.2.2.2.2.2.2.1
      · exact hc2.2.2.2.2.2.2.2.1
      · exact hc2.2.2.2.2.2.2.2.2.2.1
      · exact hc2.2.2.2.2.2.2.2.2.2.2.1
      · exact hc2.2.2.2.2.2.2.2.2.1
    exact hx
  · intro s_1
    refine r_aload_n hC dX5_receiverNumber_38 rfl ?_
    refine r_aload_n hC dX5_receiverNumber_39 rfl ?_
    refine r_getR (j := 3) hC dX5_receiverNumber_40 fl_X5_39 rfl rfl hS.o.o hS.o.p3 ?_
    refine r_iload_n hC dX5_receiverNumber_43 rfl ?_
    refine r_aald hC dX5_receiverNumber_44 hS.o.a3 (le_b rfl) (lt_b rfl) ⟨by omega, by omega⟩ (hS.o.pc hc) ?_
    refine r_V0 hC dX5_receiverNumber_45 mi_X5_sumDue se_X5_sumDue ml_X5_253 (rm := rmX5_sumDue) rfl hS.o.o rfl rfl rfl rfl ⟨le_b rfl, le_b rfl⟩ (k_St_sumDue hfC hS hB hc) ?_ rfl
    refine r_iret hC hR dX5_receiverNumber_48 (le_b rfl) (le_b rfl) ?_
    refine ⟨congrArg (fun i => some (xI i)) ?_, rfl⟩
    subst s_1; rfl
  · intro s_1
    refine r_aload_n hC dX5_receiverNumber_49 rfl ?_
    refine r_getR (j := 4) hC dX5_receiverNumber_50 fl_X5_47 rfl rfl hS.o.o hS.o.p4 ?_
    refine r_iload_n hC dX5_receiverNumber_53 rfl ?_
    refine r_V0 hC dX5_receiverNumber_54 mi_X0_onWayOf se_X0_onWayOf ml_X5_257 (rm := rmX0_onWayOf) rfl hS.o.l.o rfl rfl rfl rfl ⟨le_b rfl, le_b rfl⟩ (k_Ma_onWay hfC hS.o.l ⟨by omega, by omega⟩ (by rw [hS.l.1]; exact ⟨by omega, by omega⟩)) ?_ rfl
    refine r_iret hC hR dX5_receiverNumber_57 (le_b rfl) (le_b rfl) ?_
    refine ⟨congrArg (fun i => some (xI i)) ?_, rfl⟩
    subst s_1; rw [show (mI u (a + 34) 1).toNat = (r 9).toNat by rw [hS.l.1]]; exact c_onL_sum hS.l c
  · intro n_1
    refine r_aload_n hC dX5_receiverNumber_58 rfl ?_
    refine r_getR (j := 3) hC dX5_receiverNumber_59 fl_X5_39 rfl rfl hS.o.o hS.o.p3 ?_
    refine r_iload_n hC dX5_receiverNumber_62 rfl ?_
    refine r_aald hC dX5_receiverNumber_63 hS.o.a3 (le_b rfl) (lt_b rfl) ⟨by omega, by omega⟩ (hS.o.pc hc) ?_
    refine r_iload_n hC dX5_receiverNumber_64 rfl ?_
    refine r_V0 hC dX5_receiverNumber_65 mi_X3_tell se_X3_tell ml_X5_260 (rm := rmX3_tell) rfl (hS.o.c hc).o rfl rfl rfl rfl ⟨le_b rfl, le_b rfl⟩ (k_Re_tell hfC (hS.o.c hc) ⟨by omega, by omega⟩ (by rw [hc2.2.2.2.2.2.2.2.2.2.2.1]; exact hw9)) ?_ rfl
    refine r_iret hC hR dX5_receiverNumber_68 (le_b rfl) (le_b rfl) ?_
    refine ⟨congrArg (fun i => some (xI i)) ?_, rfl⟩
    have hx : (if w = 0 then mI u (a + 28 + 2 * c) 2 else if w = 1 then mI u (a + 28 + 2 * c) 3 else if w = 2 then mI u (a + 28 + 2 * c) 1 else if w = 3 then mI u (a + 28 + 2 * c) 4 else if w = 4 then mI u (a + 28 + 2 * c) 5 else if w = 5 then mI u (a + 28 + 2 * c) 6 else if w = 6 then mI u (a + 28 + 2 * c) 7 else if w = 7 then mI u (a + 28 + 2 * c) 8 else if w = 8 then mI u (a + 28 + 2 * c) 10 else if w = 9 then mI u (a + 28 + 2 * c) 11 else mI u (a + 28 + 2 * c) 9) = m_recvV r c w := by
      have h11 : w = 0 ∨ w = 1 ∨ w = 2 ∨ w = 3 ∨ w = 4 ∨ w = 5 ∨ w = 6 ∨ w = 7 ∨ w = 8 ∨ w = 9 ∨ w = 11 := by omega
      rcases h11 with rfl | rfl | rfl | rfl | rfl | rfl | rfl | rfl | rfl | rfl | rfl
      · exact hc2.2.1
      · exact hc2.2.2.1
      · exact hc2.1
      · exact hc2.2.2.2.1
      · exact hc2.2.2.2.2.1
      · exact hc2.2.2.2.2.2.1
      · exact hc2.2.2.2.2.2.2.1
      · exact hc2.2.2.2.2.2.2.2.1
      · exact hc2.2.2.2.2.2.2.2.2.2.1
      · exact hc2.2.2.2.2.2.2.2.2.2.2.1
      · exact hc2.2.2.2.2.2.2.2.2.1
    exact hx

abbrev rmX5_counted : Room := { frames := 1, cells := 0, slots := 0, locals := 22 }
set_option maxRecDepth 100000 in
theorem k_St_count {l : Launch} {D : DD} (hfl : l.stackTraces = false) {u : Mem} {a : Nat} {r : RW} (hS : RS u a r) (hB : IB r) {w t : Int} (hw : 0 ≤ w ∧ w ≤ 10) : CT l D yX5_counted cX5_counted 2 (some .int) rmX5_counted [xA a, xI w] u (RT (xI (m_countV r t w)) u) := by
  have b2 := hB.co.1
  have b3 := hB.co.2.1
  have bk := hB.co.2.2.1
  have rf := hB.rf
  refine CT.of hfl (by decide) (le_b rfl) ?_
  intro C hC hR hL hDD hN
  have hfC : (cxL C).stackTraces = false := by rw [hL]; exact hfl
  show VW C 0 [some (xA a), some (xI w)] [] u 0 0
  refine r_iload_n hC dX5_counted_0 rfl ?_
  refine r_tb10 (td := 130) (t0 := 56) (t1 := 61) (t2 := 66) (t3 := 74) (t4 := 82) (t5 := 90) (t6 := 98) (t7 := 106) (t8 := 114) (t9 := 122) hC dX5_counted_1 (by rfl) (by first | with_reducible exact rg_mI _ _ _ | assumption | with_reducible exact rf_at rf _ | with_reducible exact rg_of rf _ _ | with_reducible exact rg_its rf _ _ | with_reducible exact rg_way rf _ _ | with_reducible exact rg_and _ _ | with_reducible exact rg_or _ _ | exact ⟨by omega, by omega⟩) (by rfl) (by rfl) (by rfl) (by rfl) (by rfl) (by rfl) (by rfl) (by rfl) (by rfl) (by rfl) (by rfl) ?_ ?_ ?_ ?_ ?_ ?_ ?_ ?_ ?_ ?_ ?_
  · intro s_1
    refine r_aload_n hC dX5_counted_56 rfl ?_
    refine r_getIv (j := 5) (v := r 0) hC dX5_counted_57 fl_X5_51 rfl rfl hS.o.o hS.tick ?_
    refine r_iret hC hR dX5_counted_60 (le_b rfl) (le_b rfl) ?_
    refine ⟨congrArg (fun i => some (xI i)) ?_, rfl⟩
    first | (subst s_1; rfl) | (unfold m_countV; rw [if_neg (by omega), if_neg (by omega), if_neg (by omega), if_neg (by omega), if_neg (by omega), if_neg (by omega), if_neg (by omega), if_neg (by omega), if_pos (by omega)])
  · intro s_1
    refine r_aload_n hC dX5_counted_61 rfl ?_
    refine r_getIv (j := 6) (v := r 1) hC dX5_counted_62 fl_X5_55 rfl rfl hS.o.o hS.writ ?_
    refine r_iret hC hR dX5_counted_65 (le_b rfl) (le_b rfl) ?_
    refine ⟨congrArg (fun i => some (xI i)) ?_, rfl⟩
    first | (subst s_1; rfl) | (unfold m_countV; rw [if_neg (by omega), if_neg (by omega), if_neg (by omega), if_neg (by omega), if_neg (by omega), if_neg (by omega), if_neg (by omega), if_neg (by omega), if_pos (by omega)])
  · intro s_1
    refine r_aload_n hC dX5_counted_66 rfl ?_
    refine r_getR (j := 2) hC dX5_counted_67 fl_X5_33 rfl rfl hS.o.o hS.o.p2 ?_
    refine r_getIv (j := 7) (v := r 2) hC dX5_counted_70 fl_X5_95 rfl rfl hS.o.r.o hS.r.1 ?_
    refine r_iret hC hR dX5_counted_73 (le_b rfl) (le_b rfl) ?_
    refine ⟨congrArg (fun i => some (xI i)) ?_, rfl⟩
    first | (subst s_1; rfl) | (unfold m_countV; rw [if_neg (by omega), if_neg (by omega), if_neg (by omega), if_neg (by omega), if_neg (by omega), if_neg (by omega), if_neg (by omega), if_neg (by omega), if_pos (by omega)])
  · intro s_1
    refine r_aload_n hC dX5_counted_74 rfl ?_
    refine r_getR (j := 2) hC dX5_counted_75 fl_X5_33 rfl rfl hS.o.o hS.o.p2 ?_
    refine r_getIv (j := 8) (v := m_kept r) hC dX5_counted_78 fl_X5_92 rfl rfl hS.o.r.o hS.r.2.1 ?_
    refine r_iret hC hR dX5_counted_81 (le_b rfl) (le_b rfl) ?_
    refine ⟨congrArg (fun i => some (xI i)) ?_, rfl⟩
    first | (subst s_1; rfl) | (unfold m_countV; rw [if_neg (by omega), if_neg (by omega), if_neg (by omega), if_neg (by omega), if_neg (by omega), if_neg (by omega), if_neg (by omega), if_neg (by omega), if_pos (by omega)])
  · intro s_1
    refine r_aload_n hC dX5_counted_82 rfl ?_
    refine r_getR (j := 2) hC dX5_counted_83 fl_X5_33 rfl rfl hS.o.o hS.o.p2 ?_
    refine r_getIv (j := 9) (v := r 3) hC dX5_counted_86 fl_X5_237 rfl rfl hS.o.r.o hS.r.2.2.1 ?_
    refine r_iret hC hR dX5_counted_89 (le_b rfl) (le_b rfl) ?_
    refine ⟨congrArg (fun i => some (xI i)) ?_, rfl⟩
    first | (subst s_1; rfl) | (unfold m_countV; rw [if_neg (by omega), if_neg (by omega), if_neg (by omega), if_neg (by omega), if_neg (by omega), if_neg (by omega), if_neg (by omega), if_neg (by omega), if_pos (by omega)])
  · intro s_1
    refine r_aload_n hC dX5_counted_90 rfl ?_
    refine r_getR (j := 4) hC dX5_counted_91 fl_X5_47 rfl rfl hS.o.o hS.o.p4 ?_
    refine r_getIv (j := 2) (v := r 4) hC dX5_counted_94 fl_X5_266 rfl rfl hS.o.l.o hS.l.2.1 ?_
    refine r_iret hC hR dX5_counted_97 (le_b rfl) (le_b rfl) ?_
    refine ⟨congrArg (fun i => some (xI i)) ?_, rfl⟩
    first | (subst s_1; rfl) | (unfold m_countV; rw [if_neg (by omega), if_neg (by omega), if_neg (by omega), if_neg (by omega), if_neg (by omega), if_neg (by omega), if_neg (by omega), if_neg (by omega), if_pos (by omega)])
  · intro s_1
    refine r_aload_n hC dX5_counted_98 rfl ?_
    refine r_getR (j := 4) hC dX5_counted_99 fl_X5_47 rfl rfl hS.o.o hS.o.p4 ?_
    refine r_getIv (j := 3) (v := r 5) hC dX5_counted_102 fl_X5_269 rfl rfl hS.o.l.o hS.l.2.2.1 ?_
    refine r_iret hC hR dX5_counted_105 (le_b rfl) (le_b rfl) ?_
    refine ⟨congrArg (fun i => some (xI i)) ?_, rfl⟩
    first | (subst s_1; rfl) | (unfold m_countV; rw [if_neg (by omega), if_neg (by omega), if_neg (by omega), if_neg (by omega), if_neg (by omega), if_neg (by omega), if_neg (by omega), if_neg (by omega), if_pos (by omega)])
  · intro s_1
    refine r_aload_n hC dX5_counted_106 rfl ?_
    refine r_getR (j := 4) hC dX5_counted_107 fl_X5_47 rfl rfl hS.o.o hS.o.p4 ?_
    refine r_getIv (j := 1) (v := r 9) hC dX5_counted_110 fl_X5_243 rfl rfl hS.o.l.o hS.l.1 ?_
    refine r_iret hC hR dX5_counted_113 (le_b rfl) (le_b rfl) ?_
    refine ⟨congrArg (fun i => some (xI i)) ?_, rfl⟩
    first | (subst s_1; rfl) | (unfold m_countV; rw [if_neg (by omega), if_neg (by omega), if_neg (by omega), if_neg (by omega), if_neg (by omega), if_neg (by omega), if_neg (by omega), if_neg (by omega), if_pos (by omega)])
  · intro s_1
    refine r_aload_n hC dX5_counted_114 rfl ?_
    refine r_getR (j := 4) hC dX5_counted_115 fl_X5_47 rfl rfl hS.o.o hS.o.p4 ?_
    refine r_getIv (j := 4) (v := r 6) hC dX5_counted_118 fl_X5_272 rfl rfl hS.o.l.o hS.l.2.2.2.1 ?_
    refine r_iret hC hR dX5_counted_121 (le_b rfl) (le_b rfl) ?_
    refine ⟨congrArg (fun i => some (xI i)) ?_, rfl⟩
    first | (subst s_1; rfl) | (unfold m_countV; rw [if_neg (by omega), if_neg (by omega), if_neg (by omega), if_neg (by omega), if_neg (by omega), if_neg (by omega), if_neg (by omega), if_neg (by omega), if_pos (by omega)])
  · intro s_1
    refine r_aload_n hC dX5_counted_122 rfl ?_
    refine r_getR (j := 4) hC dX5_counted_123 fl_X5_47 rfl rfl hS.o.o hS.o.p4 ?_
    refine r_getIv (j := 6) (v := r 7) hC dX5_counted_126 fl_X5_160 rfl rfl hS.o.l.o hS.l.2.2.2.2.2.1 ?_
    refine r_iret hC hR dX5_counted_129 (le_b rfl) (le_b rfl) ?_
    refine ⟨congrArg (fun i => some (xI i)) ?_, rfl⟩
    first | (subst s_1; rfl) | (unfold m_countV; rw [if_neg (by omega), if_neg (by omega), if_neg (by omega), if_neg (by omega), if_neg (by omega), if_neg (by omega), if_neg (by omega), if_neg (by omega), if_pos (by omega)])
  · intro n_1
    refine r_aload_n hC dX5_counted_130 rfl ?_
    refine r_V0 hC dX5_counted_131 mi_X5_openTransactions se_X5_openTransactions ml_X5_275 (rm := rmX5_openTransactions) rfl hS.o.o rfl rfl rfl rfl ⟨le_b rfl, le_b rfl⟩ (k_St_openN hfC hS hB) ?_ rfl
    refine r_iret hC hR dX5_counted_134 (le_b rfl) (le_b rfl) ?_
    refine ⟨congrArg (fun i => some (xI i)) ?_, rfl⟩
    first | (subst s_1; rfl) | (unfold m_countV; rw [if_neg (by omega), if_neg (by omega), if_neg (by omega), if_neg (by omega), if_neg (by omega), if_neg (by omega), if_neg (by omega), if_neg (by omega), if_pos (by omega)])

abbrev rmX5_skipped : Room := { frames := 2, cells := 0, slots := 0, locals := 42 }
set_option maxRecDepth 100000 in
theorem k_St_skip {l : Launch} {D : DD} (hfl : l.stackTraces = false) {u : Mem} {a : Nat} {r : RW} (hS : RS u a r) (hB : IB r) {c : Nat} {p : Int} (hp : rg p) (hc : c < 3) : CT l D yX5_skipped cX5_skipped 9 (some .int) rmX5_skipped [xA a, xI p, xI c] u (RT (xI (m_skip r p c)) u) := by
  have b2 := hB.co.1
  have b3 := hB.co.2.1
  have bk := hB.co.2.2.1
  have rf := hB.rf
  have hc2 := hS.c hc
  have hse := hB.se.1
  refine CT.of hfl (by decide) (le_b rfl) ?_
  intro C hC hR hL hDD hN
  have hfC : (cxL C).stackTraces = false := by rw [hL]; exact hfl
  show VW C 0 [some (xA a), some (xI p), some (xI c), none, none, none, none, none, none] [] u 0 0
  refine r_aload_n hC dX5_skipped_0 rfl ?_
  refine r_iload_n hC dX5_skipped_1 rfl ?_
  refine r_V0 hC dX5_skipped_2 mi_X5_isOpen se_X5_isOpen ml_X5_85 (rm := rmX5_isOpen) rfl hS.o.o rfl rfl rfl rfl ⟨le_b rfl, le_b rfl⟩ (k_St_isOpen hfC hS hB hp) ?_ rfl
  refine r_beq (t := 16) hC dX5_skipped_5 (by rfl) (fun h_5 => ?_) (fun h_5 => ?_)
  · skip
    refine r_iconst hC dX5_skipped_16 ?_
    refine r_iret hC hR dX5_skipped_17 (le_b rfl) (le_b rfl) ?_
    refine ⟨congrArg (fun i => some (xI i)) ?_, rfl⟩
    first | (exfalso; omega) | (unfold m_skip; rw [if_pos (by simpa using h_5)])
  · skip
    have hop := h_5
    refine r_iload_n hC dX5_skipped_8 rfl ?_
    refine r_iconst hC dX5_skipped_9 ?_
    refine r_SN0 hC dX5_skipped_10 mi_X7_isBelow ss_X7_isBelow mn_X5_81 (rm := rmX7_isBelow) rfl rfl rfl ⟨le_b rfl, le_b rfl⟩ (k_isBelow hfC ⟨by omega, by omega⟩ ⟨by omega, by omega⟩) ?_ rfl
    refine r_bne (t := 18) hC dX5_skipped_13 (by rfl) (fun h_13 => ?_) (fun h_13 => ?_)
    · skip
      obtain ⟨q, rfl, hq4, hq1⟩ := open_q hop
      have ht := hS.t hq4
      have hpl := (hB.pl q hq4).2.1
      obtain ⟨N, hN⟩ : ∃ N : Nat, m_its r q 1 = N := ⟨(m_its r q 1).toNat, by omega⟩
      have lp : ∀ (bw : Int), (bw = if r 10 = 1 then 1 else 0) → ∀ (n : Nat) (i : Nat) (s : Int) (w : Option SV), N - i = n → i ≤ N → s = m_skipL r q c i → VW C 56 [some (xA a), some (xI q), some (xI c), some (xA (a + 3 + 4 * q)), some (xA (a + 28 + 2 * c)), some (xI bw), some (xI s), some (xI i), w] [] u 0 0 := by
        intro bw hbw n
        induction n using Nat.strongRecOn with
        | _ n ih =>
          intro i s w hn hi hs
          have hti := fun z : i < N => ht.2.2 i (by omega)
          refine r_iload hC dX5_skipped_56 rfl ?_
          refine r_aload_n hC dX5_skipped_58 rfl ?_
          refine r_getIv (j := 4) (v := N) hC dX5_skipped_59 fl_X5_89 rfl rfl (hS.o.t hq4).o (by rw [← hN]; exact ht.2.1) ?_
          refine r_icmp_ge (t := 126) hC dX5_skipped_62 (by rfl) (by first | with_reducible exact rg_mI _ _ _ | assumption | with_reducible exact rf_at rf _ | with_reducible exact rg_of rf _ _ | with_reducible exact rg_its rf _ _ | with_reducible exact rg_way rf _ _ | with_reducible exact rg_and _ _ | with_reducible exact rg_or _ _ | exact ⟨by omega, by omega⟩) (by first | with_reducible exact rg_mI _ _ _ | assumption | with_reducible exact rf_at rf _ | with_reducible exact rg_of rf _ _ | with_reducible exact rg_its rf _ _ | with_reducible exact rg_way rf _ _ | with_reducible exact rg_and _ _ | with_reducible exact rg_or _ _ | exact ⟨by omega, by omega⟩) (fun h_62 => ?_) (fun h_62 => ?_)
          · skip
            refine r_iload hC dX5_skipped_126 rfl ?_
            refine r_iret hC hR dX5_skipped_128 (le_b rfl) (le_b rfl) ?_
            refine ⟨congrArg (fun i => some (xI i)) ?_, rfl⟩
            unfold m_skip; rw [hop]; rw [if_neg (by decide), hs, hN, show ((N : Int)).toNat = i by omega]
          · skip
            refine r_iload hC dX5_skipped_65 rfl ?_
            refine r_if_eq (t := 80) hC dX5_skipped_67 (by rfl) (by rw [hbw]; split <;> exact ⟨by omega, by omega⟩) (fun h_67 => ?_) (fun h_67 => ?_)
            · skip
              refine r_aload_n hC dX5_skipped_80 rfl ?_
              refine r_getR (j := 2) hC dX5_skipped_81 fl_X5_33 rfl rfl hS.o.o hS.o.p2 ?_
              refine r_getIv (j := 7) (v := r 2) hC dX5_skipped_84 fl_X5_95 rfl rfl hS.o.r.o hS.r.1 ?_
              refine r_iload hC dX5_skipped_87 rfl ?_
              refine r_iadd hC dX5_skipped_89 ?_
              refine r_istore (lv' := [_, _, _, _, _, _, _, _, _]) hC dX5_skipped_90 (lt_b rfl) rfl (lt_b rfl) rfl ?_
              refine r_aload hC dX5_skipped_92 rfl ?_
              refine r_aload_n hC dX5_skipped_94 rfl ?_
              refine r_getR (j := 1) hC dX5_skipped_95 fl_X5_111 rfl rfl (hS.o.t hq4).o (hS.o.t hq4).p1 ?_
              refine r_iload hC dX5_skipped_98 rfl ?_
              refine r_ialdv (v := m_its r q (2 + 3 * i)) hC dX5_skipped_100 (hS.o.t hq4).a1 ⟨by omega, by omega⟩ (hti (by omega)).2.1 ?_
              refine r_V0 hC dX5_skipped_101 mi_X3_wants se_X3_wants ml_X5_225 (rm := rmX3_wants) rfl (hS.o.c hc).o rfl rfl rfl rfl ⟨le_b rfl, le_b rfl⟩ (k_Re_wants2 (c := (c : Int)) hfC (hS.o.c hc) hc2.2.1) ?_ rfl
              refine r_beq (t := 120) hC dX5_skipped_104 (by rfl) (fun h_104 => ?_) (fun h_104 => ?_)
              · skip
                refine r_iinc (lv' := [_, _, _, _, _, _, _, _, _]) hC dX5_skipped_120 rfl (lt_b rfl) rfl (lt_b rfl) rfl ?_
                refine r_goto (t := 56) hC dX5_skipped_123 (by rfl) ?_
                have hsn : m_skipN r q i = r 2 + i := by
                  unfold m_skipN; first | (rw [if_pos (by first | omega | (by_cases z : r 10 = 1; (rw [if_pos z] at hbw; omega); omega))]; done) | (rw [if_neg (by by_cases z : r 10 = 1; omega; (rw [if_neg z] at hbw; omega))]; done)
                exact ih _ (by omega) (i + 1) _ _ rfl (by omega) (by simp only [m_skipL]; rw [hsn]; first | (rw [if_pos ⟨h_104, by omega⟩, hs]; done) | (rw [if_neg (fun z => h_104 z.1), hs]; omega) | (rw [if_neg (fun z => by have := z.2; omega), hs]; omega))
              · skip
                refine r_iload hC dX5_skipped_107 rfl ?_
                refine r_aload hC dX5_skipped_109 rfl ?_
                refine r_getIv (j := 10) (v := m_of r c 8) hC dX5_skipped_111 fl_X5_228 rfl rfl (hS.o.c hc).o hc2.2.2.2.2.2.2.2.2.2.1 ?_
                refine r_icmp_gt (t := 120) hC dX5_skipped_114 (by rfl) (by first | exact rg_its rf _ _ | exact ⟨by omega, by omega⟩) (rg_of rf _ _) (fun h_114 => ?_) (fun h_114 => ?_)
                · skip
                  refine r_iinc (lv' := [_, _, _, _, _, _, _, _, _]) hC dX5_skipped_120 rfl (lt_b rfl) rfl (lt_b rfl) rfl ?_
                  refine r_goto (t := 56) hC dX5_skipped_123 (by rfl) ?_
                  have hsn : m_skipN r q i = r 2 + i := by
                    unfold m_skipN; first | (rw [if_pos (by first | omega | (by_cases z : r 10 = 1; (rw [if_pos z] at hbw; omega); omega))]; done) | (rw [if_neg (by by_cases z : r 10 = 1; omega; (rw [if_neg z] at hbw; omega))]; done)
                  exact ih _ (by omega) (i + 1) _ _ rfl (by omega) (by simp only [m_skipL]; rw [hsn]; first | (rw [if_pos ⟨h_104, by omega⟩, hs]; done) | (rw [if_neg (fun z => h_104 z.1), hs]; omega) | (rw [if_neg (fun z => by have := z.2; omega), hs]; omega))
                · skip
                  refine r_iinc (lv' := [_, _, _, _, _, _, _, _, _]) hC dX5_skipped_117 rfl (lt_b rfl) rfl (lt_b rfl) rfl ?_
                  refine r_iinc (lv' := [_, _, _, _, _, _, _, _, _]) hC dX5_skipped_120 rfl (lt_b rfl) rfl (lt_b rfl) rfl ?_
                  refine r_goto (t := 56) hC dX5_skipped_123 (by rfl) ?_
                  have hsn : m_skipN r q i = r 2 + i := by
                    unfold m_skipN; first | (rw [if_pos (by first | omega | (by_cases z : r 10 = 1; (rw [if_pos z] at hbw; omega); omega))]; done) | (rw [if_neg (by by_cases z : r 10 = 1; omega; (rw [if_neg z] at hbw; omega))]; done)
                  exact ih _ (by omega) (i + 1) _ _ rfl (by omega) (by simp only [m_skipL]; rw [hsn]; first | (rw [if_pos ⟨h_104, by omega⟩, hs]; done) | (rw [if_neg (fun z => h_104 z.1), hs]; omega) | (rw [if_neg (fun z => by have := z.2; omega), hs]; omega))
            · skip
              refine r_aload_n hC dX5_skipped_70 rfl ?_
              refine r_getR (j := 0) hC dX5_skipped_71 fl_X5_108 rfl rfl (hS.o.t hq4).o (hS.o.t hq4).p0 ?_
              refine r_iload hC dX5_skipped_74 rfl ?_
              refine r_ialdv (v := m_its r q (4 + 3 * i)) hC dX5_skipped_76 (hS.o.t hq4).a0 ⟨by omega, by omega⟩ (hti (by omega)).1 ?_
              refine r_goto (t := 90) hC dX5_skipped_77 (by rfl) ?_
              refine r_istore (lv' := [_, _, _, _, _, _, _, _, _]) hC dX5_skipped_90 (lt_b rfl) rfl (lt_b rfl) rfl ?_
              refine r_aload hC dX5_skipped_92 rfl ?_
              refine r_aload_n hC dX5_skipped_94 rfl ?_
              refine r_getR (j := 1) hC dX5_skipped_95 fl_X5_111 rfl rfl (hS.o.t hq4).o (hS.o.t hq4).p1 ?_
              refine r_iload hC dX5_skipped_98 rfl ?_
              refine r_ialdv (v := m_its r q (2 + 3 * i)) hC dX5_skipped_100 (hS.o.t hq4).a1 ⟨by omega, by omega⟩ (hti (by omega)).2.1 ?_
              refine r_V0 hC dX5_skipped_101 mi_X3_wants se_X3_wants ml_X5_225 (rm := rmX3_wants) rfl (hS.o.c hc).o rfl rfl rfl rfl ⟨le_b rfl, le_b rfl⟩ (k_Re_wants2 (c := (c : Int)) hfC (hS.o.c hc) hc2.2.1) ?_ rfl
              refine r_beq (t := 120) hC dX5_skipped_104 (by rfl) (fun h_104 => ?_) (fun h_104 => ?_)
              · skip
                refine r_iinc (lv' := [_, _, _, _, _, _, _, _, _]) hC dX5_skipped_120 rfl (lt_b rfl) rfl (lt_b rfl) rfl ?_
                refine r_goto (t := 56) hC dX5_skipped_123 (by rfl) ?_
                have hsn : m_skipN r q i = m_its r q (4 + 3 * i) := by
                  unfold m_skipN; first | (rw [if_pos (by first | omega | (by_cases z : r 10 = 1; (rw [if_pos z] at hbw; omega); omega))]; done) | (rw [if_neg (by by_cases z : r 10 = 1; omega; (rw [if_neg z] at hbw; omega))]; done)
                exact ih _ (by omega) (i + 1) _ _ rfl (by omega) (by simp only [m_skipL]; rw [hsn]; first | (rw [if_pos ⟨h_104, by omega⟩, hs]; done) | (rw [if_neg (fun z => h_104 z.1), hs]; omega) | (rw [if_neg (fun z => by have := z.2; omega), hs]; omega))
              · skip
                refine r_iload hC dX5_skipped_107 rfl ?_
                refine r_aload hC dX5_skipped_109 rfl ?_
                refine r_getIv (j := 10) (v := m_of r c 8) hC dX5_skipped_111 fl_X5_228 rfl rfl (hS.o.c hc).o hc2.2.2.2.2.2.2.2.2.2.1 ?_
                refine r_icmp_gt (t := 120) hC dX5_skipped_114 (by rfl) (by first | exact rg_its rf _ _ | exact ⟨by omega, by omega⟩) (rg_of rf _ _) (fun h_114 => ?_) (fun h_114 => ?_)
                · skip
                  refine r_iinc (lv' := [_, _, _, _, _, _, _, _, _]) hC dX5_skipped_120 rfl (lt_b rfl) rfl (lt_b rfl) rfl ?_
                  refine r_goto (t := 56) hC dX5_skipped_123 (by rfl) ?_
                  have hsn : m_skipN r q i = m_its r q (4 + 3 * i) := by
                    unfold m_skipN; first | (rw [if_pos (by first | omega | (by_cases z : r 10 = 1; (rw [if_pos z] at hbw; omega); omega))]; done) | (rw [if_neg (by by_cases z : r 10 = 1; omega; (rw [if_neg z] at hbw; omega))]; done)
                  exact ih _ (by omega) (i + 1) _ _ rfl (by omega) (by simp only [m_skipL]; rw [hsn]; first | (rw [if_pos ⟨h_104, by omega⟩, hs]; done) | (rw [if_neg (fun z => h_104 z.1), hs]; omega) | (rw [if_neg (fun z => by have := z.2; omega), hs]; omega))
                · skip
                  refine r_iinc (lv' := [_, _, _, _, _, _, _, _, _]) hC dX5_skipped_117 rfl (lt_b rfl) rfl (lt_b rfl) rfl ?_
                  refine r_iinc (lv' := [_, _, _, _, _, _, _, _, _]) hC dX5_skipped_120 rfl (lt_b rfl) rfl (lt_b rfl) rfl ?_
                  refine r_goto (t := 56) hC dX5_skipped_123 (by rfl) ?_
                  have hsn : m_skipN r q i = m_its r q (4 + 3 * i) := by
                    unfold m_skipN; first | (rw [if_pos (by first | omega | (by_cases z : r 10 = 1; (rw [if_pos z] at hbw; omega); omega))]; done) | (rw [if_neg (by by_cases z : r 10 = 1; omega; (rw [if_neg z] at hbw; omega))]; done)
                  exact ih _ (by omega) (i + 1) _ _ rfl (by omega) (by simp only [m_skipL]; rw [hsn]; first | (rw [if_pos ⟨h_104, by omega⟩, hs]; done) | (rw [if_neg (fun z => h_104 z.1), hs]; omega) | (rw [if_neg (fun z => by have := z.2; omega), hs]; omega))
      refine r_aload_n hC dX5_skipped_18 rfl ?_
      refine r_getR (j := 1) hC dX5_skipped_19 fl_X5_25 rfl rfl hS.o.o hS.o.p1 ?_
      refine r_iload_n hC dX5_skipped_22 rfl ?_
      refine r_aald hC dX5_skipped_23 hS.o.a1 (le_b rfl) (lt_b rfl) ⟨by omega, by omega⟩ (hS.o.pt (p := q) (by omega)) ?_
      refine r_astore_n (lv' := [_, _, _, _, _, _, _, _, _]) hC dX5_skipped_24 (lt_b rfl) rfl (lt_b rfl) rfl ?_
      refine r_aload_n hC dX5_skipped_25 rfl ?_
      refine r_getR (j := 3) hC dX5_skipped_26 fl_X5_39 rfl rfl hS.o.o hS.o.p3 ?_
      refine r_iload_n hC dX5_skipped_29 rfl ?_
      refine r_aald hC dX5_skipped_30 hS.o.a3 (le_b rfl) (lt_b rfl) ⟨by omega, by omega⟩ (hS.o.pc hc) ?_
      refine r_astore (lv' := [_, _, _, _, _, _, _, _, _]) hC dX5_skipped_31 (lt_b rfl) rfl (lt_b rfl) rfl ?_
      refine r_aload_n hC dX5_skipped_33 rfl ?_
      refine r_getR (j := 0) hC dX5_skipped_34 fl_X5_18 rfl rfl hS.o.o hS.o.p0 ?_
      refine r_iconst hC dX5_skipped_37 ?_
      refine r_ialdv (v := r 10) hC dX5_skipped_38 hS.o.a0 ⟨by omega, by omega⟩ (hS.set (i := 0) (by decide)) ?_
      refine r_iconst hC dX5_skipped_39 ?_
      refine r_icmp_ne (t := 47) hC dX5_skipped_40 (by rfl) (rf_at rf _) ⟨by omega, by omega⟩ (fun h_40 => ?_) (fun h_40 => ?_)
      · skip
        refine r_iconst hC dX5_skipped_47 ?_
        refine r_istore (lv' := [_, _, _, _, _, _, _, _, _]) hC dX5_skipped_48 (lt_b rfl) rfl (lt_b rfl) rfl ?_
        refine r_iconst hC dX5_skipped_50 ?_
        refine r_istore (lv' := [_, _, _, _, _, _, _, _, _]) hC dX5_skipped_51 (lt_b rfl) rfl (lt_b rfl) rfl ?_
        refine r_iconst hC dX5_skipped_53 ?_
        refine r_istore (lv' := [_, _, _, _, _, _, _, _, _]) hC dX5_skipped_54 (lt_b rfl) rfl (lt_b rfl) rfl ?_
        exact lp _ (by first | (rw [if_pos (by assumption)]; done) | (rw [if_neg (by assumption)]; done)) _ 0 _ _ rfl (by omega) rfl
      · skip
        refine r_iconst hC dX5_skipped_43 ?_
        refine r_goto (t := 48) hC dX5_skipped_44 (by rfl) ?_
        refine r_istore (lv' := [_, _, _, _, _, _, _, _, _]) hC dX5_skipped_48 (lt_b rfl) rfl (lt_b rfl) rfl ?_
        refine r_iconst hC dX5_skipped_50 ?_
        refine r_istore (lv' := [_, _, _, _, _, _, _, _, _]) hC dX5_skipped_51 (lt_b rfl) rfl (lt_b rfl) rfl ?_
        refine r_iconst hC dX5_skipped_53 ?_
        refine r_istore (lv' := [_, _, _, _, _, _, _, _, _]) hC dX5_skipped_54 (lt_b rfl) rfl (lt_b rfl) rfl ?_
        exact lp _ (by first | (rw [if_pos (by assumption)]; done) | (rw [if_neg (by assumption)]; done)) _ 0 _ _ rfl (by omega) rfl
    · skip
      refine r_iconst hC dX5_skipped_16 ?_
      refine r_iret hC hR dX5_skipped_17 (le_b rfl) (le_b rfl) ?_
      refine ⟨congrArg (fun i => some (xI i)) ?_, rfl⟩
      first | (exfalso; omega) | (unfold m_skip; rw [if_pos (by simpa using h_5)])
