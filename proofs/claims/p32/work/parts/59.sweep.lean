/-! the state: sweeping -/
/-- what looks at rows need -/
def RSv (u : Mem) (a : Nat) (r : RW) : Prop := StO u a ∧ RSa u (a + 19) r ∧ ∀ i : Nat, i < 3 → mI u (a + 28 + 2 * i) 2 = m_of r i 0 ∧ mI u (a + 28 + 2 * i) 10 = m_of r i 8
theorem RS.v {u : Mem} {a : Nat} {r : RW} (h : RS u a r) : RSv u a r := ⟨h.o, h.r.2.2.2.1, fun i hi => ⟨(h.c hi).2.1, (h.c hi).2.2.2.2.2.2.2.2.2.1⟩⟩
theorem RSv.fr {u w : Mem} {a : Nat} {r : RW} {S : Nat → Prop} (h : RSv u a r) (hf : Fr u w S (fun _ => False)) (h1 : ∀ q, a + 20 ≤ q → q < a + 26 → ¬ S q) (h2 : ∀ i : Nat, i < 3 → mI w (a + 28 + 2 * i) 2 = mI u (a + 28 + 2 * i) 2 ∧ mI w (a + 28 + 2 * i) 10 = mI u (a + 28 + 2 * i) 10) : RSv w a r := by
  refine ⟨hf.stO h.1, fun k hk => ?_, fun i hi => by rw [(h2 i hi).1, (h2 i hi).2]; exact h.2.2 i hi⟩
  have e : ∀ t, 1 ≤ t → t < 7 → mI w (a + 19 + t) = mI u (a + 19 + t) := fun t t1 t2 => hf.mI (h1 _ (by omega) (by omega))
  rw [e 1 (by omega) (by omega), e 2 (by omega) (by omega), e 3 (by omega) (by omega), e 4 (by omega) (by omega), e 5 (by omega) (by omega), e 6 (by omega) (by omega)]
  exact h.2.1 k hk
abbrev rmX5_isFor_ : Room := { frames := 1, cells := 0, slots := 0, locals := 21 }
set_option maxRecDepth 100000 in
theorem k_Sv_isFor {l : Launch} {D : DD} (hfl : l.stackTraces = false) {u : Mem} {a : Nat} {r : RW} (hV : RSv u a r) (hB : IB r) {k c : Nat} (hk : (k : Int) < r 2) (hc : c < 3) : CT l D yX5_isFor cX5_isFor 3 (some .boolean) rmX5_isFor [xA a, xI k, xA (a + 28 + 2 * c)] u (RT (xI (bI (m_ans r k c = false))) u) := by
  have b2 := hB.co.1
  have b3 := hB.co.2.1
  have bk := hB.co.2.2.1
  have rf := hB.rf
  have ha := hV.2.1 k hk
  refine CT.of hfl (by decide) (le_b rfl) ?_
  intro C hC hR hL hDD hN
  have hfC : (cxL C).stackTraces = false := by rw [hL]; exact hfl
  show VW C 0 [some (xA a), some (xI k), some (xA (a + 28 + 2 * c))] [] u 0 0
  refine r_aload_n hC dX5_isFor_0 rfl ?_
  refine r_aload_n hC dX5_isFor_1 rfl ?_
  refine r_getR (j := 2) hC dX5_isFor_2 fl_X5_33 rfl rfl hV.1.o hV.1.p2 ?_
  refine r_getR (j := 2) hC dX5_isFor_5 fl_X5_224 rfl rfl hV.1.r.o hV.1.r.p2 ?_
  refine r_iload_n hC dX5_isFor_8 rfl ?_
  refine r_iald hC dX5_isFor_9 hV.1.r.a2 ⟨by omega, by omega⟩ ?_
  refine r_V0 hC dX5_isFor_10 mi_X3_wants se_X3_wants ml_X5_225 (rm := rmX3_wants) rfl (hV.1.c hc).o rfl rfl rfl rfl ⟨le_b rfl, le_b rfl⟩ (k_Re_wants2 (c := (c : Int)) hfC (hV.1.c hc) (hV.2.2 c hc).1) ?_ rfl
  refine r_beq (t := 36) hC dX5_isFor_13 (by rfl) (fun h_13 => ?_) (fun h_13 => ?_)
  · skip
    refine r_iconst hC dX5_isFor_36 ?_
    refine r_zret hC hR dX5_isFor_37 (by first | exact Or.inl rfl | exact Or.inr rfl) (le_b rfl) (le_b rfl) ?_
    refine ⟨congrArg (fun i => some (xI i)) ?_, rfl⟩
    rw [bI_congr (ans_iff r k c)]
    unfold bI
    (repeat' split) <;> first | rfl | omega | (exfalso; simp_all; done) | (exfalso; simp_all; omega)
  · skip
    refine r_aload_n hC dX5_isFor_16 rfl ?_
    refine r_getR (j := 2) hC dX5_isFor_17 fl_X5_33 rfl rfl hV.1.o hV.1.p2 ?_
    refine r_getR (j := 0) hC dX5_isFor_20 fl_X5_177 rfl rfl hV.1.r.o hV.1.r.p0 ?_
    refine r_iload_n hC dX5_isFor_23 rfl ?_
    refine r_ialdv (v := m_num r k) hC dX5_isFor_24 hV.1.r.a0 ⟨by omega, by omega⟩ ha.1 ?_
    refine r_aload_n hC dX5_isFor_25 rfl ?_
    refine r_getIv (j := 10) (v := m_of r c 8) hC dX5_isFor_26 fl_X5_228 rfl rfl (hV.1.c hc).o (hV.2.2 c hc).2 ?_
    refine r_icmp_le (t := 36) hC dX5_isFor_29 (by rfl) (num_rg rf hB.ro hk) (rg_of rf _ _) (fun h_29 => ?_) (fun h_29 => ?_)
    · skip
      refine r_iconst hC dX5_isFor_36 ?_
      refine r_zret hC hR dX5_isFor_37 (by first | exact Or.inl rfl | exact Or.inr rfl) (le_b rfl) (le_b rfl) ?_
      refine ⟨congrArg (fun i => some (xI i)) ?_, rfl⟩
      rw [bI_congr (ans_iff r k c)]
      unfold bI
      (repeat' split) <;> first | rfl | omega | (exfalso; simp_all; done) | (exfalso; simp_all; omega)
    · skip
      refine r_iconst hC dX5_isFor_32 ?_
      refine r_goto (t := 37) hC dX5_isFor_33 (by rfl) ?_
      refine r_zret hC hR dX5_isFor_37 (by first | exact Or.inl rfl | exact Or.inr rfl) (le_b rfl) (le_b rfl) ?_
      refine ⟨congrArg (fun i => some (xI i)) ?_, rfl⟩
      rw [bI_congr (ans_iff r k c)]
      unfold bI
      (repeat' split) <;> first | rfl | omega | (exfalso; simp_all; done) | (exfalso; simp_all; omega)

abbrev rmX5_answeredBy_ : Room := { frames := 2, cells := 0, slots := 0, locals := 43 }
set_option maxRecDepth 100000 in
theorem k_Sv_ansBy {l : Launch} {D : DD} (hfl : l.stackTraces = false) {u : Mem} {a : Nat} {r : RW} (hV : RSv u a r) (hB : IB r) {k : Nat} (hk : (k : Int) < r 2) : CT l D yX5_answeredBy cX5_answeredBy 4 (some .int) rmX5_answeredBy [xA a, xI k] u (RT (xI (m_ansBy r k)) u) := by
  have b2 := hB.co.1
  have b3 := hB.co.2.1
  have bk := hB.co.2.2.1
  have rf := hB.rf
  refine CT.of hfl (by decide) (le_b rfl) ?_
  intro C hC hR hL hDD hN
  have hfC : (cxL C).stackTraces = false := by rw [hL]; exact hfl
  have lp : ∀ (n : Nat) (i : Nat) (s : Int), (3 - i = n) → (i ≤ 3) → (s = c_ansL r k i) → VW C 4 [some (xA a), some (xI k), some (xI s), some (xI i)] [] u 0 0 := by
    intro n
    induction n using Nat.strongRecOn with
    | _ n ih =>
      intro i s hn hi hs
      refine r_iload_n hC dX5_answeredBy_4 rfl ?_
      refine r_iconst hC dX5_answeredBy_5 ?_
      refine r_icmp_ge (t := 35) hC dX5_answeredBy_6 (by rfl) (by first | with_reducible exact rg_mI _ _ _ | assumption | with_reducible exact rf_at rf _ | with_reducible exact rg_of rf _ _ | with_reducible exact rg_its rf _ _ | with_reducible exact rg_way rf _ _ | with_reducible exact rg_and _ _ | with_reducible exact rg_or _ _ | exact ⟨by omega, by omega⟩) (by first | with_reducible exact rg_mI _ _ _ | assumption | with_reducible exact rf_at rf _ | with_reducible exact rg_of rf _ _ | with_reducible exact rg_its rf _ _ | with_reducible exact rg_way rf _ _ | with_reducible exact rg_and _ _ | with_reducible exact rg_or _ _ | exact ⟨by omega, by omega⟩) (fun h_6 => ?_) (fun h_6 => ?_)
      · skip
        refine r_iload_n hC dX5_answeredBy_35 rfl ?_
        refine r_iret hC hR dX5_answeredBy_36 (le_b rfl) (le_b rfl) ?_
        refine ⟨congrArg (fun i => some (xI i)) ?_, rfl⟩
        rw [hs, show i = 3 by omega]; exact c_ansL_3 r k
      · skip
        refine r_aload_n hC dX5_answeredBy_9 rfl ?_
        refine r_iload_n hC dX5_answeredBy_10 rfl ?_
        refine r_aload_n hC dX5_answeredBy_11 rfl ?_
        refine r_getR (j := 3) hC dX5_answeredBy_12 fl_X5_39 rfl rfl hV.1.o hV.1.p3 ?_
        refine r_iload_n hC dX5_answeredBy_15 rfl ?_
        refine r_aald hC dX5_answeredBy_16 hV.1.a3 (le_b rfl) (lt_b rfl) ⟨by omega, by omega⟩ (hV.1.pc (i := i) (by omega)) ?_
        refine r_V0 hC dX5_answeredBy_17 mi_X5_isFor se_X5_isFor ml_X5_209 (rm := rmX5_isFor) rfl hV.1.o rfl rfl rfl rfl ⟨le_b rfl, le_b rfl⟩ (k_Sv_isFor hfC hV hB (k := k) (c := i) hk (by omega)) ?_ rfl
        refine r_bne (t := 29) hC dX5_answeredBy_20 (by rfl) (fun h_20 => ?_) (fun h_20 => ?_)
        · skip
          refine r_iinc (lv' := [_, _, _, _]) hC dX5_answeredBy_29 rfl (lt_b rfl) rfl (lt_b rfl) rfl ?_
          refine r_goto (t := 4) hC dX5_answeredBy_32 (by rfl) ?_
          exact ih _ (by omega) (i + 1) _ rfl (by omega) (by simp only [c_ansL]; first | (rw [if_pos (by simpa using h_20), hs]; done) | (rw [if_neg (by simp_all), hs]; done))
        · skip
          refine r_iload_n hC dX5_answeredBy_23 rfl ?_
          refine r_iconst hC dX5_answeredBy_24 ?_
          refine r_iload_n hC dX5_answeredBy_25 rfl ?_
          refine r_ishl hC dX5_answeredBy_26 ?_
          refine r_ior hC dX5_answeredBy_27 ?_
          refine r_istore_n (lv' := [_, _, _, _]) hC dX5_answeredBy_28 (lt_b rfl) rfl (lt_b rfl) rfl ?_
          refine r_iinc (lv' := [_, _, _, _]) hC dX5_answeredBy_29 rfl (lt_b rfl) rfl (lt_b rfl) rfl ?_
          refine r_goto (t := 4) hC dX5_answeredBy_32 (by rfl) ?_
          exact ih _ (by omega) (i + 1) _ rfl (by omega) (by simp only [c_ansL]; first | (rw [if_pos (by simpa using h_20), hs]; done) | (rw [if_neg (by simp_all), hs]; done))
  show VW C 0 [some (xA a), some (xI k), none, none] [] u 0 0
  refine r_iconst hC dX5_answeredBy_0 ?_
  refine r_istore_n (lv' := [_, _, _, _]) hC dX5_answeredBy_1 (lt_b rfl) rfl (lt_b rfl) rfl ?_
  refine r_iconst hC dX5_answeredBy_2 ?_
  refine r_istore_n (lv' := [_, _, _, _]) hC dX5_answeredBy_3 (lt_b rfl) rfl (lt_b rfl) rfl ?_
  exact lp _ 0 _ rfl (by omega) rfl

/-- a row that goes is lost for this receiver -/
def c_los (r : RW) (k c : Int) : Int := if m_wants r c (m_topic r k) = true ∧ m_mark r k (1 + c) = false then 1 else 0
def LosT (u : Mem) (a : Nat) (r : RW) (k n : Nat) (w : Mem) : Prop := Fr u w (fun q => q = a + 28 ∨ q = a + 30 ∨ q = a + 32) (fun _ => False) ∧ ∀ c : Nat, c < 3 → mI w (a + 28 + 2 * c) = if c < n then up (mI u (a + 28 + 2 * c)) 9 (mI u (a + 28 + 2 * c) 9 + c_los r k c) else mI u (a + 28 + 2 * c)
theorem up_self {f : RW} (rf : RF f) (j : Int) : up f j (f j + 0) = f := by
  funext i; unfold up
  by_cases h : i = j
  · rw [if_pos h, h, Int.add_zero, wr_id (rf j)]
  · rw [if_neg h]
abbrev rmX5_loseUnseen : Room := { frames := 1, cells := 0, slots := 0, locals := 21 }
set_option maxRecDepth 100000 in
theorem k_Sv_lose {l : Launch} {D : DD} (hfl : l.stackTraces = false) {u : Mem} {a : Nat} {r : RW} (hV : RSv u a r) (hB : IB r) {k : Nat} (hk : (k : Int) < r 2) : CT l D yX5_loseUnseen cX5_loseUnseen 4 none rmX5_loseUnseen [xA a, xI k] u (fun o w => o = none ∧ LosT u a r k 3 w) := by
  have b2 := hB.co.1
  have b3 := hB.co.2.1
  have bk := hB.co.2.2.1
  have rf := hB.rf
  refine CT.of hfl (by decide) (le_b rfl) ?_
  intro C hC hR hL hDD hN
  have hfC : (cxL C).stackTraces = false := by rw [hL]; exact hfl
  have lp : ∀ (n : Nat) (i : Nat) (w : Mem) (w3 : Option SV), (3 - i = n) → (i ≤ 3) → (LosT u a r k i w) → VW C 2 [some (xA a), some (xI k), some (xI i), w3] [] w 0 0 := by
    intro n
    induction n using Nat.strongRecOn with
    | _ n ih =>
      intro i w w3 hn hi hw
      have hVw : RSv w a r := hV.fr hw.1 (fun q h1 h2 => by omega) (fun c hc => by
        rw [hw.2 c hc]; split
        · rw [up_n _ _ (by decide), up_n _ _ (by decide)]; exact ⟨rfl, rfl⟩
        · exact ⟨rfl, rfl⟩)
      have ha := hVw.2.1 k hk
      refine r_iload_n hC dX5_loseUnseen_2 rfl ?_
      refine r_iconst hC dX5_loseUnseen_3 ?_
      refine r_icmp_ge (t := 76) hC dX5_loseUnseen_4 (by rfl) (by first | with_reducible exact rg_mI _ _ _ | assumption | with_reducible exact rf_at rf _ | with_reducible exact rg_of rf _ _ | with_reducible exact rg_its rf _ _ | with_reducible exact rg_way rf _ _ | with_reducible exact rg_and _ _ | with_reducible exact rg_or _ _ | exact ⟨by omega, by omega⟩) (by first | with_reducible exact rg_mI _ _ _ | assumption | with_reducible exact rf_at rf _ | with_reducible exact rg_of rf _ _ | with_reducible exact rg_its rf _ _ | with_reducible exact rg_way rf _ _ | with_reducible exact rg_and _ _ | with_reducible exact rg_or _ _ | exact ⟨by omega, by omega⟩) (fun h_4 => ?_) (fun h_4 => ?_)
      · skip
        refine r_vret hC hR dX5_loseUnseen_76 (le_b rfl) (le_b rfl) ?_
        refine ⟨rfl, ?_⟩
        rw [show i = 3 by omega] at hw; exact hw
      · skip
        have hi3 : i < 3 := by omega
        have hE := eff_at hB.ro hk (i := i) hi3
        refine r_aload_n hC dX5_loseUnseen_7 rfl ?_
        refine r_getR (j := 2) hC dX5_loseUnseen_8 fl_X5_33 rfl rfl hVw.1.o hVw.1.p2 ?_
        refine r_getR (j := 4) hC dX5_loseUnseen_11 fl_X5_187 rfl rfl hVw.1.r.o hVw.1.r.p4 ?_
        refine r_iload_n hC dX5_loseUnseen_14 rfl ?_
        refine r_ialdv (v := b_and (b_shr (r (97 + 3 * k + 2)) 1) 7) hC dX5_loseUnseen_15 hVw.1.r.a4 ⟨by omega, by omega⟩ ha.2.2.2.2.1 ?_
        refine r_iload_n hC dX5_loseUnseen_16 rfl ?_
        refine r_ishr hC dX5_loseUnseen_17 ?_
        refine r_iconst hC dX5_loseUnseen_18 ?_
        refine r_iand hC dX5_loseUnseen_19 ?_
        refine r_iconst hC dX5_loseUnseen_20 ?_
        refine r_icmp_ne (t := 28) hC dX5_loseUnseen_21 (by rfl) (rg_and _ _) ⟨by omega, by omega⟩ (fun h_21 => ?_) (fun h_21 => ?_)
        · skip
          refine r_iconst hC dX5_loseUnseen_28 ?_
          refine r_istore_n (lv' := [_, _, _, _]) hC dX5_loseUnseen_29 (lt_b rfl) rfl (lt_b rfl) rfl ?_
          refine r_aload_n hC dX5_loseUnseen_30 rfl ?_
          refine r_getR (j := 3) hC dX5_loseUnseen_31 fl_X5_39 rfl rfl hVw.1.o hVw.1.p3 ?_
          refine r_iload_n hC dX5_loseUnseen_34 rfl ?_
          refine r_aald hC dX5_loseUnseen_35 hVw.1.a3 (le_b rfl) (lt_b rfl) ⟨by omega, by omega⟩ (hVw.1.pc (i := i) (by omega)) ?_
          refine r_aload_n hC dX5_loseUnseen_36 rfl ?_
          refine r_getR (j := 2) hC dX5_loseUnseen_37 fl_X5_33 rfl rfl hVw.1.o hVw.1.p2 ?_
          refine r_getR (j := 2) hC dX5_loseUnseen_40 fl_X5_224 rfl rfl hVw.1.r.o hVw.1.r.p2 ?_
          refine r_iload_n hC dX5_loseUnseen_43 rfl ?_
          refine r_ialdv (v := m_topic r k) hC dX5_loseUnseen_44 hVw.1.r.a2 ⟨by omega, by omega⟩ ha.2.2.1 ?_
          refine r_V0 hC dX5_loseUnseen_45 mi_X3_wants se_X3_wants ml_X5_225 (rm := rmX3_wants) rfl (hVw.1.c (show i < 3 by omega)).o rfl rfl rfl rfl ⟨le_b rfl, le_b rfl⟩ (k_Re_wants2 (c := (i : Int)) hfC (hVw.1.c hi3) (hVw.2.2 i hi3).1) ?_ rfl
          refine r_beq (t := 70) hC dX5_loseUnseen_48 (by rfl) (fun h_48 => ?_) (fun h_48 => ?_)
          · skip
            refine r_iinc (lv' := [_, _, _, _]) hC dX5_loseUnseen_70 rfl (lt_b rfl) rfl (lt_b rfl) rfl ?_
            refine r_goto (t := 2) hC dX5_loseUnseen_73 (by rfl) ?_
            have hE3 : m_wants r i (m_topic r k) = true → m_mark r k (1 + i) = false → False := by
              intro z1 z2
              first | exact h_48 z1 | (have := hE.mp (by assumption); rw [z2] at this; cases this)
            refine ih _ (by omega) (i + 1) _ _ rfl (by omega) ⟨?_, fun c hc => ?_⟩
            · exact hw.1
            · by_cases e : c = i
              · subst e
                rw [if_pos (by omega)]
                have hwc := hw.2 c hc
                rw [if_neg (by omega)] at hwc
                rw [hwc]
                rw [show c_los r k c = 0 from by unfold c_los; exact if_neg (fun z => hE3 z.1 z.2)]
                exact (up_self (rf_mI _ _) 9).symm
              · have hwc := hw.2 c hc
                skip
                by_cases q : c < i
                · rw [if_pos q] at hwc; rw [if_pos (by omega)]; exact hwc
                · rw [if_neg q] at hwc; rw [if_neg (by omega)]; exact hwc
          · skip
            refine r_iload_n hC dX5_loseUnseen_51 rfl ?_
            refine r_if_ne (t := 70) hC dX5_loseUnseen_52 (by rfl) (by first | with_reducible exact rg_mI _ _ _ | assumption | with_reducible exact rf_at rf _ | with_reducible exact rg_of rf _ _ | with_reducible exact rg_its rf _ _ | with_reducible exact rg_way rf _ _ | with_reducible exact rg_and _ _ | with_reducible exact rg_or _ _ | exact ⟨by omega, by omega⟩) (fun h_52 => (by omega)) (fun h_52 => ?_)
            refine r_aload_n hC dX5_loseUnseen_55 rfl ?_
            refine r_getR (j := 3) hC dX5_loseUnseen_56 fl_X5_39 rfl rfl hVw.1.o hVw.1.p3 ?_
            refine r_iload_n hC dX5_loseUnseen_59 rfl ?_
            refine r_aald hC dX5_loseUnseen_60 hVw.1.a3 (le_b rfl) (lt_b rfl) ⟨by omega, by omega⟩ (hVw.1.pc (i := i) (by omega)) ?_
            refine r_dup hC dX5_loseUnseen_61 rfl ?_
            refine r_getI (j := 9) hC dX5_loseUnseen_62 fl_X5_240 rfl rfl (hVw.1.c (show i < 3 by omega)).o ?_
            refine r_iconst hC dX5_loseUnseen_65 ?_
            refine r_iadd hC dX5_loseUnseen_66 ?_
            refine r_putI (j := 9) hC dX5_loseUnseen_67 fl_X5_240 rfl (hVw.1.c (show i < 3 by omega)).o (by rintro _ ⟨⟩; rfl) (Or.inl rfl) ?_
            refine r_iinc (lv' := [_, _, _, _]) hC dX5_loseUnseen_70 rfl (lt_b rfl) rfl (lt_b rfl) rfl ?_
            refine r_goto (t := 2) hC dX5_loseUnseen_73 (by rfl) ?_
            have hE2 : m_mark r k (1 + i) = false := by
              cases q : m_mark r k (1 + i)
              · rfl
              · exfalso; exact absurd (hE.mpr q) (by assumption)
            refine ih _ (by omega) (i + 1) _ _ rfl (by omega) ⟨?_, fun c hc => ?_⟩
            · exact hw.1.sI _ _ (by omega)
            · by_cases e : c = i
              · subst e
                rw [if_pos (by omega)]
                have hwc := hw.2 c hc
                rw [if_neg (by omega)] at hwc
                rw [up_mI, hwc]
                congr 2
                unfold c_los; rw [if_pos ⟨h_48, by simpa using hE2⟩]
              · have hwc := hw.2 c hc
                rw [up_mI_n _ _ _ (by omega)]
                by_cases q : c < i
                · rw [if_pos q] at hwc; rw [if_pos (by omega)]; exact hwc
                · rw [if_neg q] at hwc; rw [if_neg (by omega)]; exact hwc
        · skip
          refine r_iconst hC dX5_loseUnseen_24 ?_
          refine r_goto (t := 29) hC dX5_loseUnseen_25 (by rfl) ?_
          refine r_istore_n (lv' := [_, _, _, _]) hC dX5_loseUnseen_29 (lt_b rfl) rfl (lt_b rfl) rfl ?_
          refine r_aload_n hC dX5_loseUnseen_30 rfl ?_
          refine r_getR (j := 3) hC dX5_loseUnseen_31 fl_X5_39 rfl rfl hVw.1.o hVw.1.p3 ?_
          refine r_iload_n hC dX5_loseUnseen_34 rfl ?_
          refine r_aald hC dX5_loseUnseen_35 hVw.1.a3 (le_b rfl) (lt_b rfl) ⟨by omega, by omega⟩ (hVw.1.pc (i := i) (by omega)) ?_
          refine r_aload_n hC dX5_loseUnseen_36 rfl ?_
          refine r_getR (j := 2) hC dX5_loseUnseen_37 fl_X5_33 rfl rfl hVw.1.o hVw.1.p2 ?_
          refine r_getR (j := 2) hC dX5_loseUnseen_40 fl_X5_224 rfl rfl hVw.1.r.o hVw.1.r.p2 ?_
          refine r_iload_n hC dX5_loseUnseen_43 rfl ?_
          refine r_ialdv (v := m_topic r k) hC dX5_loseUnseen_44 hVw.1.r.a2 ⟨by omega, by omega⟩ ha.2.2.1 ?_
          refine r_V0 hC dX5_loseUnseen_45 mi_X3_wants se_X3_wants ml_X5_225 (rm := rmX3_wants) rfl (hVw.1.c (show i < 3 by omega)).o rfl rfl rfl rfl ⟨le_b rfl, le_b rfl⟩ (k_Re_wants2 (c := (i : Int)) hfC (hVw.1.c hi3) (hVw.2.2 i hi3).1) ?_ rfl
          refine r_beq (t := 70) hC dX5_loseUnseen_48 (by rfl) (fun h_48 => ?_) (fun h_48 => ?_)
          · skip
            refine r_iinc (lv' := [_, _, _, _]) hC dX5_loseUnseen_70 rfl (lt_b rfl) rfl (lt_b rfl) rfl ?_
            refine r_goto (t := 2) hC dX5_loseUnseen_73 (by rfl) ?_
            have hE3 : m_wants r i (m_topic r k) = true → m_mark r k (1 + i) = false → False := by
              intro z1 z2
              first | exact h_48 z1 | (have := hE.mp (by assumption); rw [z2] at this; cases this)
            refine ih _ (by omega) (i + 1) _ _ rfl (by omega) ⟨?_, fun c hc => ?_⟩
            · exact hw.1
            · by_cases e : c = i
              · subst e
                rw [if_pos (by omega)]
                have hwc := hw.2 c hc
                rw [if_neg (by omega)] at hwc
                rw [hwc]
                rw [show c_los r k c = 0 from by unfold c_los; exact if_neg (fun z => hE3 z.1 z.2)]
                exact (up_self (rf_mI _ _) 9).symm
              · have hwc := hw.2 c hc
                skip
                by_cases q : c < i
                · rw [if_pos q] at hwc; rw [if_pos (by omega)]; exact hwc
                · rw [if_neg q] at hwc; rw [if_neg (by omega)]; exact hwc
          · skip
            refine r_iload_n hC dX5_loseUnseen_51 rfl ?_
            refine r_if_ne (t := 70) hC dX5_loseUnseen_52 (by rfl) (by first | with_reducible exact rg_mI _ _ _ | assumption | with_reducible exact rf_at rf _ | with_reducible exact rg_of rf _ _ | with_reducible exact rg_its rf _ _ | with_reducible exact rg_way rf _ _ | with_reducible exact rg_and _ _ | with_reducible exact rg_or _ _ | exact ⟨by omega, by omega⟩) (fun h_52 => ?_) (fun h_52 => (by omega))
            refine r_iinc (lv' := [_, _, _, _]) hC dX5_loseUnseen_70 rfl (lt_b rfl) rfl (lt_b rfl) rfl ?_
            refine r_goto (t := 2) hC dX5_loseUnseen_73 (by rfl) ?_
            have hE3 : m_wants r i (m_topic r k) = true → m_mark r k (1 + i) = false → False := by
              intro z1 z2
              first | exact h_48 z1 | (have := hE.mp (by assumption); rw [z2] at this; cases this)
            refine ih _ (by omega) (i + 1) _ _ rfl (by omega) ⟨?_, fun c hc => ?_⟩
            · exact hw.1
            · by_cases e : c = i
              · subst e
                rw [if_pos (by omega)]
                have hwc := hw.2 c hc
                rw [if_neg (by omega)] at hwc
                rw [hwc]
                rw [show c_los r k c = 0 from by unfold c_los; exact if_neg (fun z => hE3 z.1 z.2)]
                exact (up_self (rf_mI _ _) 9).symm
              · have hwc := hw.2 c hc
                skip
                by_cases q : c < i
                · rw [if_pos q] at hwc; rw [if_pos (by omega)]; exact hwc
                · rw [if_neg q] at hwc; rw [if_neg (by omega)]; exact hwc
  show VW C 0 [some (xA a), some (xI k), none, none] [] u 0 0
  refine r_iconst hC dX5_loseUnseen_0 ?_
  refine r_istore_n (lv' := [_, _, _, _]) hC dX5_loseUnseen_1 (lt_b rfl) rfl (lt_b rfl) rfl ?_
  exact lp _ 0 u _ rfl (by omega) ⟨Fr.refl _ _ _, fun c hc => by rw [if_neg (by omega)]⟩
