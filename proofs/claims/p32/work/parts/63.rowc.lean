theorem k_Re_rep {l : Launch} {D : DD} (hfl : l.stackTraces = false) {u : Mem} {b : Nat} {r : RW} {c : Nat} {x m k : Int} (hO : ReO u b) (h : RSc u b r c) (h2 : 0 ≤ m_of r c 2 ∧ m_of r c 2 ≤ 20) (hx : x = m_num r k) (hxr : rg x) (hm : m = if r 15 = 1 then 1 else 0) : CT l D yX3_isRepeat cX3_isRepeat 4 (some .boolean) rmX3_isRepeat [xA b, xI x, xI m] u (RT (xI (bI (m_rep r c k = true))) u) := by
  have q := k_Re_isRepeat hfl (D := D) hO hxr (m := m) (by by_cases z : r 15 = 1; (rw [if_pos z] at hm; omega); (rw [if_neg z] at hm; omega)) (by rw [h.1]; exact h2)
  rw [rep_at h h2.1 hm hx] at q
  exact q
theorem rf_teF {f : RW} (rf : RF f) {n : Int} (hn : rg n) (v mo : Int) (h1 : rg (f 1 + 1)) : RF (c_teF f n v mo) := fun j => by
  unfold c_teF
  (repeat' split) <;> first | exact rg_wr _ | exact hn | exact h1 | exact rf _
theorem rf_teM {f h : RW} (rh : RF h) (n mo : Int) : RF (c_teM f h n mo) := by
  unfold c_teM; split
  · exact rf_shift (rf_up rh _ _) _ _
  · exact rf_up rh _ _
theorem ib_row1 {r : RW} (hB : IB r) {c k : Nat} (hc : c < 3) (hk : (k : Int) < r 2) : IB (m_row1 r c k) ∧ (∀ j, (j < 97 ∨ 811 ≤ j) → m_row1 r c k j = r j) ∧ (∀ d : Nat, d < 3 → m_of (m_row1 r c k) d 8 = m_of r d 8 ∧ m_of (m_row1 r c k) d 9 = m_of r d 9 ∧ m_of (m_row1 r c k) d 10 = m_of r d 10 ∧ m_of (m_row1 r c k) d 11 = m_of r d 11 ∧ m_of (m_row1 r c k) d 3 = (if d = c then wr (m_of r c 3 + (if m_rep r c k = true then 0 else 1)) else m_of r d 3)) ∧ ∀ j : Nat, (j : Int) < 200 → m_write (m_row1 r c k) j = m_write r j := by
  obtain ⟨rf, ⟨c1, c2, c3, c4⟩, se, pl, ro, re, ni⟩ := hB
  unfold m_row1
  by_cases q : m_rep r c k = true
  · rw [if_pos q]
    have w1 : ∀ j, j ≠ 697 + 38 * (c : Int) + 5 → (up r (697 + 38 * (c : Int) + 5) (m_of r c 5 + 1)) j = r j := fun j hj => up_n _ _ hj
    have ho : ∀ d : Nat, d < 3 → ∀ x : Int, x ≠ 5 → 0 ≤ x → x < 38 → m_of (up r (697 + 38 * (c : Int) + 5) (m_of r c 5 + 1)) d x = m_of r d x := fun d hd x hx h0 h1 => by unfold m_of; exact w1 _ (by omega)
    refine ⟨⟨rf_up rf _ _, ⟨?_, ?_, ?_, ?_⟩, ?_, fun p hp => ?_, fun j hj => ?_, fun d hd => ?_, ?_⟩, fun j hj => w1 j (by omega), fun d hd => ⟨ho d hd 8 (by decide) (by decide) (by decide), ho d hd 9 (by decide) (by decide) (by decide), ho d hd 10 (by decide) (by decide) (by decide), ho d hd 11 (by decide) (by decide) (by decide), ?_⟩, fun j hj => ?_⟩
    · rw [w1 _ (by omega)]; exact c1
    · rw [w1 _ (by omega), w1 _ (by omega)]; exact c2
    · unfold m_kept at *; rw [w1 _ (by omega), w1 _ (by omega)]; exact c3
    · rw [w1 _ (by omega), w1 _ (by omega), w1 _ (by omega), w1 _ (by omega), w1 _ (by omega)]; exact c4
    · unfold ISe at *; rw [w1 _ (by omega), w1 _ (by omega), w1 _ (by omega), w1 _ (by omega), w1 _ (by omega), w1 _ (by omega), w1 _ (by omega)]; exact se
    · have ep : ∀ x : Int, 0 ≤ x → x < 20 → m_its (up r (697 + 38 * (c : Int) + 5) (m_of r c 5 + 1)) p x = m_its r p x := fun x h1 h2 => by unfold m_its; exact w1 _ (by omega)
      obtain ⟨a1, a2, a3⟩ := pl p hp
      rw [ep 0 (by omega) (by omega), ep 1 (by omega) (by omega), w1 1 (by omega)]
      exact ⟨a1, a2, fun i hi => by rw [ep _ (by omega) (by omega), ep _ (by omega) (by omega), ep _ (by omega) (by omega)]; exact a3 i hi⟩
    · rw [w1 _ (by omega)] at hj
      unfold m_write
      rw [w1 _ (by omega), w1 _ (by omega), w1 _ (by omega), w1 _ (by omega)]; exact ro j hj
    · rw [ho d hd 0 (by decide) (by decide) (by decide), ho d hd 1 (by decide) (by decide) (by decide), ho d hd 2 (by decide) (by decide) (by decide), ho d hd 8 (by decide) (by decide) (by decide), ho d hd 9 (by decide) (by decide) (by decide), ho d hd 11 (by decide) (by decide) (by decide), ho d hd 10 (by decide) (by decide) (by decide), w1 _ (by omega)]; exact re d hd
    · rw [w1 _ (by omega)]; exact ni
    · rw [ho d hd 3 (by decide) (by decide) (by decide)]
      by_cases e : d = c
      · subst e; rw [if_pos rfl, if_pos q, Int.add_zero]; exact (wr_id (rg_of rf _ _)).symm
      · rw [if_neg e]
    · unfold m_write
      exact w1 _ (by omega)
  · rw [if_neg q]
    obtain ⟨n, hn⟩ : ∃ n : Nat, m_of r c 2 = n := ⟨(m_of r c 2).toNat, by have := (re c hc).2.2.1.1; omega⟩
    have hn2 : n ≤ 20 := by have := (re c hc).2.2.1.2; omega
    have h16 := se.2.2.2.2.2.2
    obtain ⟨w1, w2, w3, w4, w5, w6, w7, w8, w9, w10⟩ := works_at rf ro h16.2 hc (by omega) hk hn hn2
    have hor := orc_of (ro k hk).2.2 hc
    have hnp := num_pos ro hk
    have ho : ∀ d : Nat, d < 3 → d ≠ c → ∀ x : Int, 0 ≤ x → x < 38 → m_of (m_works r c k) d x = m_of r d x := fun d hd hx x h0 h1 => by unfold m_of; exact w1 _ (by omega) (by omega)
    refine ⟨⟨rf_works rf _ _, ⟨?_, ?_, ?_, ?_⟩, ?_, fun p hp => ?_, fun j hj => ?_, fun d hd => ?_, ?_⟩, fun j hj => w1 j (by omega) (by omega), fun d hd => ?_, fun j hj => ?_⟩
    · rw [w1 _ (by omega) (by omega)]; exact c1
    · rw [w1 _ (by omega) (by omega), w1 _ (by omega) (by omega)]; exact c2
    · unfold m_kept at *; rw [w1 _ (by omega) (by omega), w1 _ (by omega) (by omega)]; exact c3
    · rw [w1 _ (by omega) (by omega), w1 _ (by omega) (by omega), w1 _ (by omega) (by omega), w1 _ (by omega) (by omega), w1 _ (by omega) (by omega)]; exact c4
    · unfold ISe at *; rw [w1 _ (by omega) (by omega), w1 _ (by omega) (by omega), w1 _ (by omega) (by omega), w1 _ (by omega) (by omega), w1 _ (by omega) (by omega), w1 _ (by omega) (by omega), w1 _ (by omega) (by omega)]; exact se
    · have ep : ∀ x : Int, 0 ≤ x → x < 20 → m_its (m_works r c k) p x = m_its r p x := fun x h1 h2 => by unfold m_its; exact w1 _ (by omega) (by omega)
      obtain ⟨a1, a2, a3⟩ := pl p hp
      rw [ep 0 (by omega) (by omega), ep 1 (by omega) (by omega), w1 1 (by omega) (by omega)]
      exact ⟨a1, a2, fun i hi => by rw [ep _ (by omega) (by omega), ep _ (by omega) (by omega), ep _ (by omega) (by omega)]; exact a3 i hi⟩
    · rw [w1 2 (by omega) (by omega)] at hj
      obtain ⟨a1, a2, a3⟩ := ro j hj
      unfold m_write at *
      rw [w1 (97 + 3 * j) (by omega) (by omega), w1 (97 + 3 * j + 1) (by omega) (by omega), w1 1 (by omega) (by omega)]
      refine ⟨a1, a2, ?_⟩
      by_cases e : j = k
      · subst e; rw [w2]; exact hor.2.2.2.1
      · rw [w1 _ (by omega) (by omega)]; exact a3
    · rw [w1 0 (by omega) (by omega)]
      by_cases e : d = c
      · subst e
        have := re d hd
        rw [w3 0 (by omega), w3 8 (by omega), w3 9 (by omega), w3 10 (by omega), w3 11 (by omega), w4, w5]
        refine ⟨this.1, ?_, ?_, this.2.2.2.1, this.2.2.2.2.1, this.2.2.2.2.2.1, this.2.2.2.2.2.2⟩
        · split <;> omega
        · split <;> omega
      · rw [ho d hd e 0 (by decide) (by decide), ho d hd e 1 (by decide) (by decide), ho d hd e 2 (by decide) (by decide), ho d hd e 8 (by decide) (by decide), ho d hd e 9 (by decide) (by decide), ho d hd e 11 (by decide) (by decide), ho d hd e 10 (by decide) (by decide)]; exact re d hd
    · rw [w1 _ (by omega) (by omega)]; exact ni
    · by_cases e : d = c
      · subst e
        rw [w3 8 (by omega), w3 9 (by omega), w3 10 (by omega), w3 11 (by omega), w6, if_pos rfl, if_neg q]
        exact ⟨rfl, rfl, rfl, rfl, rfl⟩
      · rw [ho d hd e 8 (by decide) (by decide), ho d hd e 9 (by decide) (by decide), ho d hd e 10 (by decide) (by decide), ho d hd e 11 (by decide) (by decide), ho d hd e 3 (by decide) (by decide), if_neg e]
        exact ⟨rfl, rfl, rfl, rfl, rfl⟩
    · have hX : ∀ x, x ≠ 97 + 3 * (k : Int) + 2 → (x < 697 + 38 * (c : Int) ∨ 697 + 38 * (c : Int) + 38 ≤ x) → (m_works r c k) x = r x := w1
      unfold m_write
      exact hX _ (by omega) (by omega)
abbrev rmX5_rowComes : Room := { frames := 1, cells := 0, slots := 0, locals := 24 }
set_option maxRecDepth 100000 in
theorem k_St_rowComes {l : Launch} {D : DD} (hfl : l.stackTraces = false) {u : Mem} {a : Nat} {r : RW} (hS : RS u a r) (hB : IB r) {c k : Nat} (hc : c < 3) (hk : (k : Int) < r 2) : CT l D yX5_rowComes cX5_rowComes 6 (some .int) rmX5_rowComes [xA a, xI k, xI c] u (fun o w => o = some (xI (if m_rep r c k = true then 0 else 1)) ∧ RS w a (m_row1 r c k) ∧ Fr u w (fun q => q = a + 24 ∨ q = a + 28 + 2 * c ∨ q = a + 28 + 2 * c + 1) (fun _ => False)) := by
  have b2 := hB.co.1
  have b3 := hB.co.2.1
  have bk := hB.co.2.2.1
  have rf := hB.rf
  have ha := hS.r.2.2.2.1 k hk
  have hc2 := hS.c hc
  have h20 := (hB.re c hc).2.2.1
  have hnr := num_rg rf hB.ro hk
  have hvr := value_rg hB.ro hk
  have h16 := hB.se.2.2.2.2.2.2
  have hor := orc_of (hB.ro k hk).2.2 hc
  refine CT.of hfl (by decide) (le_b rfl) ?_
  intro C hC hR hL hDD hN
  have hfC : (cxL C).stackTraces = false := by rw [hL]; exact hfl
  show VW C 0 [some (xA a), some (xI k), some (xI c), none, none, none] [] u 0 0
  refine r_aload_n hC dX5_rowComes_0 rfl ?_
  refine r_getR (j := 3) hC dX5_rowComes_1 fl_X5_39 rfl rfl hS.o.o hS.o.p3 ?_
  refine r_iload_n hC dX5_rowComes_4 rfl ?_
  refine r_aald hC dX5_rowComes_5 hS.o.a3 (le_b rfl) (lt_b rfl) ⟨by omega, by omega⟩ (hS.o.pc hc) ?_
  refine r_astore_n (lv' := [_, _, _, _, _, _]) hC dX5_rowComes_6 (lt_b rfl) rfl (lt_b rfl) rfl ?_
  refine r_aload_n hC dX5_rowComes_7 rfl ?_
  refine r_getR (j := 2) hC dX5_rowComes_8 fl_X5_33 rfl rfl hS.o.o hS.o.p2 ?_
  refine r_getR (j := 0) hC dX5_rowComes_11 fl_X5_177 rfl rfl hS.o.r.o hS.o.r.p0 ?_
  refine r_iload_n hC dX5_rowComes_14 rfl ?_
  refine r_ialdv (v := m_num r k) hC dX5_rowComes_15 hS.o.r.a0 ⟨by omega, by omega⟩ ha.1 ?_
  refine r_istore (lv' := [_, _, _, _, _, _]) hC dX5_rowComes_16 (lt_b rfl) rfl (lt_b rfl) rfl ?_
  refine r_aload_n hC dX5_rowComes_18 rfl ?_
  refine r_iload hC dX5_rowComes_19 rfl ?_
  refine r_aload_n hC dX5_rowComes_21 rfl ?_
  refine r_getR (j := 0) hC dX5_rowComes_22 fl_X5_18 rfl rfl hS.o.o hS.o.p0 ?_
  refine r_iconst hC dX5_rowComes_25 ?_
  refine r_ialdv (v := r 15) hC dX5_rowComes_26 hS.o.a0 ⟨by omega, by omega⟩ (hS.set (i := 5) (by decide)) ?_
  refine r_iconst hC dX5_rowComes_27 ?_
  refine r_icmp_ne (t := 35) hC dX5_rowComes_28 (by rfl) (rf_at rf _) ⟨by omega, by omega⟩ (fun h_28 => ?_) (fun h_28 => ?_)
  · skip
    refine r_iconst hC dX5_rowComes_35 ?_
    refine r_V0 hC dX5_rowComes_36 mi_X3_isRepeat se_X3_isRepeat ml_X5_180 (rm := rmX3_isRepeat) rfl (hS.o.c hc).o rfl rfl rfl rfl ⟨le_b rfl, le_b rfl⟩ (k_Re_rep hfC (hS.o.c hc) hc2 h20 rfl hnr (by first | (rw [if_pos (by assumption)]; done) | (rw [if_neg (by assumption)]; done))) ?_ rfl
    refine r_beq (t := 54) hC dX5_rowComes_39 (by rfl) (fun h_39 => ?_) (fun h_39 => ?_)
    · skip
      refine r_iconst hC dX5_rowComes_54 ?_
      refine r_iload_n hC dX5_rowComes_55 rfl ?_
      refine r_ishl hC dX5_rowComes_56 ?_
      refine r_istore (lv' := [_, _, _, _, _, _]) hC dX5_rowComes_57 (lt_b rfl) rfl (lt_b rfl) rfl ?_
      refine r_aload_n hC dX5_rowComes_59 rfl ?_
      refine r_getR (j := 2) hC dX5_rowComes_60 fl_X5_33 rfl rfl hS.o.o hS.o.p2 ?_
      refine r_getR (j := 4) hC dX5_rowComes_63 fl_X5_187 rfl rfl hS.o.r.o hS.o.r.p4 ?_
      refine r_iload_n hC dX5_rowComes_66 rfl ?_
      refine r_ialdv (v := b_and (b_shr (r (97 + 3 * k + 2)) 1) 7) hC dX5_rowComes_67 hS.o.r.a4 ⟨by omega, by omega⟩ ha.2.2.2.2.1 ?_
      refine r_iload hC dX5_rowComes_68 rfl ?_
      refine r_iand hC dX5_rowComes_70 ?_
      have hmk : b_and (b_and (b_shr (r (97 + 3 * k + 2)) 1) 7) (b_shl 1 c) ≠ 0 ↔ m_mark r k (1 + c) = true := by
        rw [hor.2.2.2.2]; unfold m_mark; simp
      refine r_if_eq (t := 84) hC dX5_rowComes_71 (by rfl) (rg_and _ _) (fun h_71 => ?_) (fun h_71 => ?_)
      · skip
        refine r_aload_n hC dX5_rowComes_84 rfl ?_
        refine r_getR (j := 2) hC dX5_rowComes_85 fl_X5_33 rfl rfl hS.o.o hS.o.p2 ?_
        refine r_getR (j := 4) hC dX5_rowComes_88 fl_X5_187 rfl rfl hS.o.r.o hS.o.r.p4 ?_
        refine r_iload_n hC dX5_rowComes_91 rfl ?_
        refine r_dup2 hC dX5_rowComes_92 rfl rfl ?_
        refine r_ialdv (v := b_and (b_shr (r (97 + 3 * k + 2)) 1) 7) hC dX5_rowComes_93 hS.o.r.a4 ⟨by omega, by omega⟩ (by skip; exact ha.2.2.2.2.1) ?_
        refine r_iload hC dX5_rowComes_94 rfl ?_
        refine r_ior hC dX5_rowComes_96 ?_
        refine r_iast hC dX5_rowComes_97 hS.o.r.a4 ⟨by omega, by omega⟩ ?_
        refine r_aload_n hC dX5_rowComes_98 rfl ?_
        refine r_iload hC dX5_rowComes_99 rfl ?_
        refine r_aload_n hC dX5_rowComes_101 rfl ?_
        refine r_getR (j := 2) hC dX5_rowComes_102 fl_X5_33 rfl rfl hS.o.o hS.o.p2 ?_
        refine r_getR (j := 3) hC dX5_rowComes_105 fl_X5_193 rfl rfl hS.o.r.o hS.o.r.p3 ?_
        refine r_iload_n hC dX5_rowComes_108 rfl ?_
        refine r_ialdv (v := m_value r k) hC dX5_rowComes_109 hS.o.r.a3 ⟨by omega, by omega⟩ (by rw [mI_sI_a _ _ _ _ (by omega)]; exact ha.2.2.2.1) ?_
        refine r_aload_n hC dX5_rowComes_110 rfl ?_
        refine r_getR (j := 0) hC dX5_rowComes_111 fl_X5_18 rfl rfl hS.o.o hS.o.p0 ?_
        refine r_bipush hC dX5_rowComes_114 (by rfl) ?_
        refine r_ialdv (v := r 16) hC dX5_rowComes_116 hS.o.a0 ⟨by omega, by omega⟩ (by rw [mI_sI_a _ _ _ _ (by omega)]; exact hS.set (i := 6) (by decide)) ?_
        refine r_V0v (u := (sI u (a + 19 + 5) k (b_or (b_and (b_shr (r (97 + 3 * k + 2)) 1) 7) (b_shl 1 c)))) hC dX5_rowComes_117 mi_X3_takeEffect se_X3_takeEffect ml_X5_194 (rm := rmX3_takeEffect) rfl (hS.o.c hc).o rfl rfl rfl rfl ⟨le_b rfl, le_b rfl⟩ (k_Re_take (u := (sI u (a + 19 + 5) k (b_or (b_and (b_shr (r (97 + 3 * k + 2)) 1) 7) (b_shl 1 c)))) hfC (hS.o.c hc) hnr (rf_at rf _) (by rw [mI_sI_a _ _ _ _ (by omega)]; rw [hc2.1]; exact h20)) ?_ rfl
        refine r_iconst hC dX5_rowComes_120 ?_
        refine r_iret hC hR dX5_rowComes_121 (le_b rfl) (le_b rfl) ?_
        have hu' : mI (sI u (a + 19 + 5) k (b_or (b_and (b_shr (r (97 + 3 * k + 2)) 1) 7) (b_shl 1 c))) (a + 28 + 2 * c) = up (mI u (a + 28 + 2 * c)) 7 (m_of r c 6 + (if m_mark r k (1 + c) = true then 1 else 0)) := by
          rw [up_mI_n _ _ _ (by omega), if_neg (fun z => hmk.mpr z h_71)]
          rw [← hc2.2.2.2.2.2.2.1]; exact (up_self (rf_mI _ _) 7).symm
        have hu1 : mI (sI u (a + 19 + 5) k (b_or (b_and (b_shr (r (97 + 3 * k + 2)) 1) 7) (b_shl 1 c))) (a + 28 + 2 * c + 1) = mI u (a + 28 + 2 * c + 1) := by
          rw [up_mI_n _ _ _ (by omega)]
        refine ⟨by rw [if_neg h_39], ?_, ?_⟩
        · unfold m_row1; rw [if_neg h_39]
          have r1 : RF (c_teF (mI (sI u (a + 19 + 5) k (b_or (b_and (b_shr (r (97 + 3 * k + 2)) 1) 7) (b_shl 1 c))) (a + 28 + 2 * c)) (m_num r k) (m_value r k) (r 16)) := rf_teF (rf_mI _ _) hnr _ _ (by rw [hu', up_n _ _ (by decide), hc2.1]; exact ⟨by omega, by omega⟩)
          have r2 : RF (c_teM (mI (sI u (a + 19 + 5) k (b_or (b_and (b_shr (r (97 + 3 * k + 2)) 1) 7) (b_shl 1 c))) (a + 28 + 2 * c)) (mI (sI u (a + 19 + 5) k (b_or (b_and (b_shr (r (97 + 3 * k + 2)) 1) 7) (b_shl 1 c))) (a + 28 + 2 * c + 1)) (m_num r k) (r 16)) := rf_teM (rf_mI _ _) _ _
          refine rs_effect hS hB hc hk ?_ ?_ ?_ ?_
          · repeat (first | exact Fr.refl _ _ _ | refine Fr.sI ?_ _ _ (by omega) | refine Fr.sA ?_ _ (by omega))
          · rw [mI_sA_n _ _ (by omega), mI_sA_n _ _ (by omega)]
            rw [show a + 24 = a + 19 + 5 by omega, up_mI, ha.2.2.2.2.1]
          · rw [mI_sA_n _ _ (by omega), mI_sA_f _ _ r1, hu']
          · rw [mI_sA_f _ _ r2, hu', hu1]; unfold c_teM; rw [up_n _ _ (by decide)]
        · repeat (first | exact Fr.refl _ _ _ | refine Fr.sI ?_ _ _ (by omega) | refine Fr.sA ?_ _ (by omega))
      · skip
        refine r_aload_n hC dX5_rowComes_74 rfl ?_
        refine r_dup hC dX5_rowComes_75 rfl ?_
        refine r_getIv (j := 7) (v := m_of r c 6) hC dX5_rowComes_76 fl_X5_190 rfl rfl (hS.o.c hc).o hc2.2.2.2.2.2.2.1 ?_
        refine r_iconst hC dX5_rowComes_79 ?_
        refine r_iadd hC dX5_rowComes_80 ?_
        refine r_putI (j := 7) hC dX5_rowComes_81 fl_X5_190 rfl (hS.o.c hc).o (by rintro _ ⟨⟩; rfl) (Or.inl rfl) ?_
        refine r_aload_n hC dX5_rowComes_84 rfl ?_
        refine r_getR (j := 2) hC dX5_rowComes_85 fl_X5_33 rfl rfl hS.o.o hS.o.p2 ?_
        refine r_getR (j := 4) hC dX5_rowComes_88 fl_X5_187 rfl rfl hS.o.r.o hS.o.r.p4 ?_
        refine r_iload_n hC dX5_rowComes_91 rfl ?_
        refine r_dup2 hC dX5_rowComes_92 rfl rfl ?_
        refine r_ialdv (v := b_and (b_shr (r (97 + 3 * k + 2)) 1) 7) hC dX5_rowComes_93 hS.o.r.a4 ⟨by omega, by omega⟩ (by rw [mI_sI_a _ _ _ _ (by omega)]; exact ha.2.2.2.2.1) ?_
        refine r_iload hC dX5_rowComes_94 rfl ?_
        refine r_ior hC dX5_rowComes_96 ?_
        refine r_iast hC dX5_rowComes_97 hS.o.r.a4 ⟨by omega, by omega⟩ ?_
        refine r_aload_n hC dX5_rowComes_98 rfl ?_
        refine r_iload hC dX5_rowComes_99 rfl ?_
        refine r_aload_n hC dX5_rowComes_101 rfl ?_
        refine r_getR (j := 2) hC dX5_rowComes_102 fl_X5_33 rfl rfl hS.o.o hS.o.p2 ?_
        refine r_getR (j := 3) hC dX5_rowComes_105 fl_X5_193 rfl rfl hS.o.r.o hS.o.r.p3 ?_
        refine r_iload_n hC dX5_rowComes_108 rfl ?_
        refine r_ialdv (v := m_value r k) hC dX5_rowComes_109 hS.o.r.a3 ⟨by omega, by omega⟩ (by rw [mI_sI_a _ _ _ _ (by omega), mI_sI_a _ _ _ _ (by omega)]; exact ha.2.2.2.1) ?_
        refine r_aload_n hC dX5_rowComes_110 rfl ?_
        refine r_getR (j := 0) hC dX5_rowComes_111 fl_X5_18 rfl rfl hS.o.o hS.o.p0 ?_
        refine r_bipush hC dX5_rowComes_114 (by rfl) ?_
        refine r_ialdv (v := r 16) hC dX5_rowComes_116 hS.o.a0 ⟨by omega, by omega⟩ (by rw [mI_sI_a _ _ _ _ (by omega), mI_sI_a _ _ _ _ (by omega)]; exact hS.set (i := 6) (by decide)) ?_
        refine r_V0v (u := (sI (sI u (a + 28 + 2 * c) 7 (m_of r c 6 + 1)) (a + 19 + 5) k (b_or (b_and (b_shr (r (97 + 3 * k + 2)) 1) 7) (b_shl 1 c)))) hC dX5_rowComes_117 mi_X3_takeEffect se_X3_takeEffect ml_X5_194 (rm := rmX3_takeEffect) rfl (hS.o.c hc).o rfl rfl rfl rfl ⟨le_b rfl, le_b rfl⟩ (k_Re_take (u := (sI (sI u (a + 28 + 2 * c) 7 (m_of r c 6 + 1)) (a + 19 + 5) k (b_or (b_and (b_shr (r (97 + 3 * k + 2)) 1) 7) (b_shl 1 c)))) hfC (hS.o.c hc) hnr (rf_at rf _) (by rw [mI_sI_a _ _ _ _ (by omega), mI_sI_k _ _ _ _ (by decide)]; rw [hc2.1]; exact h20)) ?_ rfl
        refine r_iconst hC dX5_rowComes_120 ?_
        refine r_iret hC hR dX5_rowComes_121 (le_b rfl) (le_b rfl) ?_
        have hu' : mI (sI (sI u (a + 28 + 2 * c) 7 (m_of r c 6 + 1)) (a + 19 + 5) k (b_or (b_and (b_shr (r (97 + 3 * k + 2)) 1) 7) (b_shl 1 c))) (a + 28 + 2 * c) = up (mI u (a + 28 + 2 * c)) 7 (m_of r c 6 + (if m_mark r k (1 + c) = true then 1 else 0)) := by
          rw [up_mI_n _ _ _ (by omega), up_mI, if_pos (hmk.mp h_71)]
        have hu1 : mI (sI (sI u (a + 28 + 2 * c) 7 (m_of r c 6 + 1)) (a + 19 + 5) k (b_or (b_and (b_shr (r (97 + 3 * k + 2)) 1) 7) (b_shl 1 c))) (a + 28 + 2 * c + 1) = mI u (a + 28 + 2 * c + 1) := by
          rw [up_mI_n _ _ _ (by omega), up_mI_n _ _ _ (by omega)]
        refine ⟨by rw [if_neg h_39], ?_, ?_⟩
        · unfold m_row1; rw [if_neg h_39]
          have r1 : RF (c_teF (mI (sI (sI u (a + 28 + 2 * c) 7 (m_of r c 6 + 1)) (a + 19 + 5) k (b_or (b_and (b_shr (r (97 + 3 * k + 2)) 1) 7) (b_shl 1 c))) (a + 28 + 2 * c)) (m_num r k) (m_value r k) (r 16)) := rf_teF (rf_mI _ _) hnr _ _ (by rw [hu', up_n _ _ (by decide), hc2.1]; exact ⟨by omega, by omega⟩)
          have r2 : RF (c_teM (mI (sI (sI u (a + 28 + 2 * c) 7 (m_of r c 6 + 1)) (a + 19 + 5) k (b_or (b_and (b_shr (r (97 + 3 * k + 2)) 1) 7) (b_shl 1 c))) (a + 28 + 2 * c)) (mI (sI (sI u (a + 28 + 2 * c) 7 (m_of r c 6 + 1)) (a + 19 + 5) k (b_or (b_and (b_shr (r (97 + 3 * k + 2)) 1) 7) (b_shl 1 c))) (a + 28 + 2 * c + 1)) (m_num r k) (r 16)) := rf_teM (rf_mI _ _) _ _
          refine rs_effect hS hB hc hk ?_ ?_ ?_ ?_
          · repeat (first | exact Fr.refl _ _ _ | refine Fr.sI ?_ _ _ (by omega) | refine Fr.sA ?_ _ (by omega))
          · rw [mI_sA_n _ _ (by omega), mI_sA_n _ _ (by omega)]
            rw [show a + 24 = a + 19 + 5 by omega, up_mI, up_mI_n _ _ _ (by omega), ha.2.2.2.2.1]
          · rw [mI_sA_n _ _ (by omega), mI_sA_f _ _ r1, hu']
          · rw [mI_sA_f _ _ r2, hu', hu1]; unfold c_teM; rw [up_n _ _ (by decide)]
        · repeat (first | exact Fr.refl _ _ _ | refine Fr.sI ?_ _ _ (by omega) | refine Fr.sA ?_ _ (by omega))
    · skip
      refine r_aload_n hC dX5_rowComes_42 rfl ?_
      refine r_dup hC dX5_rowComes_43 rfl ?_
      refine r_getIv (j := 6) (v := m_of r c 5) hC dX5_rowComes_44 fl_X5_184 rfl rfl (hS.o.c hc).o hc2.2.2.2.2.2.1 ?_
      refine r_iconst hC dX5_rowComes_47 ?_
      refine r_iadd hC dX5_rowComes_48 ?_
      refine r_putI (j := 6) hC dX5_rowComes_49 fl_X5_184 rfl (hS.o.c hc).o (by rintro _ ⟨⟩; rfl) (Or.inl rfl) ?_
      refine r_iconst hC dX5_rowComes_52 ?_
      refine r_iret hC hR dX5_rowComes_53 (le_b rfl) (le_b rfl) ?_
      refine ⟨by rw [if_pos h_39], ?_, ?_⟩
      · unfold m_row1; rw [if_pos h_39]; exact rs_repeat hS hB hc
      · exact (Fr.refl _ _ _).sI _ _ (by omega)
  · skip
    refine r_iconst hC dX5_rowComes_31 ?_
    refine r_goto (t := 36) hC dX5_rowComes_32 (by rfl) ?_
    refine r_V0 hC dX5_rowComes_36 mi_X3_isRepeat se_X3_isRepeat ml_X5_180 (rm := rmX3_isRepeat) rfl (hS.o.c hc).o rfl rfl rfl rfl ⟨le_b rfl, le_b rfl⟩ (k_Re_rep hfC (hS.o.c hc) hc2 h20 rfl hnr (by first | (rw [if_pos (by assumption)]; done) | (rw [if_neg (by assumption)]; done))) ?_ rfl
    refine r_beq (t := 54) hC dX5_rowComes_39 (by rfl) (fun h_39 => ?_) (fun h_39 => ?_)
    · skip
      refine r_iconst hC dX5_rowComes_54 ?_
      refine r_iload_n hC dX5_rowComes_55 rfl ?_
      refine r_ishl hC dX5_rowComes_56 ?_
      refine r_istore (lv' := [_, _, _, _, _, _]) hC dX5_rowComes_57 (lt_b rfl) rfl (lt_b rfl) rfl ?_
      refine r_aload_n hC dX5_rowComes_59 rfl ?_
      refine r_getR (j := 2) hC dX5_rowComes_60 fl_X5_33 rfl rfl hS.o.o hS.o.p2 ?_
      refine r_getR (j := 4) hC dX5_rowComes_63 fl_X5_187 rfl rfl hS.o.r.o hS.o.r.p4 ?_
      refine r_iload_n hC dX5_rowComes_66 rfl ?_
      refine r_ialdv (v := b_and (b_shr (r (97 + 3 * k + 2)) 1) 7) hC dX5_rowComes_67 hS.o.r.a4 ⟨by omega, by omega⟩ ha.2.2.2.2.1 ?_
      refine r_iload hC dX5_rowComes_68 rfl ?_
      refine r_iand hC dX5_rowComes_70 ?_
      have hmk : b_and (b_and (b_shr (r (97 + 3 * k + 2)) 1) 7) (b_shl 1 c) ≠ 0 ↔ m_mark r k (1 + c) = true := by
        rw [hor.2.2.2.2]; unfold m_mark; simp
      refine r_if_eq (t := 84) hC dX5_rowComes_71 (by rfl) (rg_and _ _) (fun h_71 => ?_) (fun h_71 => ?_)
      · skip
        refine r_aload_n hC dX5_rowComes_84 rfl ?_
        refine r_getR (j := 2) hC dX5_rowComes_85 fl_X5_33 rfl rfl hS.o.o hS.o.p2 ?_
        refine r_getR (j := 4) hC dX5_rowComes_88 fl_X5_187 rfl rfl hS.o.r.o hS.o.r.p4 ?_
        refine r_iload_n hC dX5_rowComes_91 rfl ?_
        refine r_dup2 hC dX5_rowComes_92 rfl rfl ?_
        refine r_ialdv (v := b_and (b_shr (r (97 + 3 * k + 2)) 1) 7) hC dX5_rowComes_93 hS.o.r.a4 ⟨by omega, by omega⟩ (by skip; exact ha.2.2.2.2.1) ?_
        refine r_iload hC dX5_rowComes_94 rfl ?_
        refine r_ior hC dX5_rowComes_96 ?_
        refine r_iast hC dX5_rowComes_97 hS.o.r.a4 ⟨by omega, by omega⟩ ?_
        refine r_aload_n hC dX5_rowComes_98 rfl ?_
        refine r_iload hC dX5_rowComes_99 rfl ?_
        refine r_aload_n hC dX5_rowComes_101 rfl ?_
        refine r_getR (j := 2) hC dX5_rowComes_102 fl_X5_33 rfl rfl hS.o.o hS.o.p2 ?_
        refine r_getR (j := 3) hC dX5_rowComes_105 fl_X5_193 rfl rfl hS.o.r.o hS.o.r.p3 ?_
        refine r_iload_n hC dX5_rowComes_108 rfl ?_
        refine r_ialdv (v := m_value r k) hC dX5_rowComes_109 hS.o.r.a3 ⟨by omega, by omega⟩ (by rw [mI_sI_a _ _ _ _ (by omega)]; exact ha.2.2.2.1) ?_
        refine r_aload_n hC dX5_rowComes_110 rfl ?_
        refine r_getR (j := 0) hC dX5_rowComes_111 fl_X5_18 rfl rfl hS.o.o hS.o.p0 ?_
        refine r_bipush hC dX5_rowComes_114 (by rfl) ?_
        refine r_ialdv (v := r 16) hC dX5_rowComes_116 hS.o.a0 ⟨by omega, by omega⟩ (by rw [mI_sI_a _ _ _ _ (by omega)]; exact hS.set (i := 6) (by decide)) ?_
        refine r_V0v (u := (sI u (a + 19 + 5) k (b_or (b_and (b_shr (r (97 + 3 * k + 2)) 1) 7) (b_shl 1 c)))) hC dX5_rowComes_117 mi_X3_takeEffect se_X3_takeEffect ml_X5_194 (rm := rmX3_takeEffect) rfl (hS.o.c hc).o rfl rfl rfl rfl ⟨le_b rfl, le_b rfl⟩ (k_Re_take (u := (sI u (a + 19 + 5) k (b_or (b_and (b_shr (r (97 + 3 * k + 2)) 1) 7) (b_shl 1 c)))) hfC (hS.o.c hc) hnr (rf_at rf _) (by rw [mI_sI_a _ _ _ _ (by omega)]; rw [hc2.1]; exact h20)) ?_ rfl
        refine r_iconst hC dX5_rowComes_120 ?_
        refine r_iret hC hR dX5_rowComes_121 (le_b rfl) (le_b rfl) ?_
        have hu' : mI (sI u (a + 19 + 5) k (b_or (b_and (b_shr (r (97 + 3 * k + 2)) 1) 7) (b_shl 1 c))) (a + 28 + 2 * c) = up (mI u (a + 28 + 2 * c)) 7 (m_of r c 6 + (if m_mark r k (1 + c) = true then 1 else 0)) := by
          rw [up_mI_n _ _ _ (by omega), if_neg (fun z => hmk.mpr z h_71)]
          rw [← hc2.2.2.2.2.2.2.1]; exact (up_self (rf_mI _ _) 7).symm
        have hu1 : mI (sI u (a + 19 + 5) k (b_or (b_and (b_shr (r (97 + 3 * k + 2)) 1) 7) (b_shl 1 c))) (a + 28 + 2 * c + 1) = mI u (a + 28 + 2 * c + 1) := by
          rw [up_mI_n _ _ _ (by omega)]
        refine ⟨by rw [if_neg h_39], ?_, ?_⟩
        · unfold m_row1; rw [if_neg h_39]
          have r1 : RF (c_teF (mI (sI u (a + 19 + 5) k (b_or (b_and (b_shr (r (97 + 3 * k + 2)) 1) 7) (b_shl 1 c))) (a + 28 + 2 * c)) (m_num r k) (m_value r k) (r 16)) := rf_teF (rf_mI _ _) hnr _ _ (by rw [hu', up_n _ _ (by decide), hc2.1]; exact ⟨by omega, by omega⟩)
          have r2 : RF (c_teM (mI (sI u (a + 19 + 5) k (b_or (b_and (b_shr (r (97 + 3 * k + 2)) 1) 7) (b_shl 1 c))) (a + 28 + 2 * c)) (mI (sI u (a + 19 + 5) k (b_or (b_and (b_shr (r (97 + 3 * k + 2)) 1) 7) (b_shl 1 c))) (a + 28 + 2 * c + 1)) (m_num r k) (r 16)) := rf_teM (rf_mI _ _) _ _
          refine rs_effect hS hB hc hk ?_ ?_ ?_ ?_
          · repeat (first | exact Fr.refl _ _ _ | refine Fr.sI ?_ _ _ (by omega) | refine Fr.sA ?_ _ (by omega))
          · rw [mI_sA_n _ _ (by omega), mI_sA_n _ _ (by omega)]
            rw [show a + 24 = a + 19 + 5 by omega, up_mI, ha.2.2.2.2.1]
          · rw [mI_sA_n _ _ (by omega), mI_sA_f _ _ r1, hu']
          · rw [mI_sA_f _ _ r2, hu', hu1]; unfold c_teM; rw [up_n _ _ (by decide)]
        · repeat (first | exact Fr.refl _ _ _ | refine Fr.sI ?_ _ _ (by omega) | refine Fr.sA ?_ _ (by omega))
      · skip
        refine r_aload_n hC dX5_rowComes_74 rfl ?_
        refine r_dup hC dX5_rowComes_75 rfl ?_
        refine r_getIv (j := 7) (v := m_of r c 6) hC dX5_rowComes_76 fl_X5_190 rfl rfl (hS.o.c hc).o hc2.2.2.2.2.2.2.1 ?_
        refine r_iconst hC dX5_rowComes_79 ?_
        refine r_iadd hC dX5_rowComes_80 ?_
        refine r_putI (j := 7) hC dX5_rowComes_81 fl_X5_190 rfl (hS.o.c hc).o (by rintro _ ⟨⟩; rfl) (Or.inl rfl) ?_
        refine r_aload_n hC dX5_rowComes_84 rfl ?_
        refine r_getR (j := 2) hC dX5_rowComes_85 fl_X5_33 rfl rfl hS.o.o hS.o.p2 ?_
        refine r_getR (j := 4) hC dX5_rowComes_88 fl_X5_187 rfl rfl hS.o.r.o hS.o.r.p4 ?_
        refine r_iload_n hC dX5_rowComes_91 rfl ?_
        refine r_dup2 hC dX5_rowComes_92 rfl rfl ?_
        refine r_ialdv (v := b_and (b_shr (r (97 + 3 * k + 2)) 1) 7) hC dX5_rowComes_93 hS.o.r.a4 ⟨by omega, by omega⟩ (by rw [mI_sI_a _ _ _ _ (by omega)]; exact ha.2.2.2.2.1) ?_
        refine r_iload hC dX5_rowComes_94 rfl ?_
        refine r_ior hC dX5_rowComes_96 ?_
        refine r_iast hC dX5_rowComes_97 hS.o.r.a4 ⟨by omega, by omega⟩ ?_
        refine r_aload_n hC dX5_rowComes_98 rfl ?_
        refine r_iload hC dX5_rowComes_99 rfl ?_
        refine r_aload_n hC dX5_rowComes_101 rfl ?_
        refine r_getR (j := 2) hC dX5_rowComes_102 fl_X5_33 rfl rfl hS.o.o hS.o.p2 ?_
        refine r_getR (j := 3) hC dX5_rowComes_105 fl_X5_193 rfl rfl hS.o.r.o hS.o.r.p3 ?_
        refine r_iload_n hC dX5_rowComes_108 rfl ?_
        refine r_ialdv (v := m_value r k) hC dX5_rowComes_109 hS.o.r.a3 ⟨by omega, by omega⟩ (by rw [mI_sI_a _ _ _ _ (by omega), mI_sI_a _ _ _ _ (by omega)]; exact ha.2.2.2.1) ?_
        refine r_aload_n hC dX5_rowComes_110 rfl ?_
        refine r_getR (j := 0) hC dX5_rowComes_111 fl_X5_18 rfl rfl hS.o.o hS.o.p0 ?_
        refine r_bipush hC dX5_rowComes_114 (by rfl) ?_
        refine r_ialdv (v := r 16) hC dX5_rowComes_116 hS.o.a0 ⟨by omega, by omega⟩ (by rw [mI_sI_a _ _ _ _ (by omega), mI_sI_a _ _ _ _ (by omega)]; exact hS.set (i := 6) (by decide)) ?_
        refine r_V0v (u := (sI (sI u (a + 28 + 2 * c) 7 (m_of r c 6 + 1)) (a + 19 + 5) k (b_or (b_and (b_shr (r (97 + 3 * k + 2)) 1) 7) (b_shl 1 c)))) hC dX5_rowComes_117 mi_X3_takeEffect se_X3_takeEffect ml_X5_194 (rm := rmX3_takeEffect) rfl (hS.o.c hc).o rfl rfl rfl rfl ⟨le_b rfl, le_b rfl⟩ (k_Re_take (u := (sI (sI u (a + 28 + 2 * c) 7 (m_of r c 6 + 1)) (a + 19 + 5) k (b_or (b_and (b_shr (r (97 + 3 * k + 2)) 1) 7) (b_shl 1 c)))) hfC (hS.o.c hc) hnr (rf_at rf _) (by rw [mI_sI_a _ _ _ _ (by omega), mI_sI_k _ _ _ _ (by decide)]; rw [hc2.1]; exact h20)) ?_ rfl
        refine r_iconst hC dX5_rowComes_120 ?_
        refine r_iret hC hR dX5_rowComes_121 (le_b rfl) (le_b rfl) ?_
        have hu' : mI (sI (sI u (a + 28 + 2 * c) 7 (m_of r c 6 + 1)) (a + 19 + 5) k (b_or (b_and (b_shr (r (97 + 3 * k + 2)) 1) 7) (b_shl 1 c))) (a + 28 + 2 * c) = up (mI u (a + 28 + 2 * c)) 7 (m_of r c 6 + (if m_mark r k (1 + c) = true then 1 else 0)) := by
          rw [up_mI_n _ _ _ (by omega), up_mI, if_pos (hmk.mp h_71)]
        have hu1 : mI (sI (sI u (a + 28 + 2 * c) 7 (m_of r c 6 + 1)) (a + 19 + 5) k (b_or (b_and (b_shr (r (97 + 3 * k + 2)) 1) 7) (b_shl 1 c))) (a + 28 + 2 * c + 1) = mI u (a + 28 + 2 * c + 1) := by
          rw [up_mI_n _ _ _ (by omega), up_mI_n _ _ _ (by omega)]
        refine ⟨by rw [if_neg h_39], ?_, ?_⟩
        · unfold m_row1; rw [if_neg h_39]
          have r1 : RF (c_teF (mI (sI (sI u (a + 28 + 2 * c) 7 (m_of r c 6 + 1)) (a + 19 + 5) k (b_or (b_and (b_shr (r (97 + 3 * k + 2)) 1) 7) (b_shl 1 c))) (a + 28 + 2 * c)) (m_num r k) (m_value r k) (r 16)) := rf_teF (rf_mI _ _) hnr _ _ (by rw [hu', up_n _ _ (by decide), hc2.1]; exact ⟨by omega, by omega⟩)
          have r2 : RF (c_teM (mI (sI (sI u (a + 28 + 2 * c) 7 (m_of r c 6 + 1)) (a + 19 + 5) k (b_or (b_and (b_shr (r (97 + 3 * k + 2)) 1) 7) (b_shl 1 c))) (a + 28 + 2 * c)) (mI (sI (sI u (a + 28 + 2 * c) 7 (m_of r c 6 + 1)) (a + 19 + 5) k (b_or (b_and (b_shr (r (97 + 3 * k + 2)) 1) 7) (b_shl 1 c))) (a + 28 + 2 * c + 1)) (m_num r k) (r 16)) := rf_teM (rf_mI _ _) _ _
          refine rs_effect hS hB hc hk ?_ ?_ ?_ ?_
          · repeat (first | exact Fr.refl _ _ _ | refine Fr.sI ?_ _ _ (by omega) | refine Fr.sA ?_ _ (by omega))
          · rw [mI_sA_n _ _ (by omega), mI_sA_n _ _ (by omega)]
            rw [show a + 24 = a + 19 + 5 by omega, up_mI, up_mI_n _ _ _ (by omega), ha.2.2.2.2.1]
          · rw [mI_sA_n _ _ (by omega), mI_sA_f _ _ r1, hu']
          · rw [mI_sA_f _ _ r2, hu', hu1]; unfold c_teM; rw [up_n _ _ (by decide)]
        · repeat (first | exact Fr.refl _ _ _ | refine Fr.sI ?_ _ _ (by omega) | refine Fr.sA ?_ _ (by omega))
    · skip
      refine r_aload_n hC dX5_rowComes_42 rfl ?_
      refine r_dup hC dX5_rowComes_43 rfl ?_
      refine r_getIv (j := 6) (v := m_of r c 5) hC dX5_rowComes_44 fl_X5_184 rfl rfl (hS.o.c hc).o hc2.2.2.2.2.2.1 ?_
      refine r_iconst hC dX5_rowComes_47 ?_
      refine r_iadd hC dX5_rowComes_48 ?_
      refine r_putI (j := 6) hC dX5_rowComes_49 fl_X5_184 rfl (hS.o.c hc).o (by rintro _ ⟨⟩; rfl) (Or.inl rfl) ?_
      refine r_iconst hC dX5_rowComes_52 ?_
      refine r_iret hC hR dX5_rowComes_53 (le_b rfl) (le_b rfl) ?_
      refine ⟨by rw [if_pos h_39], ?_, ?_⟩
      · unfold m_row1; rw [if_pos h_39]; exact rs_repeat hS hB hc
      · exact (Fr.refl _ _ _).sI _ _ (by omega)
