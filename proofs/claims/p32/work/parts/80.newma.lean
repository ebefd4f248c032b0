/-! a new mail -/
theorem Bel.nC {u w : Mem} {lo : Nat} (h : Bel u w lo) (hq : lo ≤ mN w) (sh : Option (Nat ⊕ (Nat × Nat))) : Bel u (nC w sh) lo := fun a ha => by
  obtain ⟨a1, a2, a3, a4⟩ := h a ha
  refine ⟨?_, ?_, ?_, ?_⟩
  · rw [mSh_nC, if_neg (by omega)]; exact a1
  · funext j; rw [mI_nC, if_neg (by omega), a2]
  · funext j; rw [mP_nC, if_neg (by omega), a3]
  · funext j; rw [mJ_nC, if_neg (by omega), a4]
theorem Bel.sP {u w : Mem} {lo : Nat} (h : Bel u w lo) {q : Nat} (hq : lo ≤ q) (k : Int) (v : Option Nat) : Bel u (sP w q k v) lo := fun a ha => by
  obtain ⟨a1, a2, a3, a4⟩ := h a ha
  refine ⟨a1, a2, ?_, a4⟩
  funext j; rw [mP_sP_a _ _ _ _ (by omega), a3]
def ms0 : RW := (up (up (up (up (up (fun _ => 0) 1 0) 2 0) 3 0) 4 0) 5 (-1))
def MW (u : Mem) (b i : Nat) (w : Mem) : Prop := mN w = b + 2 + 2 * i ∧ Bel u w b ∧ mSh w b = some (.inl 0) ∧ mP w b 0 = some (b + 1) ∧ mSh w (b + 1) = some (.inr (5, 55)) ∧ (mI w b = fun _ => 0) ∧ ∀ t : Nat, t < i → MsO w (b + 2 + 2 * t) ∧ mI w (b + 2 + 2 * t) = ms0 ∧ (mI w (b + 2 + 2 * t + 1) = fun _ => 0) ∧ mP w (b + 1) t = some (b + 2 + 2 * t)
theorem mw_step {u w w2 : Mem} {b i : Nat} (h : MW u b i w) (m1 : mN w2 = b + 2 + 2 * i + 1 + 1) (m2 : Bel (nC w (some (.inl 1))) w2 (b + 2 + 2 * i)) (m3 : MsO w2 (b + 2 + 2 * i)) (m4 : mI w2 (b + 2 + 2 * i) = ms0) (m5 : ∀ q, b + 2 + 2 * i < q → q < b + 2 + 2 * i + 1 + 1 → mI w2 q = fun _ => 0) : MW u b (i + 1) (sP w2 (b + 1) i (some (b + 2 + 2 * i))) := by
  obtain ⟨h1, h2, h3, h4, h5, h6, h7⟩ := h
  have hb : Bel w w2 (b + 2 + 2 * i) := ((Bel.refl w (b + 2 + 2 * i)).nC (by omega) _).trans m2 (Nat.le_refl _)
  refine ⟨by rw [mN_sP, m1]; omega, ?_, ?_, ?_, ?_, ?_, fun t ht => ?_⟩
  · exact (h2.trans hb (by omega)).sP (by omega) _ _
  · rw [mSh_sP, (hb b (by omega)).1]; exact h3
  · rw [mP_sP_a _ _ _ _ (by omega), (hb b (by omega)).2.2.1]; exact h4
  · rw [mSh_sP, (hb (b + 1) (by omega)).1]; exact h5
  · rw [mI_sP, (hb b (by omega)).2.1]; exact h6
  · by_cases q : t = i
    · subst q
      refine ⟨⟨m3.1, ?_, m3.2.2⟩, m4, m5 _ (by omega) (by omega), mP_sP_s _ _ _ _⟩
      rw [mP_sP_a _ _ _ _ (by omega)]; exact m3.2.1
    · obtain ⟨g1, g2, g3, g4⟩ := h7 t (by omega)
      have e1 := hb (b + 2 + 2 * t) (by omega)
      have e2 := hb (b + 2 + 2 * t + 1) (by omega)
      refine ⟨⟨?_, ?_, ?_⟩, ?_, ?_, ?_⟩
      · rw [mSh_sP, e1.1]; exact g1.1
      · rw [mP_sP_a _ _ _ _ (by omega), e1.2.2.1]; exact g1.2.1
      · rw [mSh_sP, e2.1]; exact g1.2.2
      · rw [mI_sP, e1.2.1]; exact g2
      · rw [mI_sP, e2.2.1]; exact g3
      · rw [mP_sP_k _ _ _ _ (by omega), (hb (b + 1) (by omega)).2.2.1]; exact g4
def MaN (u : Mem) (b : Nat) (w : Mem) : Prop := mN w = b + 112 ∧ Bel u w b ∧ MaO w b ∧ (∀ j : Int, mI w b j = 0) ∧ (∀ j : Nat, j < 55 → mP w (b + 1) j = some (b + 2 + 2 * j)) ∧ ∀ t : Nat, t < 55 → mI w (b + 2 + 2 * t) = ms0 ∧ mI w (b + 2 + 2 * t + 1) = fun _ => 0
abbrev rmX0_init : Room := { frames := 2, cells := 111, slots := 825, locals := 32 }
set_option maxRecDepth 100000 in
theorem n_Ma {l : Launch} {D : DD} (hfl : l.stackTraces = false) {u : Mem} {b : Nat} (hNu : mN u = b + 1) (hsu : mSh u b = some (.inl 0)) (hzu : mI u b = fun _ => 0) : CT l D yX0_init cX0_init 2 none rmX0_init [xA b] u (fun x w => x = none ∧ MaN u b w) := by
  have A0 : NW u u b 0 0 := NW.begin hNu hsu
  refine CT.of hfl (by decide) (le_b rfl) ?_
  intro C hC hR hL hDD hN
  have hfC : (cxL C).stackTraces = false := by rw [hL]; exact hfl
  have lp : ∀ (n i : Nat) (w : Mem), 55 - i = n → i ≤ 55 → MW u b i w → VW C 15 [some (xA b), some (xI i)] [] w (1 + 2 * i) (55 + 14 * i) := by
    intro n
    induction n using Nat.strongRecOn with
    | _ n ih =>
      intro i w hn hi hW
      refine r_iload_n hC dX0_init_15 rfl ?_
      refine r_bipush hC dX0_init_16 (by rfl) ?_
      refine r_icmp_gt (t := 40) hC dX0_init_18 (by rfl) ⟨by omega, by omega⟩ ⟨by omega, by omega⟩ (fun h_18 => ?_) (fun h_18 => ?_)
      · skip
        have hi55 : i = 55 := by omega
        subst hi55
        have hsw : mSh w b = some (.inl 0) := hW.2.2.1
        refine r_aload_n hC dX0_init_40 rfl ?_
        refine r_iconst hC dX0_init_41 ?_
        refine r_putI (j := 1) hC dX0_init_42 fl_X0_18 rfl hsw (by rintro _ ⟨⟩; rfl) (Or.inl rfl) ?_
        refine r_aload_n hC dX0_init_45 rfl ?_
        refine r_iconst hC dX0_init_46 ?_
        refine r_putI (j := 2) hC dX0_init_47 fl_X0_22 rfl hsw (by rintro _ ⟨⟩; rfl) (Or.inl rfl) ?_
        refine r_aload_n hC dX0_init_50 rfl ?_
        refine r_iconst hC dX0_init_51 ?_
        refine r_putI (j := 3) hC dX0_init_52 fl_X0_25 rfl hsw (by rintro _ ⟨⟩; rfl) (Or.inl rfl) ?_
        refine r_aload_n hC dX0_init_55 rfl ?_
        refine r_iconst hC dX0_init_56 ?_
        refine r_putI (j := 4) hC dX0_init_57 fl_X0_28 rfl hsw (by rintro _ ⟨⟩; rfl) (Or.inl rfl) ?_
        refine r_aload_n hC dX0_init_60 rfl ?_
        refine r_iconst hC dX0_init_61 ?_
        refine r_putI (j := 5) hC dX0_init_62 fl_X0_31 rfl hsw (by rintro _ ⟨⟩; rfl) (Or.inl rfl) ?_
        refine r_aload_n hC dX0_init_65 rfl ?_
        refine r_iconst hC dX0_init_66 ?_
        refine r_putI (j := 6) hC dX0_init_67 fl_X0_34 rfl hsw (by rintro _ ⟨⟩; rfl) (Or.inl rfl) ?_
        refine r_vret hC hR dX0_init_70 (le_b rfl) (le_b rfl) ?_
        obtain ⟨h1, h2, h3, h4, h5, h6, h7⟩ := hW
        have hq : ∀ q, q ≠ b → mI (sI (sI (sI (sI (sI (sI w b 1 0) b 2 0) b 3 0) b 4 0) b 5 0) b 6 0) q = mI w q := fun q hq => by
          rw [up_mI_n _ _ _ hq, up_mI_n _ _ _ hq, up_mI_n _ _ _ hq, up_mI_n _ _ _ hq, up_mI_n _ _ _ hq, up_mI_n _ _ _ hq]
        refine ⟨rfl, h1, ((((((h2.sI (Nat.le_refl b) _ _).sI (Nat.le_refl b) _ _).sI (Nat.le_refl b) _ _).sI (Nat.le_refl b) _ _).sI (Nat.le_refl b) _ _).sI (Nat.le_refl b) _ _), ⟨h3, ⟨h4, h5⟩, fun t ht => (h7 t ht).1, ⟨fun j hj => ⟨j, hj, (h7 j hj).2.2.2⟩, fun i j hi hj e => ?_⟩⟩, fun j => ?_, fun j hj => (h7 j hj).2.2.2, fun t ht => ⟨?_, ?_⟩⟩
        · have ei : mP w (b + 1) i = some (b + 2 + 2 * i) := (h7 i hi).2.2.2
          have ej : mP w (b + 1) j = some (b + 2 + 2 * j) := (h7 j hj).2.2.2
          have e' : mP w (b + 1) i = mP w (b + 1) j := e
          rw [ei, ej] at e'
          have := Option.some.inj e'
          omega
        · rw [up_mI, up_mI, up_mI, up_mI, up_mI, up_mI, h6]
          unfold up
          (repeat' split) <;> rfl
        · rw [hq _ (by omega)]; exact (h7 t ht).2.1
        · rw [hq _ (by omega)]; exact (h7 t ht).2.2.1
      · skip
        refine r_aload_n hC dX0_init_21 rfl ?_
        refine r_getR (j := 0) hC dX0_init_22 fl_X0_11 rfl rfl hW.2.2.1 hW.2.2.2.1 ?_
        refine r_iload_n hC dX0_init_25 rfl ?_
        refine r_new (ci := 1) hC dX0_init_26 rfl cl_X0_9 cn_X1 cz_X1 (show 1 + 2 * i + 1 ≤ 111 by omega) (show 55 + 14 * i + 6 ≤ 825 by omega) (fun _ => ?_)
        rw [hW.1]
        refine r_dup hC dX0_init_29 rfl ?_
        refine r_callI (as := []) (a := b + 2 + 2 * i) hC dX0_init_30 mi_X1_init si_X1_init rfl ml_X0_17 (rm := rmX1_init) ⟨le_b rfl, le_b rfl⟩ rfl (le_b rfl) (show 1 + 2 * i + 1 + 1 ≤ 111 by omega) (show 55 + 14 * i + 6 + 8 ≤ 825 by omega) (n_Ms hfC (u := nC w (some (.inl 1))) (b := b + 2 + 2 * i) (by rw [mN_nC, hW.1]) (by rw [mSh_nC, if_pos hW.1.symm]) (by funext j; rw [mI_nC, if_pos hW.1.symm])) ?_ rfl
        rintro _ w2 ⟨rfl, m1, m2, m3, m4, m5⟩
        have hW2 := mw_step hW m1 m2 m3 m4 m5
        refine r_aast hC dX0_init_33 (by rw [(m2 (b + 1) (by omega)).1, mSh_nC, if_neg (by have := hW.1; omega)]; exact hW.2.2.2.2.1) (le_b rfl) (lt_b rfl) m3.o rfl rfl ⟨by omega, by omega⟩ ?_
        refine r_iinc (lv' := [_, _]) hC dX0_init_34 rfl (lt_b rfl) rfl (lt_b rfl) rfl ?_
        refine r_goto (t := 15) hC dX0_init_37 (by rfl) ?_
        have := ih _ (by omega) (i + 1) _ rfl (by omega) hW2
        rw [show 1 + 2 * (i + 1) = 1 + 2 * i + 1 + 1 by omega, show 55 + 14 * (i + 1) = 55 + 14 * i + 6 + 8 by omega] at this
        exact this
  show VW C 0 [some (xA b), none] [] u 0 0
  refine r_aload_n hC dX0_init_0 rfl ?_
  refine r_objInit hC dX0_init_1 ml_X0_3 si_obj co_obj ⟨le_b rfl, le_b rfl⟩ ?_
  refine r_aload_n hC dX0_init_4 rfl ?_
  refine r_bipush hC dX0_init_5 (by rfl) ?_
  refine r_anewarr (n := 55) (ty := 5) (nm := RX1) hC dX0_init_7 (le_b rfl) (lt_b rfl) rfl rfl (le_b rfl) (le_b rfl) (le_b rfl) cl_X0_9 (by simp) (fun _ => ?_)
  refine r_putR (j := 0) (ci := 0) hC dX0_init_10 fl_X0_11 rfl (by rw [mSh_nC, if_neg (by have := A0.1; omega)]; exact A0.2.2.1) (Or.inr ⟨by rintro _ ⟨⟩; exact ⟨rfl, rfl⟩, hN⟩) rfl ?_
  obtain ⟨w1, e1, A1, p1, s1, o1, t1, z1⟩ := nw_step A0 0 5 55
  rw [e1]
  refine r_iconst hC dX0_init_13 ?_
  refine r_istore_n (lv' := [_, _]) hC dX0_init_14 (lt_b rfl) rfl (lt_b rfl) rfl ?_
  exact lp _ 0 w1 rfl (by omega) ⟨A1.1, A1.2.1, A1.2.2.1, p1, s1, by rw [z1, hzu], fun t ht => by omega⟩
