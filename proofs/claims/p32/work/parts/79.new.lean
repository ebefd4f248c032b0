/-! new objects of the class -/
theorem Bel.sI {u w : Mem} {lo : Nat} (h : Bel u w lo) {q : Nat} (hq : lo ≤ q) (k v : Int) : Bel u (sI w q k v) lo := fun a ha => by
  obtain ⟨a1, a2, a3, a4⟩ := h a ha
  exact ⟨a1, by rw [up_mI_n w k v (show a ≠ q by omega)]; exact a2, a3, a4⟩
/-- i arrays of the new object at b have been made -/
def NW (u w : Mem) (b i ci : Nat) : Prop := mN w = b + 1 + i ∧ Bel u w b ∧ mSh w b = some (.inl ci) ∧ ∀ q, b < q → q < b + 1 + i → mI w q = fun _ => 0
theorem NW.begin {u : Mem} {b ci : Nat} (h1 : mN u = b + 1) (h2 : mSh u b = some (.inl ci)) : NW u u b 0 ci := ⟨h1, Bel.refl _ _, h2, fun q h1 h2 => by omega⟩
theorem nw_step {u w : Mem} {b i ci : Nat} (h : NW u w b i ci) (k : Int) (ty n : Nat) : ∃ w', sP (nC w (some (.inr (ty, n)))) b k (some (mN w)) = w' ∧ NW u w' b (i + 1) ci ∧ mP w' b k = some (b + (i + 1)) ∧ mSh w' (b + (i + 1)) = some (.inr (ty, n)) ∧ (∀ j, j ≠ k → mP w' b j = mP w b j) ∧ (∀ a, a < b + (i + 1) → mSh w' a = mSh w a) ∧ mI w' b = mI w b := by
  obtain ⟨h1, h2, h4, h3⟩ := h
  refine ⟨_, rfl, ⟨?_, ?_, ?_, ?_⟩, ?_, ?_, ?_, ?_, ?_⟩
  · rw [mN_sP, mN_nC, h1]; omega
  · intro a ha
    obtain ⟨a1, a2, a3, a4⟩ := h2 a ha
    refine ⟨?_, ?_, ?_, ?_⟩
    · rw [mSh_sP, mSh_nC, if_neg (by omega)]; exact a1
    · rw [mI_sP]; funext j; rw [mI_nC, if_neg (by omega), a2]
    · funext j; rw [mP_sP_a _ _ _ _ (by omega), mP_nC, if_neg (by omega), a3]
    · rw [mJ_sP]; funext j; rw [mJ_nC, if_neg (by omega), a4]
  · rw [mSh_sP, mSh_nC, if_neg (by omega)]; exact h4
  · intro a ha hb
    rw [mI_sP]
    funext j
    rw [mI_nC]
    by_cases q : a = mN w
    · rw [if_pos q]
    · rw [if_neg q, h3 a ha (by omega)]
  · rw [mP_sP_s, h1]; congr 1; omega
  · rw [mSh_sP, mSh_nC, if_pos (by omega)]
  · intro j hj
    rw [mP_sP_k _ _ _ _ hj, mP_nC, if_neg (by omega)]
  · intro a ha
    rw [mSh_sP, mSh_nC, if_neg (by omega)]
  · rw [mI_sP]; funext j; rw [mI_nC, if_neg (by omega)]
abbrev rmX1_init : Room := { frames := 1, cells := 1, slots := 8, locals := 12 }
set_option maxRecDepth 100000 in
theorem n_Ms {l : Launch} {D : DD} (hfl : l.stackTraces = false) {u : Mem} {b : Nat} (hNu : mN u = b + 1) (hsu : mSh u b = some (.inl 1)) (hzu : mI u b = fun _ => 0) : CT l D yX1_init cX1_init 1 none rmX1_init [xA b] u (fun x w => x = none ∧ mN w = b + 1 + 1 ∧ Bel u w b ∧ MsO w b ∧ mI w b = (up (up (up (up (up (fun _ => 0) 1 0) 2 0) 3 0) 4 0) 5 (-1)) ∧ ∀ q, b < q → q < b + 1 + 1 → mI w q = fun _ => 0) := by
  have A0 : NW u u b 0 1 := NW.begin hNu hsu
  refine CT.of hfl (by decide) (le_b rfl) ?_
  intro C hC hR hL hDD hN
  have hfC : (cxL C).stackTraces = false := by rw [hL]; exact hfl
  show VW C 0 [some (xA b)] [] u 0 0
  refine r_aload_n hC dX1_init_0 rfl ?_
  refine r_objInit hC dX1_init_1 ml_X1_3 si_obj co_obj ⟨le_b rfl, le_b rfl⟩ ?_
  refine r_aload_n hC dX1_init_4 rfl ?_
  refine r_bipush hC dX1_init_5 (by rfl) ?_
  refine r_newarr (n := 8) (ty := 0) hC dX1_init_7 (Or.inl ⟨rfl, rfl⟩) rfl (le_b rfl) (le_b rfl) (le_b rfl) ka_int (fun _ => ?_)
  refine r_putR (j := 0) (ci := 1) hC dX1_init_9 fl_X1_9 rfl (by rw [mSh_nC, if_neg (by have := A0.1; omega)]; exact A0.2.2.1) (Or.inr ⟨by rintro _ ⟨⟩; exact ⟨rfl, rfl⟩, hN⟩) rfl ?_
  obtain ⟨w1, e1, A1, p1, s1, o1, t1, z1⟩ := nw_step A0 0 0 8
  rw [e1]
  refine r_aload_n hC dX1_init_12 rfl ?_
  refine r_iconst hC dX1_init_13 ?_
  refine r_putI (j := 1) hC dX1_init_14 fl_X1_15 rfl A1.2.2.1 (by rintro _ ⟨⟩; rfl) (Or.inr ⟨rfl, by first | exact Or.inl rfl | exact Or.inr rfl⟩) ?_
  refine r_aload_n hC dX1_init_17 rfl ?_
  refine r_iconst hC dX1_init_18 ?_
  refine r_putI (j := 2) hC dX1_init_19 fl_X1_19 rfl A1.2.2.1 (by rintro _ ⟨⟩; rfl) (Or.inl rfl) ?_
  refine r_aload_n hC dX1_init_22 rfl ?_
  refine r_iconst hC dX1_init_23 ?_
  refine r_putI (j := 3) hC dX1_init_24 fl_X1_23 rfl A1.2.2.1 (by rintro _ ⟨⟩; rfl) (Or.inl rfl) ?_
  refine r_aload_n hC dX1_init_27 rfl ?_
  refine r_iconst hC dX1_init_28 ?_
  refine r_putI (j := 4) hC dX1_init_29 fl_X1_26 rfl A1.2.2.1 (by rintro _ ⟨⟩; rfl) (Or.inl rfl) ?_
  refine r_aload_n hC dX1_init_32 rfl ?_
  refine r_iconst hC dX1_init_33 ?_
  refine r_putI (j := 5) hC dX1_init_34 fl_X1_29 rfl A1.2.2.1 (by rintro _ ⟨⟩; rfl) (Or.inl rfl) ?_
  refine r_vret hC hR dX1_init_37 (le_b rfl) (le_b rfl) ?_
  refine ⟨rfl, A1.1, (Bel.sI (Bel.sI (Bel.sI (Bel.sI (Bel.sI A1.2.1 (Nat.le_refl b) 1 0) (Nat.le_refl b) 2 0) (Nat.le_refl b) 3 0) (Nat.le_refl b) 4 0) (Nat.le_refl b) 5 (-1)), ⟨A1.2.2.1, p1, s1⟩, ?_, fun q h1 h2 => ?_⟩
  · rw [up_mI, up_mI, up_mI, up_mI, up_mI, z1, hzu]
  · rw [up_mI_n _ _ _ (show q ≠ b by omega), up_mI_n _ _ _ (show q ≠ b by omega), up_mI_n _ _ _ (show q ≠ b by omega), up_mI_n _ _ _ (show q ≠ b by omega), up_mI_n _ _ _ (show q ≠ b by omega)]; exact A1.2.2.2 q h1 h2

abbrev rmX2_init : Room := { frames := 1, cells := 1, slots := 60, locals := 12 }
set_option maxRecDepth 100000 in
theorem n_Te {l : Launch} {D : DD} (hfl : l.stackTraces = false) {u : Mem} {b : Nat} (hNu : mN u = b + 1) (hsu : mSh u b = some (.inl 2)) (hzu : mI u b = fun _ => 0) : CT l D yX2_init cX2_init 1 none rmX2_init [xA b] u (fun x w => x = none ∧ mN w = b + 1 + 1 ∧ Bel u w b ∧ TeO w b ∧ mI w b = (up (fun _ => 0) 1 0) ∧ ∀ q, b < q → q < b + 1 + 1 → mI w q = fun _ => 0) := by
  have A0 : NW u u b 0 2 := NW.begin hNu hsu
  refine CT.of hfl (by decide) (le_b rfl) ?_
  intro C hC hR hL hDD hN
  have hfC : (cxL C).stackTraces = false := by rw [hL]; exact hfl
  show VW C 0 [some (xA b)] [] u 0 0
  refine r_aload_n hC dX2_init_0 rfl ?_
  refine r_objInit hC dX2_init_1 ml_X2_3 si_obj co_obj ⟨le_b rfl, le_b rfl⟩ ?_
  refine r_aload_n hC dX2_init_4 rfl ?_
  refine r_bipush hC dX2_init_5 (by rfl) ?_
  refine r_newarr (n := 60) (ty := 0) hC dX2_init_7 (Or.inl ⟨rfl, rfl⟩) rfl (le_b rfl) (le_b rfl) (le_b rfl) ka_int (fun _ => ?_)
  refine r_putR (j := 0) (ci := 2) hC dX2_init_9 fl_X2_9 rfl (by rw [mSh_nC, if_neg (by have := A0.1; omega)]; exact A0.2.2.1) (Or.inr ⟨by rintro _ ⟨⟩; exact ⟨rfl, rfl⟩, hN⟩) rfl ?_
  obtain ⟨w1, e1, A1, p1, s1, o1, t1, z1⟩ := nw_step A0 0 0 60
  rw [e1]
  refine r_aload_n hC dX2_init_12 rfl ?_
  refine r_iconst hC dX2_init_13 ?_
  refine r_putI (j := 1) hC dX2_init_14 fl_X2_15 rfl A1.2.2.1 (by rintro _ ⟨⟩; rfl) (Or.inl rfl) ?_
  refine r_vret hC hR dX2_init_17 (le_b rfl) (le_b rfl) ?_
  refine ⟨rfl, A1.1, (Bel.sI A1.2.1 (Nat.le_refl b) 1 0), ⟨A1.2.2.1, p1, s1⟩, ?_, fun q h1 h2 => ?_⟩
  · rw [up_mI, z1, hzu]
  · rw [up_mI_n _ _ _ (show q ≠ b by omega)]; exact A1.2.2.2 q h1 h2

abbrev rmX3_init : Room := { frames := 1, cells := 1, slots := 21, locals := 12 }
set_option maxRecDepth 100000 in
theorem n_Re {l : Launch} {D : DD} (hfl : l.stackTraces = false) {u : Mem} {b : Nat} (hNu : mN u = b + 1) (hsu : mSh u b = some (.inl 3)) (hzu : mI u b = fun _ => 0) : CT l D yX3_init cX3_init 1 none rmX3_init [xA b] u (fun x w => x = none ∧ mN w = b + 1 + 1 ∧ Bel u w b ∧ ReO w b ∧ mI w b = (up (up (up (up (up (up (up (up (up (up (up (up (up (fun _ => 0) 1 0) 2 15) 3 (-1)) 4 0) 5 0) 6 0) 7 0) 8 0) 9 0) 10 (-1)) 11 0) 12 0) 13 (-1)) ∧ ∀ q, b < q → q < b + 1 + 1 → mI w q = fun _ => 0) := by
  have A0 : NW u u b 0 3 := NW.begin hNu hsu
  refine CT.of hfl (by decide) (le_b rfl) ?_
  intro C hC hR hL hDD hN
  have hfC : (cxL C).stackTraces = false := by rw [hL]; exact hfl
  show VW C 0 [some (xA b)] [] u 0 0
  refine r_aload_n hC dX3_init_0 rfl ?_
  refine r_objInit hC dX3_init_1 ml_X3_3 si_obj co_obj ⟨le_b rfl, le_b rfl⟩ ?_
  refine r_aload_n hC dX3_init_4 rfl ?_
  refine r_bipush hC dX3_init_5 (by rfl) ?_
  refine r_newarr (n := 21) (ty := 0) hC dX3_init_7 (Or.inl ⟨rfl, rfl⟩) rfl (le_b rfl) (le_b rfl) (le_b rfl) ka_int (fun _ => ?_)
  refine r_putR (j := 0) (ci := 3) hC dX3_init_9 fl_X3_9 rfl (by rw [mSh_nC, if_neg (by have := A0.1; omega)]; exact A0.2.2.1) (Or.inr ⟨by rintro _ ⟨⟩; exact ⟨rfl, rfl⟩, hN⟩) rfl ?_
  obtain ⟨w1, e1, A1, p1, s1, o1, t1, z1⟩ := nw_step A0 0 0 21
  rw [e1]
  refine r_aload_n hC dX3_init_12 rfl ?_
  refine r_iconst hC dX3_init_13 ?_
  refine r_putI (j := 1) hC dX3_init_14 fl_X3_15 rfl A1.2.2.1 (by rintro _ ⟨⟩; rfl) (Or.inl rfl) ?_
  refine r_aload_n hC dX3_init_17 rfl ?_
  refine r_bipush hC dX3_init_18 (by rfl) ?_
  refine r_putI (j := 2) hC dX3_init_20 fl_X3_19 rfl A1.2.2.1 (by rintro _ ⟨⟩; rfl) (Or.inl rfl) ?_
  refine r_aload_n hC dX3_init_23 rfl ?_
  refine r_iconst hC dX3_init_24 ?_
  refine r_putI (j := 3) hC dX3_init_25 fl_X3_22 rfl A1.2.2.1 (by rintro _ ⟨⟩; rfl) (Or.inl rfl) ?_
  refine r_aload_n hC dX3_init_28 rfl ?_
  refine r_iconst hC dX3_init_29 ?_
  refine r_putI (j := 4) hC dX3_init_30 fl_X3_25 rfl A1.2.2.1 (by rintro _ ⟨⟩; rfl) (Or.inl rfl) ?_
  refine r_aload_n hC dX3_init_33 rfl ?_
  refine r_iconst hC dX3_init_34 ?_
  refine r_putI (j := 5) hC dX3_init_35 fl_X3_28 rfl A1.2.2.1 (by rintro _ ⟨⟩; rfl) (Or.inl rfl) ?_
  refine r_aload_n hC dX3_init_38 rfl ?_
  refine r_iconst hC dX3_init_39 ?_
  refine r_putI (j := 6) hC dX3_init_40 fl_X3_31 rfl A1.2.2.1 (by rintro _ ⟨⟩; rfl) (Or.inl rfl) ?_
  refine r_aload_n hC dX3_init_43 rfl ?_
  refine r_iconst hC dX3_init_44 ?_
  refine r_putI (j := 7) hC dX3_init_45 fl_X3_34 rfl A1.2.2.1 (by rintro _ ⟨⟩; rfl) (Or.inl rfl) ?_
  refine r_aload_n hC dX3_init_48 rfl ?_
  refine r_iconst hC dX3_init_49 ?_
  refine r_putI (j := 8) hC dX3_init_50 fl_X3_37 rfl A1.2.2.1 (by rintro _ ⟨⟩; rfl) (Or.inl rfl) ?_
  refine r_aload_n hC dX3_init_53 rfl ?_
  refine r_iconst hC dX3_init_54 ?_
  refine r_putI (j := 9) hC dX3_init_55 fl_X3_40 rfl A1.2.2.1 (by rintro _ ⟨⟩; rfl) (Or.inl rfl) ?_
  refine r_aload_n hC dX3_init_58 rfl ?_
  refine r_iconst hC dX3_init_59 ?_
  refine r_putI (j := 10) hC dX3_init_60 fl_X3_43 rfl A1.2.2.1 (by rintro _ ⟨⟩; rfl) (Or.inl rfl) ?_
  refine r_aload_n hC dX3_init_63 rfl ?_
  refine r_iconst hC dX3_init_64 ?_
  refine r_putI (j := 11) hC dX3_init_65 fl_X3_46 rfl A1.2.2.1 (by rintro _ ⟨⟩; rfl) (Or.inr ⟨rfl, by first | exact Or.inl rfl | exact Or.inr rfl⟩) ?_
  refine r_aload_n hC dX3_init_68 rfl ?_
  refine r_iconst hC dX3_init_69 ?_
  refine r_putI (j := 12) hC dX3_init_70 fl_X3_50 rfl A1.2.2.1 (by rintro _ ⟨⟩; rfl) (Or.inl rfl) ?_
  refine r_aload_n hC dX3_init_73 rfl ?_
  refine r_iconst hC dX3_init_74 ?_
  refine r_putI (j := 13) hC dX3_init_75 fl_X3_53 rfl A1.2.2.1 (by rintro _ ⟨⟩; rfl) (Or.inl rfl) ?_
  refine r_vret hC hR dX3_init_78 (le_b rfl) (le_b rfl) ?_
  refine ⟨rfl, A1.1, (Bel.sI (Bel.sI (Bel.sI (Bel.sI (Bel.sI (Bel.sI (Bel.sI (Bel.sI (Bel.sI (Bel.sI (Bel.sI (Bel.sI (Bel.sI A1.2.1 (Nat.le_refl b) 1 0) (Nat.le_refl b) 2 15) (Nat.le_refl b) 3 (-1)) (Nat.le_refl b) 4 0) (Nat.le_refl b) 5 0) (Nat.le_refl b) 6 0) (Nat.le_refl b) 7 0) (Nat.le_refl b) 8 0) (Nat.le_refl b) 9 0) (Nat.le_refl b) 10 (-1)) (Nat.le_refl b) 11 0) (Nat.le_refl b) 12 0) (Nat.le_refl b) 13 (-1)), ⟨A1.2.2.1, p1, s1⟩, ?_, fun q h1 h2 => ?_⟩
  · rw [up_mI, up_mI, up_mI, up_mI, up_mI, up_mI, up_mI, up_mI, up_mI, up_mI, up_mI, up_mI, up_mI, z1, hzu]
  · rw [up_mI_n _ _ _ (show q ≠ b by omega), up_mI_n _ _ _ (show q ≠ b by omega), up_mI_n _ _ _ (show q ≠ b by omega), up_mI_n _ _ _ (show q ≠ b by omega), up_mI_n _ _ _ (show q ≠ b by omega), up_mI_n _ _ _ (show q ≠ b by omega), up_mI_n _ _ _ (show q ≠ b by omega), up_mI_n _ _ _ (show q ≠ b by omega), up_mI_n _ _ _ (show q ≠ b by omega), up_mI_n _ _ _ (show q ≠ b by omega), up_mI_n _ _ _ (show q ≠ b by omega), up_mI_n _ _ _ (show q ≠ b by omega), up_mI_n _ _ _ (show q ≠ b by omega)]; exact A1.2.2.2 q h1 h2

abbrev rmX6_init : Room := { frames := 1, cells := 3, slots := 18, locals := 12 }
set_option maxRecDepth 100000 in
theorem n_Tr {l : Launch} {D : DD} (hfl : l.stackTraces = false) {u : Mem} {b : Nat} (hNu : mN u = b + 1) (hsu : mSh u b = some (.inl 6)) (hzu : mI u b = fun _ => 0) : CT l D yX6_init cX6_init 1 none rmX6_init [xA b] u (fun x w => x = none ∧ mN w = b + 1 + 3 ∧ Bel u w b ∧ TrO w b ∧ mI w b = (up (up (fun _ => 0) 3 0) 4 0) ∧ ∀ q, b < q → q < b + 1 + 3 → mI w q = fun _ => 0) := by
  have A0 : NW u u b 0 6 := NW.begin hNu hsu
  refine CT.of hfl (by decide) (le_b rfl) ?_
  intro C hC hR hL hDD hN
  have hfC : (cxL C).stackTraces = false := by rw [hL]; exact hfl
  show VW C 0 [some (xA b)] [] u 0 0
  refine r_aload_n hC dX6_init_0 rfl ?_
  refine r_objInit hC dX6_init_1 ml_X6_3 si_obj co_obj ⟨le_b rfl, le_b rfl⟩ ?_
  refine r_aload_n hC dX6_init_4 rfl ?_
  refine r_bipush hC dX6_init_5 (by rfl) ?_
  refine r_newarr (n := 6) (ty := 0) hC dX6_init_7 (Or.inl ⟨rfl, rfl⟩) rfl (le_b rfl) (le_b rfl) (le_b rfl) ka_int (fun _ => ?_)
  refine r_putR (j := 0) (ci := 6) hC dX6_init_9 fl_X6_9 rfl (by rw [mSh_nC, if_neg (by have := A0.1; omega)]; exact A0.2.2.1) (Or.inr ⟨by rintro _ ⟨⟩; exact ⟨rfl, rfl⟩, hN⟩) rfl ?_
  obtain ⟨w1, e1, A1, p1, s1, o1, t1, z1⟩ := nw_step A0 0 0 6
  rw [e1]
  refine r_aload_n hC dX6_init_12 rfl ?_
  refine r_bipush hC dX6_init_13 (by rfl) ?_
  refine r_newarr (n := 6) (ty := 0) hC dX6_init_15 (Or.inl ⟨rfl, rfl⟩) rfl (le_b rfl) (le_b rfl) (le_b rfl) ka_int (fun _ => ?_)
  refine r_putR (j := 1) (ci := 6) hC dX6_init_17 fl_X6_15 rfl (by rw [mSh_nC, if_neg (by have := A1.1; omega)]; exact A1.2.2.1) (Or.inr ⟨by rintro _ ⟨⟩; exact ⟨rfl, rfl⟩, hN⟩) rfl ?_
  obtain ⟨w2, e2, A2, p2, s2, o2, t2, z2⟩ := nw_step A1 1 0 6
  rw [e2]
  refine r_aload_n hC dX6_init_20 rfl ?_
  refine r_bipush hC dX6_init_21 (by rfl) ?_
  refine r_newarr (n := 6) (ty := 0) hC dX6_init_23 (Or.inl ⟨rfl, rfl⟩) rfl (le_b rfl) (le_b rfl) (le_b rfl) ka_int (fun _ => ?_)
  refine r_putR (j := 2) (ci := 6) hC dX6_init_25 fl_X6_18 rfl (by rw [mSh_nC, if_neg (by have := A2.1; omega)]; exact A2.2.2.1) (Or.inr ⟨by rintro _ ⟨⟩; exact ⟨rfl, rfl⟩, hN⟩) rfl ?_
  obtain ⟨w3, e3, A3, p3, s3, o3, t3, z3⟩ := nw_step A2 2 0 6
  rw [e3]
  refine r_aload_n hC dX6_init_28 rfl ?_
  refine r_iconst hC dX6_init_29 ?_
  refine r_putI (j := 3) hC dX6_init_30 fl_X6_21 rfl A3.2.2.1 (by rintro _ ⟨⟩; rfl) (Or.inr ⟨rfl, by first | exact Or.inl rfl | exact Or.inr rfl⟩) ?_
  refine r_aload_n hC dX6_init_33 rfl ?_
  refine r_iconst hC dX6_init_34 ?_
  refine r_putI (j := 4) hC dX6_init_35 fl_X6_25 rfl A3.2.2.1 (by rintro _ ⟨⟩; rfl) (Or.inl rfl) ?_
  refine r_vret hC hR dX6_init_38 (le_b rfl) (le_b rfl) ?_
  refine ⟨rfl, A3.1, (Bel.sI (Bel.sI A3.2.1 (Nat.le_refl b) 3 0) (Nat.le_refl b) 4 0), ⟨A3.2.2.1, ⟨((o3 0 (by decide)).trans ((o2 0 (by decide)).trans p1)), ((t3 _ (by omega)).trans ((t2 _ (by omega)).trans s1))⟩, ⟨((o3 1 (by decide)).trans p2), ((t3 _ (by omega)).trans s2)⟩, ⟨p3, s3⟩⟩, ?_, fun q h1 h2 => ?_⟩
  · rw [up_mI, up_mI, z3, z2, z1, hzu]
  · rw [up_mI_n _ _ _ (show q ≠ b by omega), up_mI_n _ _ _ (show q ≠ b by omega)]; exact A3.2.2.2 q h1 h2

abbrev rmX4_init : Room := { frames := 1, cells := 7, slots := 1260, locals := 12 }
set_option maxRecDepth 100000 in
theorem n_Ro {l : Launch} {D : DD} (hfl : l.stackTraces = false) {u : Mem} {b : Nat} (hNu : mN u = b + 1) (hsu : mSh u b = some (.inl 4)) (hzu : mI u b = fun _ => 0) : CT l D yX4_init cX4_init 1 none rmX4_init [xA b] u (fun x w => x = none ∧ mN w = b + 1 + 7 ∧ Bel u w b ∧ RoO w b ∧ mI w b = (up (up (up (fun _ => 0) 7 0) 8 0) 9 0) ∧ ∀ q, b < q → q < b + 1 + 7 → mI w q = fun _ => 0) := by
  have A0 : NW u u b 0 4 := NW.begin hNu hsu
  refine CT.of hfl (by decide) (le_b rfl) ?_
  intro C hC hR hL hDD hN
  have hfC : (cxL C).stackTraces = false := by rw [hL]; exact hfl
  show VW C 0 [some (xA b)] [] u 0 0
  refine r_aload_n hC dX4_init_0 rfl ?_
  refine r_objInit hC dX4_init_1 ml_X4_3 si_obj co_obj ⟨le_b rfl, le_b rfl⟩ ?_
  refine r_aload_n hC dX4_init_4 rfl ?_
  refine r_sipush hC dX4_init_5 (by rfl) ?_
  refine r_newarr (n := 200) (ty := 0) hC dX4_init_8 (Or.inl ⟨rfl, rfl⟩) rfl (le_b rfl) (le_b rfl) (le_b rfl) ka_int (fun _ => ?_)
  refine r_putR (j := 0) (ci := 4) hC dX4_init_10 fl_X4_9 rfl (by rw [mSh_nC, if_neg (by have := A0.1; omega)]; exact A0.2.2.1) (Or.inr ⟨by rintro _ ⟨⟩; exact ⟨rfl, rfl⟩, hN⟩) rfl ?_
  obtain ⟨w1, e1, A1, p1, s1, o1, t1, z1⟩ := nw_step A0 0 0 200
  rw [e1]
  refine r_aload_n hC dX4_init_13 rfl ?_
  refine r_sipush hC dX4_init_14 (by rfl) ?_
  refine r_newarr (n := 200) (ty := 0) hC dX4_init_17 (Or.inl ⟨rfl, rfl⟩) rfl (le_b rfl) (le_b rfl) (le_b rfl) ka_int (fun _ => ?_)
  refine r_putR (j := 1) (ci := 4) hC dX4_init_19 fl_X4_15 rfl (by rw [mSh_nC, if_neg (by have := A1.1; omega)]; exact A1.2.2.1) (Or.inr ⟨by rintro _ ⟨⟩; exact ⟨rfl, rfl⟩, hN⟩) rfl ?_
  obtain ⟨w2, e2, A2, p2, s2, o2, t2, z2⟩ := nw_step A1 1 0 200
  rw [e2]
  refine r_aload_n hC dX4_init_22 rfl ?_
  refine r_sipush hC dX4_init_23 (by rfl) ?_
  refine r_newarr (n := 200) (ty := 0) hC dX4_init_26 (Or.inl ⟨rfl, rfl⟩) rfl (le_b rfl) (le_b rfl) (le_b rfl) ka_int (fun _ => ?_)
  refine r_putR (j := 2) (ci := 4) hC dX4_init_28 fl_X4_18 rfl (by rw [mSh_nC, if_neg (by have := A2.1; omega)]; exact A2.2.2.1) (Or.inr ⟨by rintro _ ⟨⟩; exact ⟨rfl, rfl⟩, hN⟩) rfl ?_
  obtain ⟨w3, e3, A3, p3, s3, o3, t3, z3⟩ := nw_step A2 2 0 200
  rw [e3]
  refine r_aload_n hC dX4_init_31 rfl ?_
  refine r_sipush hC dX4_init_32 (by rfl) ?_
  refine r_newarr (n := 200) (ty := 0) hC dX4_init_35 (Or.inl ⟨rfl, rfl⟩) rfl (le_b rfl) (le_b rfl) (le_b rfl) ka_int (fun _ => ?_)
  refine r_putR (j := 3) (ci := 4) hC dX4_init_37 fl_X4_21 rfl (by rw [mSh_nC, if_neg (by have := A3.1; omega)]; exact A3.2.2.1) (Or.inr ⟨by rintro _ ⟨⟩; exact ⟨rfl, rfl⟩, hN⟩) rfl ?_
  obtain ⟨w4, e4, A4, p4, s4, o4, t4, z4⟩ := nw_step A3 3 0 200
  rw [e4]
  refine r_aload_n hC dX4_init_40 rfl ?_
  refine r_sipush hC dX4_init_41 (by rfl) ?_
  refine r_newarr (n := 200) (ty := 0) hC dX4_init_44 (Or.inl ⟨rfl, rfl⟩) rfl (le_b rfl) (le_b rfl) (le_b rfl) ka_int (fun _ => ?_)
  refine r_putR (j := 4) (ci := 4) hC dX4_init_46 fl_X4_24 rfl (by rw [mSh_nC, if_neg (by have := A4.1; omega)]; exact A4.2.2.1) (Or.inr ⟨by rintro _ ⟨⟩; exact ⟨rfl, rfl⟩, hN⟩) rfl ?_
  obtain ⟨w5, e5, A5, p5, s5, o5, t5, z5⟩ := nw_step A4 4 0 200
  rw [e5]
  refine r_aload_n hC dX4_init_49 rfl ?_
  refine r_sipush hC dX4_init_50 (by rfl) ?_
  refine r_newarr (n := 200) (ty := 0) hC dX4_init_53 (Or.inl ⟨rfl, rfl⟩) rfl (le_b rfl) (le_b rfl) (le_b rfl) ka_int (fun _ => ?_)
  refine r_putR (j := 5) (ci := 4) hC dX4_init_55 fl_X4_27 rfl (by rw [mSh_nC, if_neg (by have := A5.1; omega)]; exact A5.2.2.1) (Or.inr ⟨by rintro _ ⟨⟩; exact ⟨rfl, rfl⟩, hN⟩) rfl ?_
  obtain ⟨w6, e6, A6, p6, s6, o6, t6, z6⟩ := nw_step A5 5 0 200
  rw [e6]
  refine r_aload_n hC dX4_init_58 rfl ?_
  refine r_bipush hC dX4_init_59 (by rfl) ?_
  refine r_newarr (n := 60) (ty := 0) hC dX4_init_61 (Or.inl ⟨rfl, rfl⟩) rfl (le_b rfl) (le_b rfl) (le_b rfl) ka_int (fun _ => ?_)
  refine r_putR (j := 6) (ci := 4) hC dX4_init_63 fl_X4_30 rfl (by rw [mSh_nC, if_neg (by have := A6.1; omega)]; exact A6.2.2.1) (Or.inr ⟨by rintro _ ⟨⟩; exact ⟨rfl, rfl⟩, hN⟩) rfl ?_
  obtain ⟨w7, e7, A7, p7, s7, o7, t7, z7⟩ := nw_step A6 6 0 60
  rw [e7]
  refine r_aload_n hC dX4_init_66 rfl ?_
  refine r_iconst hC dX4_init_67 ?_
  refine r_putI (j := 7) hC dX4_init_68 fl_X4_33 rfl A7.2.2.1 (by rintro _ ⟨⟩; rfl) (Or.inl rfl) ?_
  refine r_aload_n hC dX4_init_71 rfl ?_
  refine r_iconst hC dX4_init_72 ?_
  refine r_putI (j := 8) hC dX4_init_73 fl_X4_37 rfl A7.2.2.1 (by rintro _ ⟨⟩; rfl) (Or.inl rfl) ?_
  refine r_aload_n hC dX4_init_76 rfl ?_
  refine r_iconst hC dX4_init_77 ?_
  refine r_putI (j := 9) hC dX4_init_78 fl_X4_40 rfl A7.2.2.1 (by rintro _ ⟨⟩; rfl) (Or.inl rfl) ?_
  refine r_vret hC hR dX4_init_81 (le_b rfl) (le_b rfl) ?_
  refine ⟨rfl, A7.1, (Bel.sI (Bel.sI (Bel.sI A7.2.1 (Nat.le_refl b) 7 0) (Nat.le_refl b) 8 0) (Nat.le_refl b) 9 0), ⟨A7.2.2.1, ⟨((o7 0 (by decide)).trans ((o6 0 (by decide)).trans ((o5 0 (by decide)).trans ((o4 0 (by decide)).trans ((o3 0 (by decide)).trans ((o2 0 (by decide)).trans p1)))))), ((t7 _ (by omega)).trans ((t6 _ (by omega)).trans ((t5 _ (by omega)).trans ((t4 _ (by omega)).trans ((t3 _ (by omega)).trans ((t2 _ (by omega)).trans s1))))))⟩, ⟨((o7 1 (by decide)).trans ((o6 1 (by decide)).trans ((o5 1 (by decide)).trans ((o4 1 (by decide)).trans ((o3 1 (by decide)).trans p2))))), ((t7 _ (by omega)).trans ((t6 _ (by omega)).trans ((t5 _ (by omega)).trans ((t4 _ (by omega)).trans ((t3 _ (by omega)).trans s2)))))⟩, ⟨((o7 2 (by decide)).trans ((o6 2 (by decide)).trans ((o5 2 (by decide)).trans ((o4 2 (by decide)).trans p3)))), ((t7 _ (by omega)).trans ((t6 _ (by omega)).trans ((t5 _ (by omega)).trans ((t4 _ (by omega)).trans s3))))⟩, ⟨((o7 3 (by decide)).trans ((o6 3 (by decide)).trans ((o5 3 (by decide)).trans p4))), ((t7 _ (by omega)).trans ((t6 _ (by omega)).trans ((t5 _ (by omega)).trans s4)))⟩, ⟨((o7 4 (by decide)).trans ((o6 4 (by decide)).trans p5)), ((t7 _ (by omega)).trans ((t6 _ (by omega)).trans s5))⟩, ⟨((o7 5 (by decide)).trans p6), ((t7 _ (by omega)).trans s6)⟩, ⟨p7, s7⟩⟩, ?_, fun q h1 h2 => ?_⟩
  · rw [up_mI, up_mI, up_mI, z7, z6, z5, z4, z3, z2, z1, hzu]
  · rw [up_mI_n _ _ _ (show q ≠ b by omega), up_mI_n _ _ _ (show q ≠ b by omega), up_mI_n _ _ _ (show q ≠ b by omega)]; exact A7.2.2.2 q h1 h2
