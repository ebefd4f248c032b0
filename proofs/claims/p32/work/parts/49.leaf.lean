/-! transactions -/
def TrCp (u : Mem) (b o : Nat) (w : Mem) : Prop := Fr u w (fun q => b ≤ q ∧ q < b + 4) (fun _ => False) ∧ (∀ j : Int, 3 ≤ j → j ≤ 4 → mI w b j = mI u o j) ∧ ∀ t : Nat, t < 3 → ∀ j : Int, 0 ≤ j → j < 6 → mI w (b + 1 + t) j = mI u (o + 1 + t) j
abbrev rmX6_copyFrom : Room := { frames := 1, cells := 0, slots := 0, locals := 40 }
set_option maxRecDepth 100000 in
theorem k_Tr_copy {l : Launch} {D : DD} (hfl : l.stackTraces = false) {u : Mem} {b o : Nat} (hO : TrO u b) (hQ : TrO u o) (hd : o + 4 ≤ b ∨ b + 4 ≤ o) (hz : mI u o 3 = 0 ∨ mI u o 3 = 1) : CT l D yX6_copyFrom cX6_copyFrom 2 none rmX6_copyFrom [xA b, xA o] u (fun r w => r = none ∧ TrCp u b o w) := by
  refine CT.of hfl (by decide) (le_b rfl) ?_
  intro C hC hR hL hDD hN
  have hfC : (cxL C).stackTraces = false := by rw [hL]; exact hfl
  show VW C 0 [some (xA b), some (xA o)] [] u 0 0
  refine r_aload_n hC dX6_copyFrom_0 rfl ?_
  refine r_getR (j := 0) hC dX6_copyFrom_1 fl_X6_9 rfl rfl hQ.o hQ.p0 ?_
  refine r_iconst hC dX6_copyFrom_4 ?_
  refine r_aload_n hC dX6_copyFrom_5 rfl ?_
  refine r_getR (j := 0) hC dX6_copyFrom_6 fl_X6_9 rfl rfl hO.o hO.p0 ?_
  refine r_iconst hC dX6_copyFrom_9 ?_
  refine r_bipush hC dX6_copyFrom_10 (by rfl) ?_
  refine r_copy hC dX6_copyFrom_12 ml_X6_29 hQ.a0 hO.a0 ⟨by omega, by omega, by omega⟩ (le_b rfl) ⟨le_b rfl, le_b rfl⟩ ?_
  refine r_aload_n hC dX6_copyFrom_15 rfl ?_
  refine r_getR (j := 1) hC dX6_copyFrom_16 fl_X6_15 rfl rfl hQ.o hQ.p1 ?_
  refine r_iconst hC dX6_copyFrom_19 ?_
  refine r_aload_n hC dX6_copyFrom_20 rfl ?_
  refine r_getR (j := 1) hC dX6_copyFrom_21 fl_X6_15 rfl rfl hO.o hO.p1 ?_
  refine r_iconst hC dX6_copyFrom_24 ?_
  refine r_bipush hC dX6_copyFrom_25 (by rfl) ?_
  refine r_copy hC dX6_copyFrom_27 ml_X6_29 hQ.a1 hO.a1 ⟨by omega, by omega, by omega⟩ (le_b rfl) ⟨le_b rfl, le_b rfl⟩ ?_
  refine r_aload_n hC dX6_copyFrom_30 rfl ?_
  refine r_getR (j := 2) hC dX6_copyFrom_31 fl_X6_18 rfl rfl hQ.o hQ.p2 ?_
  refine r_iconst hC dX6_copyFrom_34 ?_
  refine r_aload_n hC dX6_copyFrom_35 rfl ?_
  refine r_getR (j := 2) hC dX6_copyFrom_36 fl_X6_18 rfl rfl hO.o hO.p2 ?_
  refine r_iconst hC dX6_copyFrom_39 ?_
  refine r_bipush hC dX6_copyFrom_40 (by rfl) ?_
  refine r_copy hC dX6_copyFrom_42 ml_X6_29 hQ.a2 hO.a2 ⟨by omega, by omega, by omega⟩ (le_b rfl) ⟨le_b rfl, le_b rfl⟩ ?_
  refine r_aload_n hC dX6_copyFrom_45 rfl ?_
  refine r_aload_n hC dX6_copyFrom_46 rfl ?_
  refine r_getI (j := 3) hC dX6_copyFrom_47 fl_X6_21 rfl rfl hQ.o ?_
  refine r_putI (j := 3) hC dX6_copyFrom_50 fl_X6_21 rfl hO.o (by rintro _ ⟨⟩; rfl) (Or.inr ⟨rfl, by rw [mI_sA_n _ _ (by omega), mI_sA_n _ _ (by omega), mI_sA_n _ _ (by omega)]; exact hz⟩) ?_
  refine r_aload_n hC dX6_copyFrom_53 rfl ?_
  refine r_aload_n hC dX6_copyFrom_54 rfl ?_
  refine r_getI (j := 4) hC dX6_copyFrom_55 fl_X6_25 rfl rfl hQ.o ?_
  refine r_putI (j := 4) hC dX6_copyFrom_58 fl_X6_25 rfl hO.o (by rintro _ ⟨⟩; rfl) (Or.inl rfl) ?_
  refine r_vret hC hR dX6_copyFrom_61 (le_b rfl) (le_b rfl) ?_
  refine ⟨rfl, ?_, ?_, ?_⟩
  · repeat (first | exact Fr.refl _ _ _ | refine Fr.sI ?_ _ _ (by constructor <;> omega) | refine Fr.sA ?_ _ (by constructor <;> omega))
  · intro j h1 h2
    have hj : j = 3 ∨ j = 4 := by omega
    rcases hj with rfl | rfl <;> simp [mI_sI, wr_mI, mI_sA_n, show o ≠ b by omega, show o ≠ b + 1 by omega, show o ≠ b + 2 by omega, show o ≠ b + 3 by omega]
  · intro t ht j h1 h2
    have hs : ∀ (x : Mem) (k v : Int) (q : Nat), q ≠ b → mI (sI x b k v) q = mI x q := fun x k v q hq => up_mI_n x k v hq
    have ht3 : t = 0 ∨ t = 1 ∨ t = 2 := by omega
    rcases ht3 with rfl | rfl | rfl
    · simp only [Nat.add_zero]
      rw [hs _ _ _ _ (by omega), hs _ _ _ _ (by omega), mI_sA_n _ _ (by omega), mI_sA_n _ _ (by omega), mI_cp]
      exact cpF_in ⟨h1, h2⟩
    · show mI _ (b + 2) j = mI u (o + 2) j
      rw [hs _ _ _ _ (by omega), hs _ _ _ _ (by omega), mI_sA_n _ _ (by omega), mI_cp, cpF_in ⟨h1, h2⟩, mI_sA_n _ _ (by omega)]
    · show mI _ (b + 3) j = mI u (o + 3) j
      rw [hs _ _ _ _ (by omega), hs _ _ _ _ (by omega), mI_cp, cpF_in ⟨h1, h2⟩, mI_sA_n _ _ (by omega), mI_sA_n _ _ (by omega)]

abbrev rmX6_addRow : Room := { frames := 0, cells := 0, slots := 0, locals := 0 }
set_option maxRecDepth 100000 in
theorem k_Tr_add {l : Launch} {D : DD} (hfl : l.stackTraces = false) {u : Mem} {b : Nat} {w t v : Int} (hO : TrO u b) (hz : 0 ≤ mI u b 4 ∧ mI u b 4 < 6) : CT l D yX6_addRow cX6_addRow 4 none rmX6_addRow [xA b, xI w, xI t, xI v] u (RV (sI (sI (sI (sI u (b + 1) (mI u b 4) w) (b + 2) (mI u b 4) t) (b + 3) (mI u b 4) v) b 4 (mI u b 4 + 1))) := by
  refine CT.of hfl (by decide) (le_b rfl) ?_
  intro C hC hR hL hDD hN
  have hfC : (cxL C).stackTraces = false := by rw [hL]; exact hfl
  show VW C 0 [some (xA b), some (xI w), some (xI t), some (xI v)] [] u 0 0
  refine r_aload_n hC dX6_addRow_0 rfl ?_
  refine r_getI (j := 4) hC dX6_addRow_1 fl_X6_25 rfl rfl hO.o ?_
  refine r_bipush hC dX6_addRow_4 (by rfl) ?_
  refine r_icmp_lt (t := 10) hC dX6_addRow_6 (by rfl) (by first | with_reducible exact rg_mI _ _ _ | assumption | with_reducible exact rf_at rf _ | with_reducible exact rg_and _ _ | exact ⟨by omega, by omega⟩) (by first | with_reducible exact rg_mI _ _ _ | assumption | with_reducible exact rf_at rf _ | with_reducible exact rg_and _ _ | exact ⟨by omega, by omega⟩) (fun h_6 => ?_) (fun h_6 => ?_)
  · skip
    refine r_aload_n hC dX6_addRow_10 rfl ?_
    refine r_getR (j := 0) hC dX6_addRow_11 fl_X6_9 rfl rfl hO.o hO.p0 ?_
    refine r_aload_n hC dX6_addRow_14 rfl ?_
    refine r_getIv (j := 4) (v := mI u b 4) hC dX6_addRow_15 fl_X6_25 rfl rfl hO.o (by first | rfl | (rw [mI_sI_a _ _ _ _ (by omega)]; done) | (rw [mI_sI_a _ _ _ _ (by omega), mI_sI_a _ _ _ _ (by omega)]; done) | (rw [mI_sI_a _ _ _ _ (by omega), mI_sI_a _ _ _ _ (by omega), mI_sI_a _ _ _ _ (by omega)]; done)) ?_
    refine r_iload_n hC dX6_addRow_18 rfl ?_
    refine r_iast hC dX6_addRow_19 hO.a0 ⟨by omega, by omega⟩ ?_
    refine r_aload_n hC dX6_addRow_20 rfl ?_
    refine r_getR (j := 1) hC dX6_addRow_21 fl_X6_15 rfl rfl hO.o hO.p1 ?_
    refine r_aload_n hC dX6_addRow_24 rfl ?_
    refine r_getIv (j := 4) (v := mI u b 4) hC dX6_addRow_25 fl_X6_25 rfl rfl hO.o (by first | rfl | (rw [mI_sI_a _ _ _ _ (by omega)]; done) | (rw [mI_sI_a _ _ _ _ (by omega), mI_sI_a _ _ _ _ (by omega)]; done) | (rw [mI_sI_a _ _ _ _ (by omega), mI_sI_a _ _ _ _ (by omega), mI_sI_a _ _ _ _ (by omega)]; done)) ?_
    refine r_iload_n hC dX6_addRow_28 rfl ?_
    refine r_iast hC dX6_addRow_29 hO.a1 ⟨by omega, by omega⟩ ?_
    refine r_aload_n hC dX6_addRow_30 rfl ?_
    refine r_getR (j := 2) hC dX6_addRow_31 fl_X6_18 rfl rfl hO.o hO.p2 ?_
    refine r_aload_n hC dX6_addRow_34 rfl ?_
    refine r_getIv (j := 4) (v := mI u b 4) hC dX6_addRow_35 fl_X6_25 rfl rfl hO.o (by first | rfl | (rw [mI_sI_a _ _ _ _ (by omega)]; done) | (rw [mI_sI_a _ _ _ _ (by omega), mI_sI_a _ _ _ _ (by omega)]; done) | (rw [mI_sI_a _ _ _ _ (by omega), mI_sI_a _ _ _ _ (by omega), mI_sI_a _ _ _ _ (by omega)]; done)) ?_
    refine r_iload_n hC dX6_addRow_38 rfl ?_
    refine r_iast hC dX6_addRow_39 hO.a2 ⟨by omega, by omega⟩ ?_
    refine r_aload_n hC dX6_addRow_40 rfl ?_
    refine r_dup hC dX6_addRow_41 rfl ?_
    refine r_getIv (j := 4) (v := mI u b 4) hC dX6_addRow_42 fl_X6_25 rfl rfl hO.o (by first | rfl | (rw [mI_sI_a _ _ _ _ (by omega)]; done) | (rw [mI_sI_a _ _ _ _ (by omega), mI_sI_a _ _ _ _ (by omega)]; done) | (rw [mI_sI_a _ _ _ _ (by omega), mI_sI_a _ _ _ _ (by omega), mI_sI_a _ _ _ _ (by omega)]; done)) ?_
    refine r_iconst hC dX6_addRow_45 ?_
    refine r_iadd hC dX6_addRow_46 ?_
    refine r_putI (j := 4) hC dX6_addRow_47 fl_X6_25 rfl hO.o (by rintro _ ⟨⟩; rfl) (Or.inl rfl) ?_
    refine r_vret hC hR dX6_addRow_50 (le_b rfl) (le_b rfl) ?_
    exact ⟨rfl, rfl⟩
  · skip
    refine r_vret hC hR dX6_addRow_9 (le_b rfl) (le_b rfl) ?_
    exact absurd hz.2 (by omega)

def c_sumL (u : Mem) (b : Nat) : Nat → Int
  | 0 => 0
  | k + 1 => c_sumL u b k + mI u (b + 3) k
abbrev rmX6_tell : Room := { frames := 0, cells := 0, slots := 0, locals := 0 }
set_option maxRecDepth 100000 in
theorem k_Tr_tell {l : Launch} {D : DD} (hfl : l.stackTraces = false) {u : Mem} {b : Nat} {w : Int} (hO : TrO u b) (hw : rg w) (hz : 0 ≤ mI u b 4 ∧ mI u b 4 ≤ 6) : CT l D yX6_tell cX6_tell 4 (some .int) rmX6_tell [xA b, xI w] u (RT (xI (if mI u b 3 = 0 then -1 else if w = 0 then mI u b 4 else if w = 1 then (if mI u b 4 = 0 then -1 else mI u (b + 1) 0) else c_sumL u b (mI u b 4).toNat)) u) := by
  refine CT.of hfl (by decide) (le_b rfl) ?_
  intro C hC hR hL hDD hN
  have hfC : (cxL C).stackTraces = false := by rw [hL]; exact hfl
  show VW C 0 [some (xA b), some (xI w), none, none] [] u 0 0
  refine r_aload_n hC dX6_tell_0 rfl ?_
  refine r_getI (j := 3) hC dX6_tell_1 fl_X6_21 rfl rfl hO.o ?_
  refine r_if_ne (t := 9) hC dX6_tell_4 (by rfl) (by first | with_reducible exact rg_mI _ _ _ | assumption | with_reducible exact rf_at rf _ | with_reducible exact rg_and _ _ | exact ⟨by omega, by omega⟩) (fun h_4 => ?_) (fun h_4 => ?_)
  · skip
    refine r_iload_n hC dX6_tell_9 rfl ?_
    refine r_if_ne (t := 18) hC dX6_tell_10 (by rfl) (by first | with_reducible exact rg_mI _ _ _ | assumption | with_reducible exact rf_at rf _ | with_reducible exact rg_and _ _ | exact ⟨by omega, by omega⟩) (fun h_10 => ?_) (fun h_10 => ?_)
    · skip
      refine r_iload_n hC dX6_tell_18 rfl ?_
      refine r_iconst hC dX6_tell_19 ?_
      refine r_icmp_ne (t := 41) hC dX6_tell_20 (by rfl) (by first | with_reducible exact rg_mI _ _ _ | assumption | with_reducible exact rf_at rf _ | with_reducible exact rg_and _ _ | exact ⟨by omega, by omega⟩) (by first | with_reducible exact rg_mI _ _ _ | assumption | with_reducible exact rf_at rf _ | with_reducible exact rg_and _ _ | exact ⟨by omega, by omega⟩) (fun h_20 => ?_) (fun h_20 => ?_)
      · skip
        have lp : ∀ (n : Nat) (i : Nat), ((mI u b 4 - i).toNat = n) → ((i : Int) ≤ mI u b 4) → VW C 45 [some (xA b), some (xI w), some (xI (c_sumL u b i)), some (xI i)] [] u 0 0 := by
          intro n
          induction n using Nat.strongRecOn with
          | _ n ih =>
            intro i hn hi
            refine r_iload_n hC dX6_tell_45 rfl ?_
            refine r_aload_n hC dX6_tell_46 rfl ?_
            refine r_getI (j := 4) hC dX6_tell_47 fl_X6_25 rfl rfl hO.o ?_
            refine r_icmp_ge (t := 68) hC dX6_tell_50 (by rfl) (by first | with_reducible exact rg_mI _ _ _ | assumption | with_reducible exact rf_at rf _ | with_reducible exact rg_and _ _ | exact ⟨by omega, by omega⟩) (by first | with_reducible exact rg_mI _ _ _ | assumption | with_reducible exact rf_at rf _ | with_reducible exact rg_and _ _ | exact ⟨by omega, by omega⟩) (fun h_50 => ?_) (fun h_50 => ?_)
            · skip
              refine r_iload_n hC dX6_tell_68 rfl ?_
              refine r_iret hC hR dX6_tell_69 (le_b rfl) (le_b rfl) ?_
              have e : (mI u b 4).toNat = i := by omega
              refine ⟨congrArg (fun i => some (xI i)) ?_, rfl⟩
              rw [if_neg (by omega), if_neg (by omega), if_neg (by omega), e]
            · skip
              refine r_iload_n hC dX6_tell_53 rfl ?_
              refine r_aload_n hC dX6_tell_54 rfl ?_
              refine r_getR (j := 2) hC dX6_tell_55 fl_X6_18 rfl rfl hO.o hO.p2 ?_
              refine r_iload_n hC dX6_tell_58 rfl ?_
              refine r_iald hC dX6_tell_59 hO.a2 ⟨by omega, by omega⟩ ?_
              refine r_iadd hC dX6_tell_60 ?_
              refine r_istore_n (lv' := [_, _, _, _]) hC dX6_tell_61 (lt_b rfl) rfl (lt_b rfl) rfl ?_
              refine r_iinc (lv' := [_, _, _, _]) hC dX6_tell_62 rfl (lt_b rfl) rfl (lt_b rfl) rfl ?_
              refine r_goto (t := 45) hC dX6_tell_65 (by rfl) ?_
              exact ih _ (by omega) (i + 1) rfl (by omega)
        refine r_iconst hC dX6_tell_41 ?_
        refine r_istore_n (lv' := [_, _, _, _]) hC dX6_tell_42 (lt_b rfl) rfl (lt_b rfl) rfl ?_
        refine r_iconst hC dX6_tell_43 ?_
        refine r_istore_n (lv' := [_, _, _, _]) hC dX6_tell_44 (lt_b rfl) rfl (lt_b rfl) rfl ?_
        exact lp _ 0 rfl (by omega)
      · skip
        refine r_aload_n hC dX6_tell_23 rfl ?_
        refine r_getI (j := 4) hC dX6_tell_24 fl_X6_25 rfl rfl hO.o ?_
        refine r_if_ne (t := 34) hC dX6_tell_27 (by rfl) (by first | with_reducible exact rg_mI _ _ _ | assumption | with_reducible exact rf_at rf _ | with_reducible exact rg_and _ _ | exact ⟨by omega, by omega⟩) (fun h_27 => ?_) (fun h_27 => ?_)
        · skip
          refine r_aload_n hC dX6_tell_34 rfl ?_
          refine r_getR (j := 0) hC dX6_tell_35 fl_X6_9 rfl rfl hO.o hO.p0 ?_
          refine r_iconst hC dX6_tell_38 ?_
          refine r_iald hC dX6_tell_39 hO.a0 ⟨by omega, by omega⟩ ?_
          refine r_iret hC hR dX6_tell_40 (le_b rfl) (le_b rfl) ?_
          refine ⟨congrArg (fun i => some (xI i)) ?_, rfl⟩
          (repeat' split) <;> first | rfl | omega | (exfalso; omega)
        · skip
          refine r_iconst hC dX6_tell_30 ?_
          refine r_goto (t := 40) hC dX6_tell_31 (by rfl) ?_
          refine r_iret hC hR dX6_tell_40 (le_b rfl) (le_b rfl) ?_
          refine ⟨congrArg (fun i => some (xI i)) ?_, rfl⟩
          (repeat' split) <;> first | rfl | omega | (exfalso; omega)
    · skip
      refine r_aload_n hC dX6_tell_13 rfl ?_
      refine r_getI (j := 4) hC dX6_tell_14 fl_X6_25 rfl rfl hO.o ?_
      refine r_iret hC hR dX6_tell_17 (le_b rfl) (le_b rfl) ?_
      refine ⟨congrArg (fun i => some (xI i)) ?_, rfl⟩
      (repeat' split) <;> first | rfl | omega | (exfalso; omega)
  · skip
    refine r_iconst hC dX6_tell_7 ?_
    refine r_iret hC hR dX6_tell_8 (le_b rfl) (le_b rfl) ?_
    refine ⟨congrArg (fun i => some (xI i)) ?_, rfl⟩
    (repeat' split) <;> first | rfl | omega | (exfalso; omega)

/-! rows -/
def RoCp (u : Mem) (b o : Nat) (w : Mem) : Prop := Fr u w (fun q => b ≤ q ∧ q < b + 8) (fun _ => False) ∧ (∀ j : Int, 7 ≤ j → j ≤ 9 → mI w b j = mI u o j) ∧ (∀ t : Nat, t < 6 → ∀ j : Int, 0 ≤ j → j < mI u o 7 → mI w (b + 1 + t) j = mI u (o + 1 + t) j) ∧ ∀ j : Int, 0 ≤ j → j < mI u o 8 → mI w (b + 7) j = mI u (o + 7) j
abbrev rmX4_copyFrom : Room := { frames := 1, cells := 0, slots := 0, locals := 40 }
set_option maxRecDepth 100000 in
theorem k_Ro_copy {l : Launch} {D : DD} (hfl : l.stackTraces = false) {u : Mem} {b o : Nat} (hO : RoO u b) (hQ : RoO u o) (hd : o + 8 ≤ b ∨ b + 8 ≤ o) (h7 : 0 ≤ mI u o 7 ∧ mI u o 7 ≤ 200) (h8 : 0 ≤ mI u o 8 ∧ mI u o 8 ≤ 60) : CT l D yX4_copyFrom cX4_copyFrom 2 none rmX4_copyFrom [xA b, xA o] u (fun r w => r = none ∧ RoCp u b o w) := by
  refine CT.of hfl (by decide) (le_b rfl) ?_
  intro C hC hR hL hDD hN
  have hfC : (cxL C).stackTraces = false := by rw [hL]; exact hfl
  show VW C 0 [some (xA b), some (xA o)] [] u 0 0
  refine r_aload_n hC dX4_copyFrom_0 rfl ?_
  refine r_getR (j := 0) hC dX4_copyFrom_1 fl_X4_9 rfl rfl hQ.o hQ.p0 ?_
  refine r_iconst hC dX4_copyFrom_4 ?_
  refine r_aload_n hC dX4_copyFrom_5 rfl ?_
  refine r_getR (j := 0) hC dX4_copyFrom_6 fl_X4_9 rfl rfl hO.o hO.p0 ?_
  refine r_iconst hC dX4_copyFrom_9 ?_
  refine r_aload_n hC dX4_copyFrom_10 rfl ?_
  refine r_getI (j := 7) hC dX4_copyFrom_11 fl_X4_33 rfl rfl hQ.o ?_
  refine r_copy hC dX4_copyFrom_14 ml_X4_43 hQ.a0 hO.a0 ⟨by omega, by omega, by omega⟩ (le_b rfl) ⟨le_b rfl, le_b rfl⟩ ?_
  refine r_aload_n hC dX4_copyFrom_17 rfl ?_
  refine r_getR (j := 1) hC dX4_copyFrom_18 fl_X4_15 rfl rfl hQ.o hQ.p1 ?_
  refine r_iconst hC dX4_copyFrom_21 ?_
  refine r_aload_n hC dX4_copyFrom_22 rfl ?_
  refine r_getR (j := 1) hC dX4_copyFrom_23 fl_X4_15 rfl rfl hO.o hO.p1 ?_
  refine r_iconst hC dX4_copyFrom_26 ?_
  refine r_aload_n hC dX4_copyFrom_27 rfl ?_
  refine r_getIv (j := 7) (v := mI u o 7) hC dX4_copyFrom_28 fl_X4_33 rfl rfl hQ.o (by simp only [mI_sA_n _ _ (show o ≠ b + 1 by omega), mI_sA_n _ _ (show o ≠ b + 2 by omega), mI_sA_n _ _ (show o ≠ b + 3 by omega), mI_sA_n _ _ (show o ≠ b + 4 by omega), mI_sA_n _ _ (show o ≠ b + 5 by omega), mI_sA_n _ _ (show o ≠ b + 6 by omega), mI_sA_n _ _ (show o ≠ b + 7 by omega)]) ?_
  refine r_copy hC dX4_copyFrom_31 ml_X4_43 hQ.a1 hO.a1 ⟨by omega, by omega, by omega⟩ (le_b rfl) ⟨le_b rfl, le_b rfl⟩ ?_
  refine r_aload_n hC dX4_copyFrom_34 rfl ?_
  refine r_getR (j := 2) hC dX4_copyFrom_35 fl_X4_18 rfl rfl hQ.o hQ.p2 ?_
  refine r_iconst hC dX4_copyFrom_38 ?_
  refine r_aload_n hC dX4_copyFrom_39 rfl ?_
  refine r_getR (j := 2) hC dX4_copyFrom_40 fl_X4_18 rfl rfl hO.o hO.p2 ?_
  refine r_iconst hC dX4_copyFrom_43 ?_
  refine r_aload_n hC dX4_copyFrom_44 rfl ?_
  refine r_getIv (j := 7) (v := mI u o 7) hC dX4_copyFrom_45 fl_X4_33 rfl rfl hQ.o (by simp only [mI_sA_n _ _ (show o ≠ b + 1 by omega), mI_sA_n _ _ (show o ≠ b + 2 by omega), mI_sA_n _ _ (show o ≠ b + 3 by omega), mI_sA_n _ _ (show o ≠ b + 4 by omega), mI_sA_n _ _ (show o ≠ b + 5 by omega), mI_sA_n _ _ (show o ≠ b + 6 by omega), mI_sA_n _ _ (show o ≠ b + 7 by omega)]) ?_
  refine r_copy hC dX4_copyFrom_48 ml_X4_43 hQ.a2 hO.a2 ⟨by omega, by omega, by omega⟩ (le_b rfl) ⟨le_b rfl, le_b rfl⟩ ?_
  refine r_aload_n hC dX4_copyFrom_51 rfl ?_
  refine r_getR (j := 3) hC dX4_copyFrom_52 fl_X4_21 rfl rfl hQ.o hQ.p3 ?_
  refine r_iconst hC dX4_copyFrom_55 ?_
  refine r_aload_n hC dX4_copyFrom_56 rfl ?_
  refine r_getR (j := 3) hC dX4_copyFrom_57 fl_X4_21 rfl rfl hO.o hO.p3 ?_
  refine r_iconst hC dX4_copyFrom_60 ?_
  refine r_aload_n hC dX4_copyFrom_61 rfl ?_
  refine r_getIv (j := 7) (v := mI u o 7) hC dX4_copyFrom_62 fl_X4_33 rfl rfl hQ.o (by simp only [mI_sA_n _ _ (show o ≠ b + 1 by omega), mI_sA_n _ _ (show o ≠ b + 2 by omega), mI_sA_n _ _ (show o ≠ b + 3 by omega), mI_sA_n _ _ (show o ≠ b + 4 by omega), mI_sA_n _ _ (show o ≠ b + 5 by omega), mI_sA_n _ _ (show o ≠ b + 6 by omega), mI_sA_n _ _ (show o ≠ b + 7 by omega)]) ?_
  refine r_copy hC dX4_copyFrom_65 ml_X4_43 hQ.a3 hO.a3 ⟨by omega, by omega, by omega⟩ (le_b rfl) ⟨le_b rfl, le_b rfl⟩ ?_
  refine r_aload_n hC dX4_copyFrom_68 rfl ?_
  refine r_getR (j := 4) hC dX4_copyFrom_69 fl_X4_24 rfl rfl hQ.o hQ.p4 ?_
  refine r_iconst hC dX4_copyFrom_72 ?_
  refine r_aload_n hC dX4_copyFrom_73 rfl ?_
  refine r_getR (j := 4) hC dX4_copyFrom_74 fl_X4_24 rfl rfl hO.o hO.p4 ?_
  refine r_iconst hC dX4_copyFrom_77 ?_
  refine r_aload_n hC dX4_copyFrom_78 rfl ?_
  refine r_getIv (j := 7) (v := mI u o 7) hC dX4_copyFrom_79 fl_X4_33 rfl rfl hQ.o (by simp only [mI_sA_n _ _ (show o ≠ b + 1 by omega), mI_sA_n _ _ (show o ≠ b + 2 by omega), mI_sA_n _ _ (show o ≠ b + 3 by omega), mI_sA_n _ _ (show o ≠ b + 4 by omega), mI_sA_n _ _ (show o ≠ b + 5 by omega), mI_sA_n _ _ (show o ≠ b + 6 by omega), mI_sA_n _ _ (show o ≠ b + 7 by omega)]) ?_
  refine r_copy hC dX4_copyFrom_82 ml_X4_43 hQ.a4 hO.a4 ⟨by omega, by omega, by omega⟩ (le_b rfl) ⟨le_b rfl, le_b rfl⟩ ?_
  refine r_aload_n hC dX4_copyFrom_85 rfl ?_
  refine r_getR (j := 5) hC dX4_copyFrom_86 fl_X4_27 rfl rfl hQ.o hQ.p5 ?_
  refine r_iconst hC dX4_copyFrom_89 ?_
  refine r_aload_n hC dX4_copyFrom_90 rfl ?_
  refine r_getR (j := 5) hC dX4_copyFrom_91 fl_X4_27 rfl rfl hO.o hO.p5 ?_
  refine r_iconst hC dX4_copyFrom_94 ?_
  refine r_aload_n hC dX4_copyFrom_95 rfl ?_
  refine r_getIv (j := 7) (v := mI u o 7) hC dX4_copyFrom_96 fl_X4_33 rfl rfl hQ.o (by simp only [mI_sA_n _ _ (show o ≠ b + 1 by omega), mI_sA_n _ _ (show o ≠ b + 2 by omega), mI_sA_n _ _ (show o ≠ b + 3 by omega), mI_sA_n _ _ (show o ≠ b + 4 by omega), mI_sA_n _ _ (show o ≠ b + 5 by omega), mI_sA_n _ _ (show o ≠ b + 6 by omega), mI_sA_n _ _ (show o ≠ b + 7 by omega)]) ?_
  refine r_copy hC dX4_copyFrom_99 ml_X4_43 hQ.a5 hO.a5 ⟨by omega, by omega, by omega⟩ (le_b rfl) ⟨le_b rfl, le_b rfl⟩ ?_
  refine r_aload_n hC dX4_copyFrom_102 rfl ?_
  refine r_getR (j := 6) hC dX4_copyFrom_103 fl_X4_30 rfl rfl hQ.o hQ.p6 ?_
  refine r_iconst hC dX4_copyFrom_106 ?_
  refine r_aload_n hC dX4_copyFrom_107 rfl ?_
  refine r_getR (j := 6) hC dX4_copyFrom_108 fl_X4_30 rfl rfl hO.o hO.p6 ?_
  refine r_iconst hC dX4_copyFrom_111 ?_
  refine r_aload_n hC dX4_copyFrom_112 rfl ?_
  refine r_getIv (j := 8) (v := mI u o 8) hC dX4_copyFrom_113 fl_X4_37 rfl rfl hQ.o (by simp only [mI_sA_n _ _ (show o ≠ b + 1 by omega), mI_sA_n _ _ (show o ≠ b + 2 by omega), mI_sA_n _ _ (show o ≠ b + 3 by omega), mI_sA_n _ _ (show o ≠ b + 4 by omega), mI_sA_n _ _ (show o ≠ b + 5 by omega), mI_sA_n _ _ (show o ≠ b + 6 by omega), mI_sA_n _ _ (show o ≠ b + 7 by omega)]) ?_
  refine r_copy hC dX4_copyFrom_116 ml_X4_43 hQ.a6 hO.a6 ⟨by omega, by omega, by omega⟩ (le_b rfl) ⟨le_b rfl, le_b rfl⟩ ?_
  refine r_aload_n hC dX4_copyFrom_119 rfl ?_
  refine r_aload_n hC dX4_copyFrom_120 rfl ?_
  refine r_getI (j := 7) hC dX4_copyFrom_121 fl_X4_33 rfl rfl hQ.o ?_
  refine r_putI (j := 7) hC dX4_copyFrom_124 fl_X4_33 rfl hO.o (by rintro _ ⟨⟩; rfl) (Or.inl rfl) ?_
  refine r_aload_n hC dX4_copyFrom_127 rfl ?_
  refine r_aload_n hC dX4_copyFrom_128 rfl ?_
  refine r_getI (j := 8) hC dX4_copyFrom_129 fl_X4_37 rfl rfl hQ.o ?_
  refine r_putI (j := 8) hC dX4_copyFrom_132 fl_X4_37 rfl hO.o (by rintro _ ⟨⟩; rfl) (Or.inl rfl) ?_
  refine r_aload_n hC dX4_copyFrom_135 rfl ?_
  refine r_aload_n hC dX4_copyFrom_136 rfl ?_
  refine r_getI (j := 9) hC dX4_copyFrom_137 fl_X4_40 rfl rfl hQ.o ?_
  refine r_putI (j := 9) hC dX4_copyFrom_140 fl_X4_40 rfl hO.o (by rintro _ ⟨⟩; rfl) (Or.inl rfl) ?_
  refine r_vret hC hR dX4_copyFrom_143 (le_b rfl) (le_b rfl) ?_
  refine ⟨rfl, ?_, ?_, ?_, ?_⟩
  · repeat (first | exact Fr.refl _ _ _ | refine Fr.sI ?_ _ _ (by constructor <;> omega) | refine Fr.sA ?_ _ (by constructor <;> omega))
  · intro j h1 h2
    have hj : j = 7 ∨ j = 8 ∨ j = 9 := by omega
    rcases hj with rfl | rfl | rfl <;> simp [mI_sI, wr_mI, mI_sA_n, show o ≠ b by omega, show o ≠ b + 1 by omega, show o ≠ b + 2 by omega, show o ≠ b + 3 by omega, show o ≠ b + 4 by omega, show o ≠ b + 5 by omega, show o ≠ b + 6 by omega, show o ≠ b + 7 by omega]
  · intro t ht j h1 h2
    have hs : ∀ (x : Mem) (k v : Int) (q : Nat), q ≠ b → mI (sI x b k v) q = mI x q := fun x k v q hq => up_mI_n x k v hq
    have ht3 : t = 0 ∨ t = 1 ∨ t = 2 ∨ t = 3 ∨ t = 4 ∨ t = 5 := by omega
    rcases ht3 with rfl | rfl | rfl | rfl | rfl | rfl
    · show mI _ (b + 1) j = mI u (o + 1) j
      rw [hs _ _ _ _ (by omega), hs _ _ _ _ (by omega), hs _ _ _ _ (by omega), mI_sA_n _ _ (by omega), mI_sA_n _ _ (by omega), mI_sA_n _ _ (by omega), mI_sA_n _ _ (by omega), mI_sA_n _ _ (by omega), mI_sA_n _ _ (by omega), mI_cp, cpF_in ⟨h1, h2⟩]
    · show mI _ (b + 2) j = mI u (o + 2) j
      rw [hs _ _ _ _ (by omega), hs _ _ _ _ (by omega), hs _ _ _ _ (by omega), mI_sA_n _ _ (by omega), mI_sA_n _ _ (by omega), mI_sA_n _ _ (by omega), mI_sA_n _ _ (by omega), mI_sA_n _ _ (by omega), mI_cp, cpF_in ⟨h1, h2⟩, mI_sA_n _ _ (by omega)]
    · show mI _ (b + 3) j = mI u (o + 3) j
      rw [hs _ _ _ _ (by omega), hs _ _ _ _ (by omega), hs _ _ _ _ (by omega), mI_sA_n _ _ (by omega), mI_sA_n _ _ (by omega), mI_sA_n _ _ (by omega), mI_sA_n _ _ (by omega), mI_cp, cpF_in ⟨h1, h2⟩, mI_sA_n _ _ (by omega), mI_sA_n _ _ (by omega)]
    · show mI _ (b + 4) j = mI u (o + 4) j
      rw [hs _ _ _ _ (by omega), hs _ _ _ _ (by omega), hs _ _ _ _ (by omega), mI_sA_n _ _ (by omega), mI_sA_n _ _ (by omega), mI_sA_n _ _ (by omega), mI_cp, cpF_in ⟨h1, h2⟩, mI_sA_n _ _ (by omega), mI_sA_n _ _ (by omega), mI_sA_n _ _ (by omega)]
    · show mI _ (b + 5) j = mI u (o + 5) j
      rw [hs _ _ _ _ (by omega), hs _ _ _ _ (by omega), hs _ _ _ _ (by omega), mI_sA_n _ _ (by omega), mI_sA_n _ _ (by omega), mI_cp, cpF_in ⟨h1, h2⟩, mI_sA_n _ _ (by omega), mI_sA_n _ _ (by omega), mI_sA_n _ _ (by omega), mI_sA_n _ _ (by omega)]
    · show mI _ (b + 6) j = mI u (o + 6) j
      rw [hs _ _ _ _ (by omega), hs _ _ _ _ (by omega), hs _ _ _ _ (by omega), mI_sA_n _ _ (by omega), mI_cp, cpF_in ⟨h1, h2⟩, mI_sA_n _ _ (by omega), mI_sA_n _ _ (by omega), mI_sA_n _ _ (by omega), mI_sA_n _ _ (by omega), mI_sA_n _ _ (by omega)]
  · intro j h1 h2
    have hs : ∀ (x : Mem) (k v : Int) (q : Nat), q ≠ b → mI (sI x b k v) q = mI x q := fun x k v q hq => up_mI_n x k v hq
    show mI _ (b + 7) j = mI u (o + 7) j
    rw [hs _ _ _ _ (by omega), hs _ _ _ _ (by omega), hs _ _ _ _ (by omega), mI_cp, cpF_in ⟨h1, h2⟩, mI_sA_n _ _ (by omega), mI_sA_n _ _ (by omega), mI_sA_n _ _ (by omega), mI_sA_n _ _ (by omega), mI_sA_n _ _ (by omega), mI_sA_n _ _ (by omega)]

/-- the place of a row with this number among the first k of the order -/
def c_opos (u : Mem) (b : Nat) (x : Int) : Nat → Nat
  | 0 => 0
  | k + 1 => if x < mI u (b + 1) (mI u (b + 7) k) then c_opos u b x k else k + 1
theorem c_opos_le (u : Mem) (b : Nat) (x : Int) (k : Nat) : c_opos u b x k ≤ k := by
  induction k with
  | zero => exact Nat.le_refl _
  | succ k ih => simp only [c_opos]; split <;> omega
def insI (h : RW) (n p x : Int) : RW := fun j => if p < j ∧ j ≤ n then h (j - 1) else if j = p then wr x else h j
/-- those behind place p have moved up -/
def movI (h : RW) (n p : Int) : RW := fun j => if p < j ∧ j ≤ n then h (j - 1) else h j
theorem rf_movI {h : RW} (rh : RF h) (n p : Int) : RF (movI h n p) := fun j => by
  unfold movI; split <;> exact rh _
theorem rf_insI {h : RW} (rh : RF h) (n p x : Int) : RF (insI h n p x) := fun j => by
  unfold insI; split
  · exact rh _
  · split
    · exact rg_wr _
    · exact rh _
def RoAd (u : Mem) (b : Nat) (x y t v : Int) (w : Mem) : Prop := Fr u w (fun q => b ≤ q ∧ q < b + 8) (fun _ => False) ∧ mI w b = up (up (mI u b) 8 (mI u b 8 + 1)) 7 (mI u b 7 + 1) ∧ mI w (b + 1) = up (mI u (b + 1)) (mI u b 7) x ∧ mI w (b + 2) = up (mI u (b + 2)) (mI u b 7) y ∧ mI w (b + 3) = up (mI u (b + 3)) (mI u b 7) t ∧ mI w (b + 4) = up (mI u (b + 4)) (mI u b 7) v ∧ mI w (b + 5) = up (mI u (b + 5)) (mI u b 7) 0 ∧ mI w (b + 6) = up (mI u (b + 6)) (mI u b 7) 0 ∧ mI w (b + 7) = insI (mI u (b + 7)) (mI u b 8) (c_opos u b x (mI u b 8).toNat) (mI u b 7)
abbrev rmX4_addRow : Room := { frames := 0, cells := 0, slots := 0, locals := 0 }
set_option maxRecDepth 100000 in
theorem k_Ro_add {l : Launch} {D : DD} (hfl : l.stackTraces = false) {u : Mem} {b : Nat} {x y t v : Int} (hO : RoO u b) (hx : rg x) (h7 : 0 ≤ mI u b 7 ∧ mI u b 7 < 200) (h8 : 0 ≤ mI u b 8 ∧ mI u b 8 < 60) (ho : ∀ j : Int, 0 ≤ j → j < mI u b 8 → 0 ≤ mI u (b + 7) j ∧ mI u (b + 7) j < mI u b 7) : CT l D yX4_addRow cX4_addRow 6 none rmX4_addRow [xA b, xI x, xI y, xI t, xI v] u (fun r w => r = none ∧ RoAd u b x y t v w) := by
  refine CT.of hfl (by decide) (le_b rfl) ?_
  intro C hC hR hL hDD hN
  have hfC : (cxL C).stackTraces = false := by rw [hL]; exact hfl
  obtain ⟨N, hN⟩ : ∃ N : Nat, mI u b 8 = N := ⟨(mI u b 8).toNat, by omega⟩
  rw [hN] at h8 ho
  have sne : ∀ (q : Nat) (w : Mem) (k z : Int), mI (sI w (b + (q + 1)) k z) b = mI w b := fun q w k z => up_mI_n w k z (by omega)
  have sn7 : ∀ (q : Nat) (w : Mem) (k z : Int), q < 6 → mI (sI w (b + (q + 1)) k z) (b + 7) = mI w (b + 7) := fun q w k z hq => up_mI_n w k z (by omega)
  obtain ⟨w6, hw6⟩ : ∃ w, w = (sI (sI (sI (sI (sI (sI u (b + 1) (mI u b 7) x) (b + 2) (mI u b 7) y) (b + 3) (mI u b 7) t) (b + 4) (mI u b 7) v) (b + 5) (mI u b 7) 0) (b + 6) (mI u b 7) 0) := ⟨_, rfl⟩
  have f6 : Fr u w6 (fun q => b ≤ q ∧ q < b + 8) (fun _ => False) := by rw [hw6]; repeat (first | exact Fr.refl _ _ _ | refine Fr.sI ?_ _ _ (by constructor <;> omega) | refine Fr.sA ?_ _ (by constructor <;> omega))
  have e0 : mI w6 b = mI u b := by rw [hw6]; simp only [sne]
  have e7 : mI w6 (b + 7) = mI u (b + 7) := by rw [hw6]; rw [sn7 5 _ _ _ (by decide), sn7 4 _ _ _ (by decide), sn7 3 _ _ _ (by decide), sn7 2 _ _ _ (by decide), sn7 1 _ _ _ (by decide), sn7 0 _ _ _ (by decide)]
  have e1 : mI w6 (b + 1) = up (mI u (b + 1)) (mI u b 7) x := by rw [hw6]; rw [up_mI_n _ _ _ (show b + 1 ≠ b + 6 by omega), up_mI_n _ _ _ (show b + 1 ≠ b + 5 by omega), up_mI_n _ _ _ (show b + 1 ≠ b + 4 by omega), up_mI_n _ _ _ (show b + 1 ≠ b + 3 by omega), up_mI_n _ _ _ (show b + 1 ≠ b + 2 by omega), up_mI]
  have e2 : mI w6 (b + 2) = up (mI u (b + 2)) (mI u b 7) y := by rw [hw6]; rw [up_mI_n _ _ _ (show b + 2 ≠ b + 6 by omega), up_mI_n _ _ _ (show b + 2 ≠ b + 5 by omega), up_mI_n _ _ _ (show b + 2 ≠ b + 4 by omega), up_mI_n _ _ _ (show b + 2 ≠ b + 3 by omega), up_mI, up_mI_n _ _ _ (show b + 2 ≠ b + 1 by omega)]
  have e3 : mI w6 (b + 3) = up (mI u (b + 3)) (mI u b 7) t := by rw [hw6]; rw [up_mI_n _ _ _ (show b + 3 ≠ b + 6 by omega), up_mI_n _ _ _ (show b + 3 ≠ b + 5 by omega), up_mI_n _ _ _ (show b + 3 ≠ b + 4 by omega), up_mI, up_mI_n _ _ _ (show b + 3 ≠ b + 2 by omega), up_mI_n _ _ _ (show b + 3 ≠ b + 1 by omega)]
  have e4 : mI w6 (b + 4) = up (mI u (b + 4)) (mI u b 7) v := by rw [hw6]; rw [up_mI_n _ _ _ (show b + 4 ≠ b + 6 by omega), up_mI_n _ _ _ (show b + 4 ≠ b + 5 by omega), up_mI, up_mI_n _ _ _ (show b + 4 ≠ b + 3 by omega), up_mI_n _ _ _ (show b + 4 ≠ b + 2 by omega), up_mI_n _ _ _ (show b + 4 ≠ b + 1 by omega)]
  have e5 : mI w6 (b + 5) = up (mI u (b + 5)) (mI u b 7) 0 := by rw [hw6]; rw [up_mI_n _ _ _ (show b + 5 ≠ b + 6 by omega), up_mI, up_mI_n _ _ _ (show b + 5 ≠ b + 4 by omega), up_mI_n _ _ _ (show b + 5 ≠ b + 3 by omega), up_mI_n _ _ _ (show b + 5 ≠ b + 2 by omega), up_mI_n _ _ _ (show b + 5 ≠ b + 1 by omega)]
  have e6 : mI w6 (b + 6) = up (mI u (b + 6)) (mI u b 7) 0 := by rw [hw6]; rw [up_mI, up_mI_n _ _ _ (show b + 6 ≠ b + 5 by omega), up_mI_n _ _ _ (show b + 6 ≠ b + 4 by omega), up_mI_n _ _ _ (show b + 6 ≠ b + 3 by omega), up_mI_n _ _ _ (show b + 6 ≠ b + 2 by omega), up_mI_n _ _ _ (show b + 6 ≠ b + 1 by omega)]
  have hO6 : RoO w6 b := by rw [hw6]; exact hO
  have e1' : ∀ j : Int, j ≠ mI u b 7 → mI w6 (b + 1) j = mI u (b + 1) j := fun j hj => by rw [e1, up_n _ _ hj]
  have rh := rf_mI u (b + 7)
  have ex : ∀ p : Nat, p ≤ N → c_opos u b x N = p → VW C 132 [some (xA b), some (xI x), some (xI y), some (xI t), some (xI v), some (xI p)] [] (sA w6 (b + 7) (movI (mI u (b + 7)) N p)) 0 0 := by
    intro p hp hpp
    refine r_aload_n hC dX4_addRow_132 rfl ?_
    refine r_getR (j := 6) hC dX4_addRow_133 fl_X4_30 rfl rfl hO6.o hO6.p6 ?_
    refine r_iload hC dX4_addRow_136 rfl ?_
    refine r_aload_n hC dX4_addRow_138 rfl ?_
    refine r_getIv (j := 7) (v := mI u b 7) hC dX4_addRow_139 fl_X4_33 rfl rfl hO6.o (by rw [mI_sA_n _ _ (show b ≠ b + 7 by omega), e0]) ?_
    refine r_iast hC dX4_addRow_142 hO6.a6 ⟨by omega, by omega⟩ ?_
    refine r_aload_n hC dX4_addRow_143 rfl ?_
    refine r_dup hC dX4_addRow_144 rfl ?_
    refine r_getIv (j := 8) (v := mI u b 8) hC dX4_addRow_145 fl_X4_37 rfl rfl hO6.o (by rw [up_mI_n _ _ _ (show b ≠ b + 7 by omega), mI_sA_n _ _ (show b ≠ b + 7 by omega), e0]) ?_
    refine r_iconst hC dX4_addRow_148 ?_
    refine r_iadd hC dX4_addRow_149 ?_
    refine r_putI (j := 8) hC dX4_addRow_150 fl_X4_37 rfl hO6.o (by rintro _ ⟨⟩; rfl) (Or.inl rfl) ?_
    refine r_aload_n hC dX4_addRow_153 rfl ?_
    refine r_dup hC dX4_addRow_154 rfl ?_
    refine r_getIv (j := 7) (v := mI u b 7) hC dX4_addRow_155 fl_X4_33 rfl rfl hO6.o (by rw [up_mI, up_n _ _ (by decide), up_mI_n _ _ _ (show b ≠ b + 7 by omega), mI_sA_n _ _ (show b ≠ b + 7 by omega), e0]) ?_
    refine r_iconst hC dX4_addRow_158 ?_
    refine r_iadd hC dX4_addRow_159 ?_
    refine r_putI (j := 7) hC dX4_addRow_160 fl_X4_33 rfl hO6.o (by rintro _ ⟨⟩; rfl) (Or.inl rfl) ?_
    refine r_vret hC hR dX4_addRow_163 (le_b rfl) (le_b rfl) ?_
    refine ⟨rfl, ?_, ?_, ?_, ?_, ?_, ?_, ?_, ?_, ?_⟩
    · repeat (first | exact f6 | refine Fr.sI ?_ _ _ (by constructor <;> omega) | refine Fr.sA ?_ _ (by constructor <;> omega))
    · rw [up_mI, up_mI, up_mI_n _ _ _ (show b ≠ b + 7 by omega), mI_sA_n _ _ (show b ≠ b + 7 by omega), e0]
    · rw [up_mI_n _ _ _ (show b + 1 ≠ b by omega), up_mI_n _ _ _ (show b + 1 ≠ b by omega), up_mI_n _ _ _ (show b + 1 ≠ b + 7 by omega), mI_sA_n _ _ (show b + 1 ≠ b + 7 by omega), e1]
    · rw [up_mI_n _ _ _ (show b + 2 ≠ b by omega), up_mI_n _ _ _ (show b + 2 ≠ b by omega), up_mI_n _ _ _ (show b + 2 ≠ b + 7 by omega), mI_sA_n _ _ (show b + 2 ≠ b + 7 by omega), e2]
    · rw [up_mI_n _ _ _ (show b + 3 ≠ b by omega), up_mI_n _ _ _ (show b + 3 ≠ b by omega), up_mI_n _ _ _ (show b + 3 ≠ b + 7 by omega), mI_sA_n _ _ (show b + 3 ≠ b + 7 by omega), e3]
    · rw [up_mI_n _ _ _ (show b + 4 ≠ b by omega), up_mI_n _ _ _ (show b + 4 ≠ b by omega), up_mI_n _ _ _ (show b + 4 ≠ b + 7 by omega), mI_sA_n _ _ (show b + 4 ≠ b + 7 by omega), e4]
    · rw [up_mI_n _ _ _ (show b + 5 ≠ b by omega), up_mI_n _ _ _ (show b + 5 ≠ b by omega), up_mI_n _ _ _ (show b + 5 ≠ b + 7 by omega), mI_sA_n _ _ (show b + 5 ≠ b + 7 by omega), e5]
    · rw [up_mI_n _ _ _ (show b + 6 ≠ b by omega), up_mI_n _ _ _ (show b + 6 ≠ b by omega), up_mI_n _ _ _ (show b + 6 ≠ b + 7 by omega), mI_sA_n _ _ (show b + 6 ≠ b + 7 by omega), e6]
    · rw [up_mI_n _ _ _ (show b + 7 ≠ b by omega), up_mI_n _ _ _ (show b + 7 ≠ b by omega), up_mI, mI_sA_f _ _ (rf_movI rh _ _), hN, show ((N : Int)).toNat = N by omega, hpp]
      funext j
      unfold up insI movI
      by_cases q : j = (p : Int)
      · rw [if_pos q, if_neg (by omega), if_pos q]
      · rw [if_neg q]
        by_cases q2 : (p : Int) < j ∧ j ≤ N
        · rw [if_pos q2, if_pos q2]
        · rw [if_neg q2, if_neg q2, if_neg q]
  have lp : ∀ p : Nat, p ≤ N → c_opos u b x N = c_opos u b x p → VW C 87 [some (xA b), some (xI x), some (xI y), some (xI t), some (xI v), some (xI p)] [] (sA w6 (b + 7) (movI (mI u (b + 7)) N p)) 0 0 := by
    intro p
    induction p with
    | zero =>
      intro hp hpp
      refine r_iload hC dX4_addRow_87 rfl ?_
      refine r_if_le (t := 132) hC dX4_addRow_89 (by rfl) ⟨by omega, by omega⟩ (fun h_89 => ?_) (fun h_89 => ?_)
      · skip
        exact ex 0 hp hpp
      · skip
        omega
    | succ p ih =>
      intro hp hpp
      have hop := ho p (by omega) (by omega)
      refine r_iload hC dX4_addRow_87 rfl ?_
      refine r_if_le (t := 132) hC dX4_addRow_89 (by rfl) ⟨by omega, by omega⟩ (fun h_89 => ?_) (fun h_89 => ?_)
      · skip
        first | (exfalso; omega) | exact ex (p + 1) hp (by rw [hpp]; simp only [c_opos]; rw [if_neg (by omega)])
      · skip
        refine r_aload_n hC dX4_addRow_92 rfl ?_
        refine r_getR (j := 0) hC dX4_addRow_93 fl_X4_9 rfl rfl hO6.o hO6.p0 ?_
        refine r_aload_n hC dX4_addRow_96 rfl ?_
        refine r_getR (j := 6) hC dX4_addRow_97 fl_X4_30 rfl rfl hO6.o hO6.p6 ?_
        refine r_iload hC dX4_addRow_100 rfl ?_
        refine r_iconst hC dX4_addRow_102 ?_
        refine r_isub hC dX4_addRow_103 ?_
        refine r_ialdv (v := mI u (b + 7) p) hC dX4_addRow_104 hO6.a6 ⟨by omega, by omega⟩ (by rw [mI_sA_f _ _ (rf_movI rh _ _), show (((p + 1 : Nat) : Int) - 1) = (p : Int) by omega]; unfold movI; rw [if_neg (by omega)]) ?_
        refine r_ialdv (v := mI u (b + 1) (mI u (b + 7) p)) hC dX4_addRow_105 hO6.a0 ⟨by omega, by omega⟩ (by rw [mI_sA_n _ _ (show b + 1 ≠ b + 7 by omega), e1' _ (by omega)]) ?_
        refine r_iload_n hC dX4_addRow_106 rfl ?_
        refine r_icmp_le (t := 132) hC dX4_addRow_107 (by rfl) (rg_mI _ _ _) hx (fun h_107 => ?_) (fun h_107 => ?_)
        · skip
          first | (exfalso; omega) | exact ex (p + 1) hp (by rw [hpp]; simp only [c_opos]; rw [if_neg (by omega)])
        · skip
          refine r_aload_n hC dX4_addRow_110 rfl ?_
          refine r_getR (j := 6) hC dX4_addRow_111 fl_X4_30 rfl rfl hO6.o hO6.p6 ?_
          refine r_iload hC dX4_addRow_114 rfl ?_
          refine r_aload_n hC dX4_addRow_116 rfl ?_
          refine r_getR (j := 6) hC dX4_addRow_117 fl_X4_30 rfl rfl hO6.o hO6.p6 ?_
          refine r_iload hC dX4_addRow_120 rfl ?_
          refine r_iconst hC dX4_addRow_122 ?_
          refine r_isub hC dX4_addRow_123 ?_
          refine r_ialdv (v := mI u (b + 7) p) hC dX4_addRow_124 hO6.a6 ⟨by omega, by omega⟩ (by rw [mI_sA_f _ _ (rf_movI rh _ _), show (((p + 1 : Nat) : Int) - 1) = (p : Int) by omega]; unfold movI; rw [if_neg (by omega)]) ?_
          refine r_iast hC dX4_addRow_125 hO6.a6 ⟨by omega, by omega⟩ ?_
          refine r_iinc (lv' := [_, _, _, _, _, _]) hC dX4_addRow_126 rfl (lt_b rfl) rfl (lt_b rfl) rfl ?_
          rw [show (((p + 1 : Nat) : Int) + -1) = (p : Int) by omega]
          refine r_goto (t := 87) hC dX4_addRow_129 (by rfl) ?_
          refine vw_mem ?_ (ih (by omega) (by rw [hpp]; simp only [c_opos]; rw [if_pos (by omega)]))
          rw [sA_up]
          congr 1
          funext j
          unfold up movI
          by_cases q : j = ((p + 1 : Nat) : Int)
          · rw [if_pos q, if_pos (by omega), wr_id (rh _)]; congr 1; omega
          · rw [if_neg q]
            by_cases q2 : ((p + 1 : Nat) : Int) < j ∧ j ≤ N
            · rw [if_pos q2, if_pos (by omega)]
            · rw [if_neg q2, if_neg (by omega)]
  show VW C 0 [some (xA b), some (xI x), some (xI y), some (xI t), some (xI v), none] [] u 0 0
  refine r_aload_n hC dX4_addRow_0 rfl ?_
  refine r_getI (j := 7) hC dX4_addRow_1 fl_X4_33 rfl rfl hO.o ?_
  refine r_sipush hC dX4_addRow_4 (by rfl) ?_
  refine r_icmp_ge (t := 19) hC dX4_addRow_7 (by rfl) (rg_mI _ _ _) ⟨by omega, by omega⟩ (fun h_7 => ?_) (fun h_7 => ?_)
  · skip
    refine r_vret hC hR dX4_addRow_19 (le_b rfl) (le_b rfl) ?_
    exfalso; omega
  · skip
    refine r_aload_n hC dX4_addRow_10 rfl ?_
    refine r_getI (j := 8) hC dX4_addRow_11 fl_X4_37 rfl rfl hO.o ?_
    refine r_bipush hC dX4_addRow_14 (by rfl) ?_
    refine r_icmp_lt (t := 20) hC dX4_addRow_16 (by rfl) (rg_mI _ _ _) ⟨by omega, by omega⟩ (fun h_16 => ?_) (fun h_16 => ?_)
    · skip
      refine r_aload_n hC dX4_addRow_20 rfl ?_
      refine r_getR (j := 0) hC dX4_addRow_21 fl_X4_9 rfl rfl hO.o hO.p0 ?_
      refine r_aload_n hC dX4_addRow_24 rfl ?_
      refine r_getIv (j := 7) (v := mI u b 7) hC dX4_addRow_25 fl_X4_33 rfl rfl hO.o (by simp only [sne]) ?_
      refine r_iload_n hC dX4_addRow_28 rfl ?_
      refine r_iast hC dX4_addRow_29 hO.a0 ⟨by omega, by omega⟩ ?_
      refine r_aload_n hC dX4_addRow_30 rfl ?_
      refine r_getR (j := 1) hC dX4_addRow_31 fl_X4_15 rfl rfl hO.o hO.p1 ?_
      refine r_aload_n hC dX4_addRow_34 rfl ?_
      refine r_getIv (j := 7) (v := mI u b 7) hC dX4_addRow_35 fl_X4_33 rfl rfl hO.o (by simp only [sne]) ?_
      refine r_iload_n hC dX4_addRow_38 rfl ?_
      refine r_iast hC dX4_addRow_39 hO.a1 ⟨by omega, by omega⟩ ?_
      refine r_aload_n hC dX4_addRow_40 rfl ?_
      refine r_getR (j := 2) hC dX4_addRow_41 fl_X4_18 rfl rfl hO.o hO.p2 ?_
      refine r_aload_n hC dX4_addRow_44 rfl ?_
      refine r_getIv (j := 7) (v := mI u b 7) hC dX4_addRow_45 fl_X4_33 rfl rfl hO.o (by simp only [sne]) ?_
      refine r_iload_n hC dX4_addRow_48 rfl ?_
      refine r_iast hC dX4_addRow_49 hO.a2 ⟨by omega, by omega⟩ ?_
      refine r_aload_n hC dX4_addRow_50 rfl ?_
      refine r_getR (j := 3) hC dX4_addRow_51 fl_X4_21 rfl rfl hO.o hO.p3 ?_
      refine r_aload_n hC dX4_addRow_54 rfl ?_
      refine r_getIv (j := 7) (v := mI u b 7) hC dX4_addRow_55 fl_X4_33 rfl rfl hO.o (by simp only [sne]) ?_
      refine r_iload hC dX4_addRow_58 rfl ?_
      refine r_iast hC dX4_addRow_60 hO.a3 ⟨by omega, by omega⟩ ?_
      refine r_aload_n hC dX4_addRow_61 rfl ?_
      refine r_getR (j := 4) hC dX4_addRow_62 fl_X4_24 rfl rfl hO.o hO.p4 ?_
      refine r_aload_n hC dX4_addRow_65 rfl ?_
      refine r_getIv (j := 7) (v := mI u b 7) hC dX4_addRow_66 fl_X4_33 rfl rfl hO.o (by simp only [sne]) ?_
      refine r_iconst hC dX4_addRow_69 ?_
      refine r_iast hC dX4_addRow_70 hO.a4 ⟨by omega, by omega⟩ ?_
      refine r_aload_n hC dX4_addRow_71 rfl ?_
      refine r_getR (j := 5) hC dX4_addRow_72 fl_X4_27 rfl rfl hO.o hO.p5 ?_
      refine r_aload_n hC dX4_addRow_75 rfl ?_
      refine r_getIv (j := 7) (v := mI u b 7) hC dX4_addRow_76 fl_X4_33 rfl rfl hO.o (by simp only [sne]) ?_
      refine r_iconst hC dX4_addRow_79 ?_
      refine r_iast hC dX4_addRow_80 hO.a5 ⟨by omega, by omega⟩ ?_
      refine r_aload_n hC dX4_addRow_81 rfl ?_
      refine r_getIv (j := 8) (v := N) hC dX4_addRow_82 fl_X4_37 rfl rfl hO.o (by simp only [sne]; exact hN) ?_
      refine r_istore (lv' := [_, _, _, _, _, _]) hC dX4_addRow_85 (lt_b rfl) rfl (lt_b rfl) rfl ?_
      rw [← hw6]
      refine vw_mem ?_ (lp N (by omega) rfl)
      rw [show movI (mI u (b + 7)) N N = mI w6 (b + 7) from by rw [e7]; funext j; unfold movI; rw [if_neg (by omega)], sA_mI]
    · skip
      refine r_vret hC hR dX4_addRow_19 (le_b rfl) (le_b rfl) ?_
      exfalso; omega
