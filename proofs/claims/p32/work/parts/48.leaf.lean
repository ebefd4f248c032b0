/-! messages -/
def MsCp (u : Mem) (b o : Nat) (w : Mem) : Prop := Fr u w (fun q => q = b ∨ q = b + 1) (fun _ => False) ∧ (∀ j : Int, 1 ≤ j → j ≤ 5 → mI w b j = mI u o j) ∧ ∀ j : Int, 0 ≤ j → j < 8 → mI w (b + 1) j = mI u (o + 1) j
theorem wr_mI (u : Mem) (a : Nat) (k : Int) : wr (mI u a k) = mI u a k := wr_id (rg_mI _ _ _)
abbrev rmX1_copyFrom : Room := { frames := 1, cells := 0, slots := 0, locals := 40 }
set_option maxRecDepth 100000 in
theorem k_Ms_copy {l : Launch} {D : DD} (hfl : l.stackTraces = false) {u : Mem} {b o : Nat} (hO : MsO u b) (hQ : MsO u o) (hd1 : o ≠ b) (hd2 : o ≠ b + 1) (hd3 : o + 1 ≠ b) (hz : mI u o 1 = 0 ∨ mI u o 1 = 1) : CT l D yX1_copyFrom cX1_copyFrom 2 none rmX1_copyFrom [xA b, xA o] u (fun r w => r = none ∧ MsCp u b o w) := by
  refine CT.of hfl (by decide) (le_b rfl) ?_
  intro C hC hR hL hDD hN
  have hfC : (cxL C).stackTraces = false := by rw [hL]; exact hfl
  show VW C 0 [some (xA b), some (xA o)] [] u 0 0
  refine r_aload_n hC dX1_copyFrom_0 rfl ?_
  refine r_getR (j := 0) hC dX1_copyFrom_1 fl_X1_9 rfl rfl hQ.o hQ.p ?_
  refine r_iconst hC dX1_copyFrom_4 ?_
  refine r_aload_n hC dX1_copyFrom_5 rfl ?_
  refine r_getR (j := 0) hC dX1_copyFrom_6 fl_X1_9 rfl rfl hO.o hO.p ?_
  refine r_iconst hC dX1_copyFrom_9 ?_
  refine r_bipush hC dX1_copyFrom_10 (by rfl) ?_
  refine r_copy hC dX1_copyFrom_12 ml_X1_32 hQ.a hO.a ⟨by omega, by omega, by omega⟩ (le_b rfl) ⟨le_b rfl, le_b rfl⟩ ?_
  refine r_aload_n hC dX1_copyFrom_15 rfl ?_
  refine r_aload_n hC dX1_copyFrom_16 rfl ?_
  refine r_getI (j := 1) hC dX1_copyFrom_17 fl_X1_15 rfl rfl hQ.o ?_
  refine r_putI (j := 1) hC dX1_copyFrom_20 fl_X1_15 rfl hO.o (by rintro _ ⟨⟩; rfl) (Or.inr ⟨rfl, by rw [mI_sA_n _ _ hd2]; exact hz⟩) ?_
  refine r_aload_n hC dX1_copyFrom_23 rfl ?_
  refine r_aload_n hC dX1_copyFrom_24 rfl ?_
  refine r_getI (j := 2) hC dX1_copyFrom_25 fl_X1_19 rfl rfl hQ.o ?_
  refine r_putI (j := 2) hC dX1_copyFrom_28 fl_X1_19 rfl hO.o (by rintro _ ⟨⟩; rfl) (Or.inl rfl) ?_
  refine r_aload_n hC dX1_copyFrom_31 rfl ?_
  refine r_aload_n hC dX1_copyFrom_32 rfl ?_
  refine r_getI (j := 3) hC dX1_copyFrom_33 fl_X1_23 rfl rfl hQ.o ?_
  refine r_putI (j := 3) hC dX1_copyFrom_36 fl_X1_23 rfl hO.o (by rintro _ ⟨⟩; rfl) (Or.inl rfl) ?_
  refine r_aload_n hC dX1_copyFrom_39 rfl ?_
  refine r_aload_n hC dX1_copyFrom_40 rfl ?_
  refine r_getI (j := 4) hC dX1_copyFrom_41 fl_X1_26 rfl rfl hQ.o ?_
  refine r_putI (j := 4) hC dX1_copyFrom_44 fl_X1_26 rfl hO.o (by rintro _ ⟨⟩; rfl) (Or.inl rfl) ?_
  refine r_aload_n hC dX1_copyFrom_47 rfl ?_
  refine r_aload_n hC dX1_copyFrom_48 rfl ?_
  refine r_getI (j := 5) hC dX1_copyFrom_49 fl_X1_29 rfl rfl hQ.o ?_
  refine r_putI (j := 5) hC dX1_copyFrom_52 fl_X1_29 rfl hO.o (by rintro _ ⟨⟩; rfl) (Or.inl rfl) ?_
  refine r_vret hC hR dX1_copyFrom_55 (le_b rfl) (le_b rfl) ?_
  refine ⟨rfl, ?_, ?_, ?_⟩
  · repeat (first | exact Fr.refl _ _ _ | refine Fr.sI ?_ _ _ (Or.inl rfl) | refine Fr.sA ?_ _ (Or.inr rfl))
  · intro j h1 h2
    have hj : j = 1 ∨ j = 2 ∨ j = 3 ∨ j = 4 ∨ j = 5 := by omega
    rcases hj with rfl | rfl | rfl | rfl | rfl <;> simp [mI_sI, mI_sA_n, wr_id, rg_toInt, hd1, hd2, wr_mI]
  · intro j h1 h2
    rw [show ∀ (x : Mem) (k v : Int), mI (sI x b k v) (b + 1) = mI x (b + 1) from fun x k v => up_mI_n x k v (by omega)]
    simp only [show ∀ (x : Mem) (k v : Int), mI (sI x b k v) (b + 1) = mI x (b + 1) from fun x k v => up_mI_n x k v (by omega), mI_cp]
    exact cpF_in ⟨h1, h2⟩

abbrev rmX1_becomeBatch : Room := { frames := 0, cells := 0, slots := 0, locals := 0 }
set_option maxRecDepth 100000 in
theorem k_Ms_batch {l : Launch} {D : DD} (hfl : l.stackTraces = false) {u : Mem} {b : Nat} {t : Int} (hO : MsO u b) : CT l D yX1_becomeBatch cX1_becomeBatch 2 none rmX1_becomeBatch [xA b, xI t] u (RV (sI (sI (sI (sI u b 1 0) b 2 t) b 4 0) b 5 (-1))) := by
  refine CT.of hfl (by decide) (le_b rfl) ?_
  intro C hC hR hL hDD hN
  have hfC : (cxL C).stackTraces = false := by rw [hL]; exact hfl
  show VW C 0 [some (xA b), some (xI t)] [] u 0 0
  refine r_aload_n hC dX1_becomeBatch_0 rfl ?_
  refine r_iconst hC dX1_becomeBatch_1 ?_
  refine r_putI (j := 1) hC dX1_becomeBatch_2 fl_X1_15 rfl hO.o (by rintro _ ⟨⟩; rfl) (Or.inr ⟨rfl, by first | exact Or.inl rfl | exact Or.inr rfl⟩) ?_
  refine r_aload_n hC dX1_becomeBatch_5 rfl ?_
  refine r_iload_n hC dX1_becomeBatch_6 rfl ?_
  refine r_putI (j := 2) hC dX1_becomeBatch_7 fl_X1_19 rfl hO.o (by rintro _ ⟨⟩; rfl) (Or.inl rfl) ?_
  refine r_aload_n hC dX1_becomeBatch_10 rfl ?_
  refine r_iconst hC dX1_becomeBatch_11 ?_
  refine r_putI (j := 4) hC dX1_becomeBatch_12 fl_X1_26 rfl hO.o (by rintro _ ⟨⟩; rfl) (Or.inl rfl) ?_
  refine r_aload_n hC dX1_becomeBatch_15 rfl ?_
  refine r_iconst hC dX1_becomeBatch_16 ?_
  refine r_putI (j := 5) hC dX1_becomeBatch_17 fl_X1_29 rfl hO.o (by rintro _ ⟨⟩; rfl) (Or.inl rfl) ?_
  refine r_vret hC hR dX1_becomeBatch_20 (le_b rfl) (le_b rfl) ?_
  exact ⟨rfl, rfl⟩

abbrev rmX1_becomeAnswer : Room := { frames := 0, cells := 0, slots := 0, locals := 0 }
set_option maxRecDepth 100000 in
theorem k_Ms_answer {l : Launch} {D : DD} (hfl : l.stackTraces = false) {u : Mem} {b : Nat} {t g : Int} (hO : MsO u b) : CT l D yX1_becomeAnswer cX1_becomeAnswer 3 none rmX1_becomeAnswer [xA b, xI t, xI g] u (RV (sI (sI (sI (sI u b 1 1) b 2 t) b 4 0) b 5 g)) := by
  refine CT.of hfl (by decide) (le_b rfl) ?_
  intro C hC hR hL hDD hN
  have hfC : (cxL C).stackTraces = false := by rw [hL]; exact hfl
  show VW C 0 [some (xA b), some (xI t), some (xI g)] [] u 0 0
  refine r_aload_n hC dX1_becomeAnswer_0 rfl ?_
  refine r_iconst hC dX1_becomeAnswer_1 ?_
  refine r_putI (j := 1) hC dX1_becomeAnswer_2 fl_X1_15 rfl hO.o (by rintro _ ⟨⟩; rfl) (Or.inr ⟨rfl, by first | exact Or.inl rfl | exact Or.inr rfl⟩) ?_
  refine r_aload_n hC dX1_becomeAnswer_5 rfl ?_
  refine r_iload_n hC dX1_becomeAnswer_6 rfl ?_
  refine r_putI (j := 2) hC dX1_becomeAnswer_7 fl_X1_19 rfl hO.o (by rintro _ ⟨⟩; rfl) (Or.inl rfl) ?_
  refine r_aload_n hC dX1_becomeAnswer_10 rfl ?_
  refine r_iconst hC dX1_becomeAnswer_11 ?_
  refine r_putI (j := 4) hC dX1_becomeAnswer_12 fl_X1_26 rfl hO.o (by rintro _ ⟨⟩; rfl) (Or.inl rfl) ?_
  refine r_aload_n hC dX1_becomeAnswer_15 rfl ?_
  refine r_iload_n hC dX1_becomeAnswer_16 rfl ?_
  refine r_putI (j := 5) hC dX1_becomeAnswer_17 fl_X1_29 rfl hO.o (by rintro _ ⟨⟩; rfl) (Or.inl rfl) ?_
  refine r_vret hC hR dX1_becomeAnswer_20 (le_b rfl) (le_b rfl) ?_
  exact ⟨rfl, rfl⟩

abbrev rmX1_addRow : Room := { frames := 0, cells := 0, slots := 0, locals := 0 }
set_option maxRecDepth 100000 in
theorem k_Ms_addRow {l : Launch} {D : DD} (hfl : l.stackTraces = false) {u : Mem} {b : Nat} {x n : Int} (hO : MsO u b) (hz : 0 ≤ mI u b 4 ∧ mI u b 4 < 8) : CT l D yX1_addRow cX1_addRow 3 none rmX1_addRow [xA b, xI x, xI n] u (RV (sI (sI (sI u (b + 1) (mI u b 4) x) b 4 (mI u b 4 + 1)) b 5 n)) := by
  refine CT.of hfl (by decide) (le_b rfl) ?_
  intro C hC hR hL hDD hN
  have hfC : (cxL C).stackTraces = false := by rw [hL]; exact hfl
  show VW C 0 [some (xA b), some (xI x), some (xI n)] [] u 0 0
  refine r_aload_n hC dX1_addRow_0 rfl ?_
  refine r_getI (j := 4) hC dX1_addRow_1 fl_X1_26 rfl rfl hO.o ?_
  refine r_bipush hC dX1_addRow_4 (by rfl) ?_
  refine r_icmp_lt (t := 10) hC dX1_addRow_6 (by rfl) (by first | with_reducible exact rg_mI _ _ _ | assumption | with_reducible exact rf_at rf _ | with_reducible exact rg_and _ _ | exact ⟨by omega, by omega⟩) (by first | with_reducible exact rg_mI _ _ _ | assumption | with_reducible exact rf_at rf _ | with_reducible exact rg_and _ _ | exact ⟨by omega, by omega⟩) (fun h_6 => ?_) (fun h_6 => ?_)
  · skip
    refine r_aload_n hC dX1_addRow_10 rfl ?_
    refine r_getR (j := 0) hC dX1_addRow_11 fl_X1_9 rfl rfl hO.o hO.p ?_
    refine r_aload_n hC dX1_addRow_14 rfl ?_
    refine r_getI (j := 4) hC dX1_addRow_15 fl_X1_26 rfl rfl hO.o ?_
    refine r_iload_n hC dX1_addRow_18 rfl ?_
    refine r_iast hC dX1_addRow_19 hO.a ⟨by omega, by omega⟩ ?_
    refine r_aload_n hC dX1_addRow_20 rfl ?_
    refine r_dup hC dX1_addRow_21 rfl ?_
    refine r_getIv (j := 4) (v := mI u b 4) hC dX1_addRow_22 fl_X1_26 rfl rfl hO.o (mI_sI_a _ _ _ _ (by omega)) ?_
    refine r_iconst hC dX1_addRow_25 ?_
    refine r_iadd hC dX1_addRow_26 ?_
    refine r_putI (j := 4) hC dX1_addRow_27 fl_X1_26 rfl hO.o (by rintro _ ⟨⟩; rfl) (Or.inl rfl) ?_
    refine r_aload_n hC dX1_addRow_30 rfl ?_
    refine r_iload_n hC dX1_addRow_31 rfl ?_
    refine r_putI (j := 5) hC dX1_addRow_32 fl_X1_29 rfl hO.o (by rintro _ ⟨⟩; rfl) (Or.inl rfl) ?_
    refine r_vret hC hR dX1_addRow_35 (le_b rfl) (le_b rfl) ?_
    exact ⟨rfl, rfl⟩
  · skip
    refine r_vret hC hR dX1_addRow_9 (le_b rfl) (le_b rfl) ?_
    exact absurd hz.2 (by omega)

abbrev rmX1_tell : Room := { frames := 0, cells := 0, slots := 0, locals := 0 }
set_option maxRecDepth 100000 in
theorem k_Ms_tell {l : Launch} {D : DD} (hfl : l.stackTraces = false) {u : Mem} {b : Nat} {w t : Int} (hO : MsO u b) (hw : rg w) (hz : mI u b 1 = 0 ∨ mI u b 1 = 1) : CT l D yX1_tell cX1_tell 3 (some .int) rmX1_tell [xA b, xI w, xI t] u (RT (xI (if w = 0 then mI u b 1 else if w = 1 then mI u b 2 else if w = 2 then mI u b 3 - t else if w = 3 then mI u b 4 else mI u b 5)) u) := by
  refine CT.of hfl (by decide) (le_b rfl) ?_
  intro C hC hR hL hDD hN
  have hfC : (cxL C).stackTraces = false := by rw [hL]; exact hfl
  show VW C 0 [some (xA b), some (xI w), some (xI t)] [] u 0 0
  refine r_iload_n hC dX1_tell_0 rfl ?_
  refine r_tb4 (td := 62) (t0 := 32) (t1 := 45) (t2 := 50) (t3 := 57) hC dX1_tell_1 (by rfl) (by first | with_reducible exact rg_mI _ _ _ | assumption | with_reducible exact rf_at rf _ | with_reducible exact rg_and _ _ | exact ⟨by omega, by omega⟩) (by rfl) (by rfl) (by rfl) (by rfl) (by rfl) ?_ ?_ ?_ ?_ ?_
  · intro s_1
    refine r_aload_n hC dX1_tell_32 rfl ?_
    refine r_getI (j := 1) hC dX1_tell_33 fl_X1_15 rfl rfl hO.o ?_
    refine r_if_eq (t := 43) hC dX1_tell_36 (by rfl) (by first | with_reducible exact rg_mI _ _ _ | assumption | with_reducible exact rf_at rf _ | with_reducible exact rg_and _ _ | exact ⟨by omega, by omega⟩) (fun h_36 => ?_) (fun h_36 => ?_)
    · skip
      refine r_iconst hC dX1_tell_43 ?_
      refine r_iret hC hR dX1_tell_44 (le_b rfl) (le_b rfl) ?_
      refine ⟨congrArg (fun i => some (xI i)) ?_, rfl⟩
      first | (subst s_1; first | rfl | (show _ = mI u b 1; omega)) | (rw [if_neg (by omega), if_neg (by omega), if_neg (by omega), if_neg (by omega)])
    · skip
      refine r_iconst hC dX1_tell_39 ?_
      refine r_goto (t := 44) hC dX1_tell_40 (by rfl) ?_
      refine r_iret hC hR dX1_tell_44 (le_b rfl) (le_b rfl) ?_
      refine ⟨congrArg (fun i => some (xI i)) ?_, rfl⟩
      first | (subst s_1; first | rfl | (show _ = mI u b 1; omega)) | (rw [if_neg (by omega), if_neg (by omega), if_neg (by omega), if_neg (by omega)])
  · intro s_1
    refine r_aload_n hC dX1_tell_45 rfl ?_
    refine r_getI (j := 2) hC dX1_tell_46 fl_X1_19 rfl rfl hO.o ?_
    refine r_iret hC hR dX1_tell_49 (le_b rfl) (le_b rfl) ?_
    refine ⟨congrArg (fun i => some (xI i)) ?_, rfl⟩
    first | (subst s_1; first | rfl | (show _ = mI u b 1; omega)) | (rw [if_neg (by omega), if_neg (by omega), if_neg (by omega), if_neg (by omega)])
  · intro s_1
    refine r_aload_n hC dX1_tell_50 rfl ?_
    refine r_getI (j := 3) hC dX1_tell_51 fl_X1_23 rfl rfl hO.o ?_
    refine r_iload_n hC dX1_tell_54 rfl ?_
    refine r_isub hC dX1_tell_55 ?_
    refine r_iret hC hR dX1_tell_56 (le_b rfl) (le_b rfl) ?_
    refine ⟨congrArg (fun i => some (xI i)) ?_, rfl⟩
    first | (subst s_1; first | rfl | (show _ = mI u b 1; omega)) | (rw [if_neg (by omega), if_neg (by omega), if_neg (by omega), if_neg (by omega)])
  · intro s_1
    refine r_aload_n hC dX1_tell_57 rfl ?_
    refine r_getI (j := 4) hC dX1_tell_58 fl_X1_26 rfl rfl hO.o ?_
    refine r_iret hC hR dX1_tell_61 (le_b rfl) (le_b rfl) ?_
    refine ⟨congrArg (fun i => some (xI i)) ?_, rfl⟩
    first | (subst s_1; first | rfl | (show _ = mI u b 1; omega)) | (rw [if_neg (by omega), if_neg (by omega), if_neg (by omega), if_neg (by omega)])
  · intro n_1
    refine r_aload_n hC dX1_tell_62 rfl ?_
    refine r_getI (j := 5) hC dX1_tell_63 fl_X1_29 rfl rfl hO.o ?_
    refine r_iret hC hR dX1_tell_66 (le_b rfl) (le_b rfl) ?_
    refine ⟨congrArg (fun i => some (xI i)) ?_, rfl⟩
    first | (subst s_1; first | rfl | (show _ = mI u b 1; omega)) | (rw [if_neg (by omega), if_neg (by omega), if_neg (by omega), if_neg (by omega)])

/-! receivers -/
abbrev rmX3_wants : Room := { frames := 0, cells := 0, slots := 0, locals := 0 }
set_option maxRecDepth 100000 in
theorem k_Re_wants {l : Launch} {D : DD} (hfl : l.stackTraces = false) {u : Mem} {b : Nat} {t : Int} (hO : ReO u b) : CT l D yX3_wants cX3_wants 2 (some .boolean) rmX3_wants [xA b, xI t] u (RT (xI (bI (b_and (b_shr (mI u b 2) t) 1 = 1))) u) := by
  refine CT.of hfl (by decide) (le_b rfl) ?_
  intro C hC hR hL hDD hN
  have hfC : (cxL C).stackTraces = false := by rw [hL]; exact hfl
  show VW C 0 [some (xA b), some (xI t)] [] u 0 0
  refine r_aload_n hC dX3_wants_0 rfl ?_
  refine r_getI (j := 2) hC dX3_wants_1 fl_X3_19 rfl rfl hO.o ?_
  refine r_iload_n hC dX3_wants_4 rfl ?_
  refine r_ishr hC dX3_wants_5 ?_
  refine r_iconst hC dX3_wants_6 ?_
  refine r_iand hC dX3_wants_7 ?_
  refine r_iconst hC dX3_wants_8 ?_
  refine r_icmp_ne (t := 16) hC dX3_wants_9 (by rfl) (by first | with_reducible exact rg_mI _ _ _ | assumption | with_reducible exact rf_at rf _ | with_reducible exact rg_and _ _ | exact ⟨by omega, by omega⟩) (by first | with_reducible exact rg_mI _ _ _ | assumption | with_reducible exact rf_at rf _ | with_reducible exact rg_and _ _ | exact ⟨by omega, by omega⟩) (fun h_9 => ?_) (fun h_9 => ?_)
  · skip
    refine r_iconst hC dX3_wants_16 ?_
    refine r_zret hC hR dX3_wants_17 (by first | exact Or.inl rfl | exact Or.inr rfl) (le_b rfl) (le_b rfl) ?_
    refine ⟨congrArg (fun i => some (xI i)) ?_, rfl⟩
    unfold bI; split <;> first | rfl | (exfalso; simp_all; done)
  · skip
    refine r_iconst hC dX3_wants_12 ?_
    refine r_goto (t := 17) hC dX3_wants_13 (by rfl) ?_
    refine r_zret hC hR dX3_wants_17 (by first | exact Or.inl rfl | exact Or.inr rfl) (le_b rfl) (le_b rfl) ?_
    refine ⟨congrArg (fun i => some (xI i)) ?_, rfl⟩
    unfold bI; split <;> first | rfl | (exfalso; simp_all; done)

def c_memL (u : Mem) (b : Nat) (n : Int) : Nat → Bool
  | 0 => false
  | k + 1 => c_memL u b n k || decide (mI u (b + 1) k = n)
def c_rep (u : Mem) (b : Nat) (n m : Int) : Bool := if m = 1 then decide (n ≤ mI u b 3) else c_memL u b n (mI u b 1).toNat
theorem c_memL_le {u : Mem} {b : Nat} {n : Int} {k N : Nat} (h : c_memL u b n k = true) (hk : k ≤ N) : c_memL u b n N = true := by
  induction N with
  | zero => rw [show k = 0 by omega] at h; exact h
  | succ N ih =>
    by_cases e : k = N + 1
    · subst e; exact h
    · simp only [c_memL, ih (by omega), Bool.true_or]
abbrev rmX3_isRepeat : Room := { frames := 0, cells := 0, slots := 0, locals := 0 }
set_option maxRecDepth 100000 in
theorem k_Re_isRepeat {l : Launch} {D : DD} (hfl : l.stackTraces = false) {u : Mem} {b : Nat} {v m : Int} (hO : ReO u b) (hn : rg v) (hm : m = 0 ∨ m = 1) (h1 : 0 ≤ mI u b 1 ∧ mI u b 1 ≤ 20) : CT l D yX3_isRepeat cX3_isRepeat 4 (some .boolean) rmX3_isRepeat [xA b, xI v, xI m] u (RT (xI (bI (c_rep u b v m = true))) u) := by
  refine CT.of hfl (by decide) (le_b rfl) ?_
  intro C hC hR hL hDD hN
  have hfC : (cxL C).stackTraces = false := by rw [hL]; exact hfl
  show VW C 0 [some (xA b), some (xI v), some (xI m), none] [] u 0 0
  refine r_iload_n hC dX3_isRepeat_0 rfl ?_
  refine r_if_eq (t := 18) hC dX3_isRepeat_1 (by rfl) (by first | with_reducible exact rg_mI _ _ _ | assumption | with_reducible exact rf_at rf _ | with_reducible exact rg_and _ _ | exact ⟨by omega, by omega⟩) (fun h_1 => ?_) (fun h_1 => ?_)
  · skip
    have hm0 : ¬ m = 1 := by omega
    have lp : ∀ (n : Nat) (i : Nat), ((mI u b 1 - i).toNat = n) → ((i : Int) ≤ mI u b 1) → (c_memL u b v i = false) → VW C 20 [some (xA b), some (xI v), some (xI m), some (xI i)] [] u 0 0 := by
      intro n
      induction n using Nat.strongRecOn with
      | _ n ih =>
        intro i hn2 hi hs
        refine r_iload_n hC dX3_isRepeat_20 rfl ?_
        refine r_aload_n hC dX3_isRepeat_21 rfl ?_
        refine r_getI (j := 1) hC dX3_isRepeat_22 fl_X3_15 rfl rfl hO.o ?_
        refine r_icmp_ge (t := 46) hC dX3_isRepeat_25 (by rfl) (by first | with_reducible exact rg_mI _ _ _ | assumption | with_reducible exact rf_at rf _ | with_reducible exact rg_and _ _ | exact ⟨by omega, by omega⟩) (by first | with_reducible exact rg_mI _ _ _ | assumption | with_reducible exact rf_at rf _ | with_reducible exact rg_and _ _ | exact ⟨by omega, by omega⟩) (fun h_25 => ?_) (fun h_25 => ?_)
        · skip
          refine r_iconst hC dX3_isRepeat_46 ?_
          refine r_zret hC hR dX3_isRepeat_47 (by first | exact Or.inl rfl | exact Or.inr rfl) (le_b rfl) (le_b rfl) ?_
          refine ⟨congrArg (fun i => some (xI i)) ?_, rfl⟩
          have e : (mI u b 1).toNat = i := by omega
          unfold c_rep; rw [if_neg (by omega), e, hs]; rfl
        · skip
          refine r_aload_n hC dX3_isRepeat_28 rfl ?_
          refine r_getR (j := 0) hC dX3_isRepeat_29 fl_X3_9 rfl rfl hO.o hO.p ?_
          refine r_iload_n hC dX3_isRepeat_32 rfl ?_
          refine r_iald hC dX3_isRepeat_33 hO.a ⟨by omega, by omega⟩ ?_
          refine r_iload_n hC dX3_isRepeat_34 rfl ?_
          refine r_icmp_ne (t := 40) hC dX3_isRepeat_35 (by rfl) (by first | with_reducible exact rg_mI _ _ _ | assumption | with_reducible exact rf_at rf _ | with_reducible exact rg_and _ _ | exact ⟨by omega, by omega⟩) (by first | with_reducible exact rg_mI _ _ _ | assumption | with_reducible exact rf_at rf _ | with_reducible exact rg_and _ _ | exact ⟨by omega, by omega⟩) (fun h_35 => ?_) (fun h_35 => ?_)
          · skip
            refine r_iinc (lv' := [_, _, _, _]) hC dX3_isRepeat_40 rfl (lt_b rfl) rfl (lt_b rfl) rfl ?_
            refine r_goto (t := 20) hC dX3_isRepeat_43 (by rfl) ?_
            exact ih _ (by omega) (i + 1) rfl (by omega) (by simp only [c_memL, hs, Bool.false_or]; exact decide_eq_false h_35)
          · skip
            refine r_iconst hC dX3_isRepeat_38 ?_
            refine r_zret hC hR dX3_isRepeat_39 (by first | exact Or.inl rfl | exact Or.inr rfl) (le_b rfl) (le_b rfl) ?_
            refine ⟨congrArg (fun i => some (xI i)) ?_, rfl⟩
            have hc : c_memL u b v (mI u b 1).toNat = true := c_memL_le (k := i + 1) (by simp only [c_memL, hs, Bool.false_or]; exact decide_eq_true h_35) (by omega)
            unfold c_rep; rw [if_neg (by omega), hc]; rfl
    refine r_iconst hC dX3_isRepeat_18 ?_
    refine r_istore_n (lv' := [_, _, _, _]) hC dX3_isRepeat_19 (lt_b rfl) rfl (lt_b rfl) rfl ?_
    exact lp _ 0 rfl (by omega) rfl
  · skip
    refine r_iload_n hC dX3_isRepeat_4 rfl ?_
    refine r_aload_n hC dX3_isRepeat_5 rfl ?_
    refine r_getI (j := 3) hC dX3_isRepeat_6 fl_X3_22 rfl rfl hO.o ?_
    refine r_icmp_gt (t := 16) hC dX3_isRepeat_9 (by rfl) (by first | with_reducible exact rg_mI _ _ _ | assumption | with_reducible exact rf_at rf _ | with_reducible exact rg_and _ _ | exact ⟨by omega, by omega⟩) (by first | with_reducible exact rg_mI _ _ _ | assumption | with_reducible exact rf_at rf _ | with_reducible exact rg_and _ _ | exact ⟨by omega, by omega⟩) (fun h_9 => ?_) (fun h_9 => ?_)
    · skip
      refine r_iconst hC dX3_isRepeat_16 ?_
      refine r_zret hC hR dX3_isRepeat_17 (by first | exact Or.inl rfl | exact Or.inr rfl) (le_b rfl) (le_b rfl) ?_
      refine ⟨congrArg (fun i => some (xI i)) ?_, rfl⟩
      unfold c_rep; rw [if_pos (by omega)]; unfold bI; split <;> first | rfl | (exfalso; simp_all; done) | (exfalso; simp at *; omega)
    · skip
      refine r_iconst hC dX3_isRepeat_12 ?_
      refine r_goto (t := 17) hC dX3_isRepeat_13 (by rfl) ?_
      refine r_zret hC hR dX3_isRepeat_17 (by first | exact Or.inl rfl | exact Or.inr rfl) (le_b rfl) (le_b rfl) ?_
      refine ⟨congrArg (fun i => some (xI i)) ?_, rfl⟩
      unfold c_rep; rw [if_pos (by omega)]; unfold bI; split <;> first | rfl | (exfalso; simp_all; done) | (exfalso; simp at *; omega)

def c_teF (f : RW) (n v mo : Int) : RW := fun j => if j = 4 then wr (f 4 + 1) else if j = 5 then wr (f 5 + v) else if j = 8 then (if n < f 3 then wr (f 8 + 1) else f 8) else if j = 3 then (if f 3 < n then n else f 3) else if j = 1 then (if mo < f 1 + 1 then f 1 else f 1 + 1) else f j
def c_teM (f h : RW) (n mo : Int) : RW := if mo < f 1 + 1 then m_shift (up h (f 1) n) 0 (f 1) else up h (f 1) n
theorem sh_step (g : RW) (hg : RF g) (i : Nat) (hi : 1 ≤ i) : up (m_shift g 0 (i - 1)) (i - 1) (m_shift g 0 (i - 1) i) = m_shift g 0 i := by
  funext j
  unfold up m_shift
  by_cases h : j = (i : Int) - 1
  · subst h
    rw [if_pos rfl, if_neg (by omega), if_pos (by omega), wr_id (hg _)]
    congr 1; omega
  · rw [if_neg h]
    by_cases q : 0 ≤ j ∧ j < 0 + ((i : Int) - 1)
    · rw [if_pos q, if_pos (by omega)]
    · rw [if_neg q, if_neg (by omega)]
theorem sA_ext {u : Mem} {d : Nat} {f g : RW} (h : ∀ k, wr (f k) = wr (g k)) : sA u d f = sA u d g := by
  unfold sA up1
  congr 2
  funext b
  by_cases e : b = d
  · simp only [if_pos e]; funext k
    rw [← ofInt_wr, h k, ofInt_wr]
  · simp only [if_neg e]
theorem sI_sA_comm' (u : Mem) (F : RW) (b d : Nat) (k v : Int) (h : b ≠ d) {j x : Int} : sI (sI (sA u b F) d k v) b j x = sA (sA u b (up F j x)) d (up (mI u d) k v) := by
  rw [sI_sA_comm u F k v h]
  rw [show sI (sA (sI u d k v) b F) b j x = sA (sI u d k v) b (up F j x) from sA_up _ _ _ _ _]
  rw [sI_as u d k v, sA_comm u _ _ (Ne.symm h)]
  refine sA_ext fun q => ?_
  unfold up
  by_cases e : q = k
  · simp [e, wr_wr]
  · simp [e, wr_id (rg_mI u d q)]
abbrev rmX3_takeEffect : Room := { frames := 0, cells := 0, slots := 0, locals := 0 }
set_option maxRecDepth 100000 in
theorem k_Re_take {l : Launch} {D : DD} (hfl : l.stackTraces = false) {u : Mem} {b : Nat} {n v mo : Int} (hO : ReO u b) (hn : rg n) (hmo : rg mo) (h1 : 0 ≤ mI u b 1 ∧ mI u b 1 ≤ 20) : CT l D yX3_takeEffect cX3_takeEffect 5 none rmX3_takeEffect [xA b, xI n, xI v, xI mo] u (RV (sA (sA u b (c_teF (mI u b) n v mo)) (b + 1) (c_teM (mI u b) (mI u (b + 1)) n mo))) := by
  refine CT.of hfl (by decide) (le_b rfl) ?_
  intro C hC hR hL hDD hN
  have hfC : (cxL C).stackTraces = false := by rw [hL]; exact hfl
  obtain ⟨f, hf⟩ : ∃ z, z = mI u b := ⟨_, rfl⟩
  obtain ⟨h, hh⟩ : ∃ z, z = mI u (b + 1) := ⟨_, rfl⟩
  have rf : RF f := by rw [hf]; exact rf_mI u b
  have rh : RF h := by rw [hh]; exact rf_mI u (b + 1)
  rw [← hf] at h1 hR; rw [← hh] at hR
  have lp : ∀ (F G : RW) (N : Nat), RF F → RF G → F 1 = N + 1 → N ≤ 20 → (∀ w, VW C 122 [some (xA b), some (xI n), some (xI v), some (xI mo), w] [] (sA (sA u b F) (b + 1) (m_shift G 0 N)) 0 0) → ∀ (k i : Nat), N + 1 - i = k → 1 ≤ i → i ≤ N + 1 → VW C 91 [some (xA b), some (xI n), some (xI v), some (xI mo), some (xI i)] [] (sA (sA u b F) (b + 1) (m_shift G 0 (i - 1))) 0 0 := by
    intro F G N rF rG hF hN kk k
    induction k with
    | zero =>
      intro i hk h1i hiN
      refine r_iload hC dX3_takeEffect_91 rfl ?_
      refine r_aload_n hC dX3_takeEffect_93 rfl ?_
      refine r_getIv (j := 1) (v := F 1) hC dX3_takeEffect_94 fl_X3_15 rfl rfl hO.o (by rw [mI_sA_n _ _ (by omega), mI_sA_f _ _ rF]) ?_
      refine r_icmp_ge (t := 122) hC dX3_takeEffect_97 (by rfl) (by first | with_reducible exact rg_mI _ _ _ | assumption | with_reducible exact rf_at rf _ | with_reducible exact rg_and _ _ | exact ⟨by omega, by omega⟩) (by first | with_reducible exact rg_mI _ _ _ | assumption | with_reducible exact rf_at rf _ | with_reducible exact rg_and _ _ | exact ⟨by omega, by omega⟩) (fun h_97 => ?_) (fun h_97 => ?_)
      · skip
        rw [show ((i : Int) - 1) = (N : Nat) by omega]; exact kk _
      · skip
        omega
    | succ k ih =>
      intro i hk h1i hiN
      refine r_iload hC dX3_takeEffect_91 rfl ?_
      refine r_aload_n hC dX3_takeEffect_93 rfl ?_
      refine r_getIv (j := 1) (v := F 1) hC dX3_takeEffect_94 fl_X3_15 rfl rfl hO.o (by rw [mI_sA_n _ _ (by omega), mI_sA_f _ _ rF]) ?_
      refine r_icmp_ge (t := 122) hC dX3_takeEffect_97 (by rfl) (by first | with_reducible exact rg_mI _ _ _ | assumption | with_reducible exact rf_at rf _ | with_reducible exact rg_and _ _ | exact ⟨by omega, by omega⟩) (by first | with_reducible exact rg_mI _ _ _ | assumption | with_reducible exact rf_at rf _ | with_reducible exact rg_and _ _ | exact ⟨by omega, by omega⟩) (fun h_97 => ?_) (fun h_97 => ?_)
      · skip
        omega
      · skip
        refine r_aload_n hC dX3_takeEffect_100 rfl ?_
        refine r_getR (j := 0) hC dX3_takeEffect_101 fl_X3_9 rfl rfl hO.o hO.p ?_
        refine r_iload hC dX3_takeEffect_104 rfl ?_
        refine r_iconst hC dX3_takeEffect_106 ?_
        refine r_isub hC dX3_takeEffect_107 ?_
        refine r_aload_n hC dX3_takeEffect_108 rfl ?_
        refine r_getR (j := 0) hC dX3_takeEffect_109 fl_X3_9 rfl rfl hO.o hO.p ?_
        refine r_iload hC dX3_takeEffect_112 rfl ?_
        refine r_ialdv (v := m_shift G 0 (i - 1) i) hC dX3_takeEffect_114 hO.a ⟨by omega, by omega⟩ (by rw [mI_sA_f _ _ (rf_shift rG _ _)]) ?_
        refine r_iast hC dX3_takeEffect_115 hO.a ⟨by omega, by omega⟩ ?_
        rw [show sI (sA (sA u b F) (b + 1) (m_shift G 0 (i - 1))) (b + 1) (i - 1) (m_shift G 0 (i - 1) i) = (sA (sA u b F) (b + 1) (m_shift G 0 ((i + 1 : Nat) - 1))) from by rw [sA_up, sh_step G rG i h1i]; congr 1; congr 1; omega]
        refine r_iinc (lv' := [_, _, _, _, _]) hC dX3_takeEffect_116 rfl (lt_b rfl) rfl (lt_b rfl) rfl ?_
        refine r_goto (t := 91) hC dX3_takeEffect_119 (by rfl) ?_
        exact ih (i + 1) (by omega) (by omega) (by omega)
  have k51 : ∀ F : RW, RF F → F 1 = f 1 → (∀ X : RW, X = up F 1 (f 1 + 1) → VW C 80 [some (xA b), some (xI n), some (xI v), some (xI mo), none] [] (sA (sA u b X) (b + 1) (up h (f 1) n)) 0 0) → VW C 51 [some (xA b), some (xI n), some (xI v), some (xI mo), none] [] (sA u b F) 0 0 := by
    intro F rF hF kk
    refine r_aload_n hC dX3_takeEffect_51 rfl ?_
    refine r_getIv (j := 1) (v := f 1) hC dX3_takeEffect_52 fl_X3_15 rfl rfl hO.o (by rw [mI_sA_f _ _ rF, hF]) ?_
    refine r_bipush hC dX3_takeEffect_55 (by rfl) ?_
    refine r_icmp_gt (t := 80) hC dX3_takeEffect_57 (by rfl) (by first | with_reducible exact rg_mI _ _ _ | assumption | with_reducible exact rf_at rf _ | with_reducible exact rg_and _ _ | exact ⟨by omega, by omega⟩) (by first | with_reducible exact rg_mI _ _ _ | assumption | with_reducible exact rf_at rf _ | with_reducible exact rg_and _ _ | exact ⟨by omega, by omega⟩) (fun h_57 => ?_) (fun h_57 => ?_)
    · skip
      first | (exfalso; omega) | (refine vw_mem ?_ (kk _ rfl); rw [sI_sA_comm' u F b (b + 1) (f 1) n (by omega), ← hh])
    · skip
      refine r_aload_n hC dX3_takeEffect_60 rfl ?_
      refine r_getR (j := 0) hC dX3_takeEffect_61 fl_X3_9 rfl rfl hO.o hO.p ?_
      refine r_aload_n hC dX3_takeEffect_64 rfl ?_
      refine r_getIv (j := 1) (v := f 1) hC dX3_takeEffect_65 fl_X3_15 rfl rfl hO.o (by rw [mI_sA_f _ _ rF, hF]) ?_
      refine r_iload_n hC dX3_takeEffect_68 rfl ?_
      refine r_iast hC dX3_takeEffect_69 hO.a ⟨by omega, by omega⟩ ?_
      refine r_aload_n hC dX3_takeEffect_70 rfl ?_
      refine r_dup hC dX3_takeEffect_71 rfl ?_
      refine r_getIv (j := 1) (v := f 1) hC dX3_takeEffect_72 fl_X3_15 rfl rfl hO.o (by rw [mI_sI_a _ _ _ _ (by omega), mI_sA_f _ _ rF, hF]) ?_
      refine r_iconst hC dX3_takeEffect_75 ?_
      refine r_iadd hC dX3_takeEffect_76 ?_
      refine r_putI (j := 1) hC dX3_takeEffect_77 fl_X3_15 rfl hO.o (by rintro _ ⟨⟩; rfl) (Or.inl rfl) ?_
      first | (exfalso; omega) | (refine vw_mem ?_ (kk _ rfl); rw [sI_sA_comm' u F b (b + 1) (f 1) n (by omega), ← hh])
  have k80 : ∀ X : RW, RF X → X 1 = f 1 + 1 → (∀ j, X j = (if j = 1 then f 1 + 1 else c_teF f n v mo j)) → VW C 80 [some (xA b), some (xI n), some (xI v), some (xI mo), none] [] (sA (sA u b X) (b + 1) (up h (f 1) n)) 0 0 := by
    intro X rX hX hXj
    have rG : RF (up h (f 1) n) := rf_up rh _ _
    refine r_aload_n hC dX3_takeEffect_80 rfl ?_
    refine r_getIv (j := 1) (v := f 1 + 1) hC dX3_takeEffect_81 fl_X3_15 rfl rfl hO.o (by rw [mI_sA_n _ _ (by omega), mI_sA_f _ _ rX, hX]) ?_
    refine r_iload_n hC dX3_takeEffect_84 rfl ?_
    refine r_icmp_le (t := 132) hC dX3_takeEffect_85 (by rfl) (by first | with_reducible exact rg_mI _ _ _ | assumption | with_reducible exact rf_at rf _ | with_reducible exact rg_and _ _ | exact ⟨by omega, by omega⟩) (by first | with_reducible exact rg_mI _ _ _ | assumption | with_reducible exact rf_at rf _ | with_reducible exact rg_and _ _ | exact ⟨by omega, by omega⟩) (fun h_85 => ?_) (fun h_85 => ?_)
    · skip
      refine r_vret hC hR dX3_takeEffect_132 (le_b rfl) (le_b rfl) ?_
      refine ⟨rfl, ?_⟩
      unfold c_teM
      rw [if_neg (by omega)]
      congr 1
      refine sA_ext fun j => ?_
      rw [hXj]
      unfold c_teF
      by_cases e1 : j = 1
      · subst e1; simp only [if_true]; rw [if_neg (by omega), if_neg (by omega), if_neg (by omega), if_neg (by omega), if_neg (by omega)]
      · simp only [if_neg e1]
    · skip
      obtain ⟨N, hN⟩ : ∃ N : Nat, f 1 = N := ⟨(f 1).toNat, by omega⟩
      refine r_iconst hC dX3_takeEffect_88 ?_
      refine r_istore (lv' := [_, _, _, _, _]) hC dX3_takeEffect_89 (lt_b rfl) rfl (lt_b rfl) rfl ?_
      refine vw_mem ?_ (lp X (up h (f 1) n) N rX rG (by omega) (by omega) (fun w => ?_) _ 1 rfl (by omega) (by omega))
      · congr 1; funext j; unfold m_shift; rw [if_neg (by omega)]
      refine r_aload_n hC dX3_takeEffect_122 rfl ?_
      refine r_dup hC dX3_takeEffect_123 rfl ?_
      refine r_getIv (j := 1) (v := f 1 + 1) hC dX3_takeEffect_124 fl_X3_15 rfl rfl hO.o (by rw [mI_sA_n _ _ (by omega), mI_sA_f _ _ rX, hX]) ?_
      refine r_iconst hC dX3_takeEffect_127 ?_
      refine r_isub hC dX3_takeEffect_128 ?_
      refine r_putI (j := 1) hC dX3_takeEffect_129 fl_X3_15 rfl hO.o (by rintro _ ⟨⟩; rfl) (Or.inl rfl) ?_
      refine r_vret hC hR dX3_takeEffect_132 (le_b rfl) (le_b rfl) ?_
      refine ⟨rfl, ?_⟩
      rw [sI_sA_comm _ _ _ _ (show b + 1 ≠ b by omega), sA_up, ← hN]
      unfold c_teM
      rw [if_pos (by omega)]
      congr 1
      refine sA_ext fun j => ?_
      unfold up
      rw [hXj]
      unfold c_teF
      by_cases e1 : j = 1
      · subst e1; simp only [if_true, wr_wr]; rw [if_neg (by omega), if_neg (by omega), if_neg (by omega), if_neg (by omega), if_pos (by omega)]; congr 1; omega
      · simp only [if_neg e1]
  have kE : ∀ F : RW, RF F → (∀ j, F j = (if j = 1 then f 1 else c_teF f n v mo j)) → VW C 51 [some (xA b), some (xI n), some (xI v), some (xI mo), none] [] (sA u b F) 0 0 := by
    intro F rF hF
    refine k51 F rF (by rw [hF]; rfl) (fun X hX => k80 X (by rw [hX]; exact rf_up rF _ _) (by rw [hX, up_s, wr_id ⟨by omega, by omega⟩]) (fun j => ?_))
    rw [hX]; unfold up
    by_cases e1 : j = 1
    · rw [if_pos e1, if_pos e1, wr_id ⟨by omega, by omega⟩]
    · rw [if_neg e1, if_neg e1, hF, if_neg e1]
  refine vw_mem (u' := sA u b f) (by rw [hf, sA_mI]) ?_
  show VW C 0 [some (xA b), some (xI n), some (xI v), some (xI mo), none] [] (sA u b f) 0 0
  refine r_aload_n hC dX3_takeEffect_0 rfl ?_
  refine r_dup hC dX3_takeEffect_1 rfl ?_
  refine r_getIv (j := 4) (v := f 4) hC dX3_takeEffect_2 fl_X3_25 rfl rfl hO.o (by first | (rw [mI_sA_f _ _ (by repeat (first | assumption | apply rf_up))]; done) | (rw [mI_sA_f _ _ (by repeat (first | assumption | apply rf_up))]; simp [up]; done)) ?_
  refine r_iconst hC dX3_takeEffect_5 ?_
  refine r_iadd hC dX3_takeEffect_6 ?_
  refine r_putI (j := 4) hC dX3_takeEffect_7 fl_X3_25 rfl hO.o (by rintro _ ⟨⟩; rfl) (Or.inl rfl) ?_
  simp only [sA_up]
  refine r_aload_n hC dX3_takeEffect_10 rfl ?_
  refine r_dup hC dX3_takeEffect_11 rfl ?_
  refine r_getIv (j := 5) (v := f 5) hC dX3_takeEffect_12 fl_X3_28 rfl rfl hO.o (by first | (rw [mI_sA_f _ _ (by repeat (first | assumption | apply rf_up))]; done) | (rw [mI_sA_f _ _ (by repeat (first | assumption | apply rf_up))]; simp [up]; done)) ?_
  refine r_iload_n hC dX3_takeEffect_15 rfl ?_
  refine r_iadd hC dX3_takeEffect_16 ?_
  refine r_putI (j := 5) hC dX3_takeEffect_17 fl_X3_28 rfl hO.o (by rintro _ ⟨⟩; rfl) (Or.inl rfl) ?_
  simp only [sA_up]
  refine r_iload_n hC dX3_takeEffect_20 rfl ?_
  refine r_aload_n hC dX3_takeEffect_21 rfl ?_
  refine r_getIv (j := 3) (v := f 3) hC dX3_takeEffect_22 fl_X3_22 rfl rfl hO.o (by first | (rw [mI_sA_f _ _ (by repeat (first | assumption | apply rf_up))]; done) | (rw [mI_sA_f _ _ (by repeat (first | assumption | apply rf_up))]; simp [up]; done)) ?_
  refine r_icmp_ge (t := 38) hC dX3_takeEffect_25 (by rfl) (by first | with_reducible exact rg_mI _ _ _ | assumption | with_reducible exact rf_at rf _ | with_reducible exact rg_and _ _ | exact ⟨by omega, by omega⟩) (by first | with_reducible exact rg_mI _ _ _ | assumption | with_reducible exact rf_at rf _ | with_reducible exact rg_and _ _ | exact ⟨by omega, by omega⟩) (fun h_25 => ?_) (fun h_25 => ?_)
  · skip
    refine r_iload_n hC dX3_takeEffect_38 rfl ?_
    refine r_aload_n hC dX3_takeEffect_39 rfl ?_
    refine r_getIv (j := 3) (v := f 3) hC dX3_takeEffect_40 fl_X3_22 rfl rfl hO.o (by first | (rw [mI_sA_f _ _ (by repeat (first | assumption | apply rf_up))]; done) | (rw [mI_sA_f _ _ (by repeat (first | assumption | apply rf_up))]; simp [up]; done)) ?_
    refine r_icmp_le (t := 51) hC dX3_takeEffect_43 (by rfl) (by first | with_reducible exact rg_mI _ _ _ | assumption | with_reducible exact rf_at rf _ | with_reducible exact rg_and _ _ | exact ⟨by omega, by omega⟩) (by first | with_reducible exact rg_mI _ _ _ | assumption | with_reducible exact rf_at rf _ | with_reducible exact rg_and _ _ | exact ⟨by omega, by omega⟩) (fun h_43 => ?_) (fun h_43 => ?_)
    · skip
      refine kE _ (by repeat (first | assumption | apply rf_up)) (fun j => ?_)
      unfold c_teF up
      (repeat' split) <;> first | rfl | omega | (subst_vars; first | rfl | omega | (rw [wr_id hn]) | (exfalso; omega)) | (exfalso; simp_all; done)
    · skip
      refine r_aload_n hC dX3_takeEffect_46 rfl ?_
      refine r_iload_n hC dX3_takeEffect_47 rfl ?_
      refine r_putI (j := 3) hC dX3_takeEffect_48 fl_X3_22 rfl hO.o (by rintro _ ⟨⟩; rfl) (Or.inl rfl) ?_
      simp only [sA_up]
      refine kE _ (by repeat (first | assumption | apply rf_up)) (fun j => ?_)
      unfold c_teF up
      (repeat' split) <;> first | rfl | omega | (subst_vars; first | rfl | omega | (rw [wr_id hn]) | (exfalso; omega)) | (exfalso; simp_all; done)
  · skip
    refine r_aload_n hC dX3_takeEffect_28 rfl ?_
    refine r_dup hC dX3_takeEffect_29 rfl ?_
    refine r_getIv (j := 8) (v := f 8) hC dX3_takeEffect_30 fl_X3_37 rfl rfl hO.o (by first | (rw [mI_sA_f _ _ (by repeat (first | assumption | apply rf_up))]; done) | (rw [mI_sA_f _ _ (by repeat (first | assumption | apply rf_up))]; simp [up]; done)) ?_
    refine r_iconst hC dX3_takeEffect_33 ?_
    refine r_iadd hC dX3_takeEffect_34 ?_
    refine r_putI (j := 8) hC dX3_takeEffect_35 fl_X3_37 rfl hO.o (by rintro _ ⟨⟩; rfl) (Or.inl rfl) ?_
    simp only [sA_up]
    refine r_iload_n hC dX3_takeEffect_38 rfl ?_
    refine r_aload_n hC dX3_takeEffect_39 rfl ?_
    refine r_getIv (j := 3) (v := f 3) hC dX3_takeEffect_40 fl_X3_22 rfl rfl hO.o (by first | (rw [mI_sA_f _ _ (by repeat (first | assumption | apply rf_up))]; done) | (rw [mI_sA_f _ _ (by repeat (first | assumption | apply rf_up))]; simp [up]; done)) ?_
    refine r_icmp_le (t := 51) hC dX3_takeEffect_43 (by rfl) (by first | with_reducible exact rg_mI _ _ _ | assumption | with_reducible exact rf_at rf _ | with_reducible exact rg_and _ _ | exact ⟨by omega, by omega⟩) (by first | with_reducible exact rg_mI _ _ _ | assumption | with_reducible exact rf_at rf _ | with_reducible exact rg_and _ _ | exact ⟨by omega, by omega⟩) (fun h_43 => ?_) (fun h_43 => ?_)
    · skip
      refine kE _ (by repeat (first | assumption | apply rf_up)) (fun j => ?_)
      unfold c_teF up
      (repeat' split) <;> first | rfl | omega | (subst_vars; first | rfl | omega | (rw [wr_id hn]) | (exfalso; omega)) | (exfalso; simp_all; done)
    · skip
      refine r_aload_n hC dX3_takeEffect_46 rfl ?_
      refine r_iload_n hC dX3_takeEffect_47 rfl ?_
      refine r_putI (j := 3) hC dX3_takeEffect_48 fl_X3_22 rfl hO.o (by rintro _ ⟨⟩; rfl) (Or.inl rfl) ?_
      simp only [sA_up]
      refine kE _ (by repeat (first | assumption | apply rf_up)) (fun j => ?_)
      unfold c_teF up
      (repeat' split) <;> first | rfl | omega | (subst_vars; first | rfl | omega | (rw [wr_id hn]) | (exfalso; omega)) | (exfalso; simp_all; done)

def c_acF (f : RW) (n : Int) : RW := fun j => if j = 10 then (if f 10 < n then n else f 10) else if j = 11 then (if f 13 ≤ n then 0 else f 11) else f j
abbrev rmX3_answerComes : Room := { frames := 0, cells := 0, slots := 0, locals := 0 }
set_option maxRecDepth 100000 in
theorem k_Re_answer {l : Launch} {D : DD} (hfl : l.stackTraces = false) {u : Mem} {b : Nat} {n : Int} (hO : ReO u b) (hn : rg n) : CT l D yX3_answerComes cX3_answerComes 2 none rmX3_answerComes [xA b, xI n] u (RV (sA u b (c_acF (mI u b) n))) := by
  refine CT.of hfl (by decide) (le_b rfl) ?_
  intro C hC hR hL hDD hN
  have hfC : (cxL C).stackTraces = false := by rw [hL]; exact hfl
  show VW C 0 [some (xA b), some (xI n)] [] u 0 0
  refine r_iload_n hC dX3_answerComes_0 rfl ?_
  refine r_aload_n hC dX3_answerComes_1 rfl ?_
  refine r_getI (j := 10) hC dX3_answerComes_2 fl_X3_43 rfl rfl hO.o ?_
  refine r_icmp_le (t := 13) hC dX3_answerComes_5 (by rfl) (by first | with_reducible exact rg_mI _ _ _ | assumption | with_reducible exact rf_at rf _ | with_reducible exact rg_and _ _ | exact ⟨by omega, by omega⟩) (by first | with_reducible exact rg_mI _ _ _ | assumption | with_reducible exact rf_at rf _ | with_reducible exact rg_and _ _ | exact ⟨by omega, by omega⟩) (fun h_5 => ?_) (fun h_5 => ?_)
  · skip
    refine r_iload_n hC dX3_answerComes_13 rfl ?_
    refine r_aload_n hC dX3_answerComes_14 rfl ?_
    refine r_getIv (j := 13) (v := mI u b 13) hC dX3_answerComes_15 fl_X3_53 rfl rfl hO.o (by first | rfl | exact mI_sI_k _ _ _ _ (by decide)) ?_
    refine r_icmp_lt (t := 26) hC dX3_answerComes_18 (by rfl) (by first | with_reducible exact rg_mI _ _ _ | assumption | with_reducible exact rf_at rf _ | with_reducible exact rg_and _ _ | exact ⟨by omega, by omega⟩) (by first | with_reducible exact rg_mI _ _ _ | assumption | with_reducible exact rf_at rf _ | with_reducible exact rg_and _ _ | exact ⟨by omega, by omega⟩) (fun h_18 => ?_) (fun h_18 => ?_)
    · skip
      refine r_vret hC hR dX3_answerComes_26 (le_b rfl) (le_b rfl) ?_
      refine ⟨rfl, ?_⟩
      first | ((conv => lhs; simp only [sI_as, sA_sA, mI_sA]); refine sA_ext fun j => ?_) | ((conv => lhs; rw [← sA_mI u b]); refine sA_ext fun j => ?_)
      unfold c_acF
      (repeat' split) <;> first | rfl | omega | (exfalso; omega) | (subst_vars; simp_all [wr_wr, wr_mI]; done) | (simp_all [wr_wr, wr_mI]; done)
    · skip
      refine r_aload_n hC dX3_answerComes_21 rfl ?_
      refine r_iconst hC dX3_answerComes_22 ?_
      refine r_putI (j := 11) hC dX3_answerComes_23 fl_X3_46 rfl hO.o (by rintro _ ⟨⟩; rfl) (Or.inr ⟨rfl, by first | exact Or.inl rfl | exact Or.inr rfl⟩) ?_
      refine r_vret hC hR dX3_answerComes_26 (le_b rfl) (le_b rfl) ?_
      refine ⟨rfl, ?_⟩
      first | ((conv => lhs; simp only [sI_as, sA_sA, mI_sA]); refine sA_ext fun j => ?_) | ((conv => lhs; rw [← sA_mI u b]); refine sA_ext fun j => ?_)
      unfold c_acF
      (repeat' split) <;> first | rfl | omega | (exfalso; omega) | (subst_vars; simp_all [wr_wr, wr_mI]; done) | (simp_all [wr_wr, wr_mI]; done)
  · skip
    refine r_aload_n hC dX3_answerComes_8 rfl ?_
    refine r_iload_n hC dX3_answerComes_9 rfl ?_
    refine r_putI (j := 10) hC dX3_answerComes_10 fl_X3_43 rfl hO.o (by rintro _ ⟨⟩; rfl) (Or.inl rfl) ?_
    refine r_iload_n hC dX3_answerComes_13 rfl ?_
    refine r_aload_n hC dX3_answerComes_14 rfl ?_
    refine r_getIv (j := 13) (v := mI u b 13) hC dX3_answerComes_15 fl_X3_53 rfl rfl hO.o (by first | rfl | exact mI_sI_k _ _ _ _ (by decide)) ?_
    refine r_icmp_lt (t := 26) hC dX3_answerComes_18 (by rfl) (by first | with_reducible exact rg_mI _ _ _ | assumption | with_reducible exact rf_at rf _ | with_reducible exact rg_and _ _ | exact ⟨by omega, by omega⟩) (by first | with_reducible exact rg_mI _ _ _ | assumption | with_reducible exact rf_at rf _ | with_reducible exact rg_and _ _ | exact ⟨by omega, by omega⟩) (fun h_18 => ?_) (fun h_18 => ?_)
    · skip
      refine r_vret hC hR dX3_answerComes_26 (le_b rfl) (le_b rfl) ?_
      refine ⟨rfl, ?_⟩
      first | ((conv => lhs; simp only [sI_as, sA_sA, mI_sA]); refine sA_ext fun j => ?_) | ((conv => lhs; rw [← sA_mI u b]); refine sA_ext fun j => ?_)
      unfold c_acF
      (repeat' split) <;> first | rfl | omega | (exfalso; omega) | (subst_vars; simp_all [wr_wr, wr_mI]; done) | (simp_all [wr_wr, wr_mI]; done)
    · skip
      refine r_aload_n hC dX3_answerComes_21 rfl ?_
      refine r_iconst hC dX3_answerComes_22 ?_
      refine r_putI (j := 11) hC dX3_answerComes_23 fl_X3_46 rfl hO.o (by rintro _ ⟨⟩; rfl) (Or.inr ⟨rfl, by first | exact Or.inl rfl | exact Or.inr rfl⟩) ?_
      refine r_vret hC hR dX3_answerComes_26 (le_b rfl) (le_b rfl) ?_
      refine ⟨rfl, ?_⟩
      first | ((conv => lhs; simp only [sI_as, sA_sA, mI_sA]); refine sA_ext fun j => ?_) | ((conv => lhs; rw [← sA_mI u b]); refine sA_ext fun j => ?_)
      unfold c_acF
      (repeat' split) <;> first | rfl | omega | (exfalso; omega) | (subst_vars; simp_all [wr_wr, wr_mI]; done) | (simp_all [wr_wr, wr_mI]; done)

abbrev rmX3_tell : Room := { frames := 0, cells := 0, slots := 0, locals := 0 }
set_option maxRecDepth 100000 in
theorem k_Re_tell {l : Launch} {D : DD} (hfl : l.stackTraces = false) {u : Mem} {b : Nat} {w : Int} (hO : ReO u b) (hw : rg w) (hz : mI u b 11 = 0 ∨ mI u b 11 = 1) : CT l D yX3_tell cX3_tell 2 (some .int) rmX3_tell [xA b, xI w] u (RT (xI (if w = 0 then mI u b 2 else if w = 1 then mI u b 3 else if w = 2 then mI u b 1 else if w = 3 then mI u b 4 else if w = 4 then mI u b 5 else if w = 5 then mI u b 6 else if w = 6 then mI u b 7 else if w = 7 then mI u b 8 else if w = 8 then mI u b 10 else if w = 9 then mI u b 11 else mI u b 9)) u) := by
  refine CT.of hfl (by decide) (le_b rfl) ?_
  intro C hC hR hL hDD hN
  have hfC : (cxL C).stackTraces = false := by rw [hL]; exact hfl
  show VW C 0 [some (xA b), some (xI w)] [] u 0 0
  refine r_iload_n hC dX3_tell_0 rfl ?_
  refine r_tb10 (td := 114) (t0 := 56) (t1 := 61) (t2 := 66) (t3 := 71) (t4 := 76) (t5 := 81) (t6 := 86) (t7 := 91) (t8 := 96) (t9 := 101) hC dX3_tell_1 (by rfl) (by first | with_reducible exact rg_mI _ _ _ | assumption | with_reducible exact rf_at rf _ | with_reducible exact rg_and _ _ | exact ⟨by omega, by omega⟩) (by rfl) (by rfl) (by rfl) (by rfl) (by rfl) (by rfl) (by rfl) (by rfl) (by rfl) (by rfl) (by rfl) ?_ ?_ ?_ ?_ ?_ ?_ ?_ ?_ ?_ ?_ ?_
  · intro s_1
    refine r_aload_n hC dX3_tell_56 rfl ?_
    refine r_getI (j := 2) hC dX3_tell_57 fl_X3_19 rfl rfl hO.o ?_
    refine r_iret hC hR dX3_tell_60 (le_b rfl) (le_b rfl) ?_
    refine ⟨congrArg (fun i => some (xI i)) ?_, rfl⟩
    first | (subst s_1; first | rfl | (show _ = mI u b 11; omega)) | (rw [if_neg (by omega), if_neg (by omega), if_neg (by omega), if_neg (by omega), if_neg (by omega), if_neg (by omega), if_neg (by omega), if_neg (by omega), if_neg (by omega), if_neg (by omega)])
  · intro s_1
    refine r_aload_n hC dX3_tell_61 rfl ?_
    refine r_getI (j := 3) hC dX3_tell_62 fl_X3_22 rfl rfl hO.o ?_
    refine r_iret hC hR dX3_tell_65 (le_b rfl) (le_b rfl) ?_
    refine ⟨congrArg (fun i => some (xI i)) ?_, rfl⟩
    first | (subst s_1; first | rfl | (show _ = mI u b 11; omega)) | (rw [if_neg (by omega), if_neg (by omega), if_neg (by omega), if_neg (by omega), if_neg (by omega), if_neg (by omega), if_neg (by omega), if_neg (by omega), if_neg (by omega), if_neg (by omega)])
  · intro s_1
    refine r_aload_n hC dX3_tell_66 rfl ?_
    refine r_getI (j := 1) hC dX3_tell_67 fl_X3_15 rfl rfl hO.o ?_
    refine r_iret hC hR dX3_tell_70 (le_b rfl) (le_b rfl) ?_
    refine ⟨congrArg (fun i => some (xI i)) ?_, rfl⟩
    first | (subst s_1; first | rfl | (show _ = mI u b 11; omega)) | (rw [if_neg (by omega), if_neg (by omega), if_neg (by omega), if_neg (by omega), if_neg (by omega), if_neg (by omega), if_neg (by omega), if_neg (by omega), if_neg (by omega), if_neg (by omega)])
  · intro s_1
    refine r_aload_n hC dX3_tell_71 rfl ?_
    refine r_getI (j := 4) hC dX3_tell_72 fl_X3_25 rfl rfl hO.o ?_
    refine r_iret hC hR dX3_tell_75 (le_b rfl) (le_b rfl) ?_
    refine ⟨congrArg (fun i => some (xI i)) ?_, rfl⟩
    first | (subst s_1; first | rfl | (show _ = mI u b 11; omega)) | (rw [if_neg (by omega), if_neg (by omega), if_neg (by omega), if_neg (by omega), if_neg (by omega), if_neg (by omega), if_neg (by omega), if_neg (by omega), if_neg (by omega), if_neg (by omega)])
  · intro s_1
    refine r_aload_n hC dX3_tell_76 rfl ?_
    refine r_getI (j := 5) hC dX3_tell_77 fl_X3_28 rfl rfl hO.o ?_
    refine r_iret hC hR dX3_tell_80 (le_b rfl) (le_b rfl) ?_
    refine ⟨congrArg (fun i => some (xI i)) ?_, rfl⟩
    first | (subst s_1; first | rfl | (show _ = mI u b 11; omega)) | (rw [if_neg (by omega), if_neg (by omega), if_neg (by omega), if_neg (by omega), if_neg (by omega), if_neg (by omega), if_neg (by omega), if_neg (by omega), if_neg (by omega), if_neg (by omega)])
  · intro s_1
    refine r_aload_n hC dX3_tell_81 rfl ?_
    refine r_getI (j := 6) hC dX3_tell_82 fl_X3_31 rfl rfl hO.o ?_
    refine r_iret hC hR dX3_tell_85 (le_b rfl) (le_b rfl) ?_
    refine ⟨congrArg (fun i => some (xI i)) ?_, rfl⟩
    first | (subst s_1; first | rfl | (show _ = mI u b 11; omega)) | (rw [if_neg (by omega), if_neg (by omega), if_neg (by omega), if_neg (by omega), if_neg (by omega), if_neg (by omega), if_neg (by omega), if_neg (by omega), if_neg (by omega), if_neg (by omega)])
  · intro s_1
    refine r_aload_n hC dX3_tell_86 rfl ?_
    refine r_getI (j := 7) hC dX3_tell_87 fl_X3_34 rfl rfl hO.o ?_
    refine r_iret hC hR dX3_tell_90 (le_b rfl) (le_b rfl) ?_
    refine ⟨congrArg (fun i => some (xI i)) ?_, rfl⟩
    first | (subst s_1; first | rfl | (show _ = mI u b 11; omega)) | (rw [if_neg (by omega), if_neg (by omega), if_neg (by omega), if_neg (by omega), if_neg (by omega), if_neg (by omega), if_neg (by omega), if_neg (by omega), if_neg (by omega), if_neg (by omega)])
  · intro s_1
    refine r_aload_n hC dX3_tell_91 rfl ?_
    refine r_getI (j := 8) hC dX3_tell_92 fl_X3_37 rfl rfl hO.o ?_
    refine r_iret hC hR dX3_tell_95 (le_b rfl) (le_b rfl) ?_
    refine ⟨congrArg (fun i => some (xI i)) ?_, rfl⟩
    first | (subst s_1; first | rfl | (show _ = mI u b 11; omega)) | (rw [if_neg (by omega), if_neg (by omega), if_neg (by omega), if_neg (by omega), if_neg (by omega), if_neg (by omega), if_neg (by omega), if_neg (by omega), if_neg (by omega), if_neg (by omega)])
  · intro s_1
    refine r_aload_n hC dX3_tell_96 rfl ?_
    refine r_getI (j := 10) hC dX3_tell_97 fl_X3_43 rfl rfl hO.o ?_
    refine r_iret hC hR dX3_tell_100 (le_b rfl) (le_b rfl) ?_
    refine ⟨congrArg (fun i => some (xI i)) ?_, rfl⟩
    first | (subst s_1; first | rfl | (show _ = mI u b 11; omega)) | (rw [if_neg (by omega), if_neg (by omega), if_neg (by omega), if_neg (by omega), if_neg (by omega), if_neg (by omega), if_neg (by omega), if_neg (by omega), if_neg (by omega), if_neg (by omega)])
  · intro s_1
    refine r_aload_n hC dX3_tell_101 rfl ?_
    refine r_getI (j := 11) hC dX3_tell_102 fl_X3_46 rfl rfl hO.o ?_
    refine r_if_eq (t := 112) hC dX3_tell_105 (by rfl) (by first | with_reducible exact rg_mI _ _ _ | assumption | with_reducible exact rf_at rf _ | with_reducible exact rg_and _ _ | exact ⟨by omega, by omega⟩) (fun h_105 => ?_) (fun h_105 => ?_)
    · skip
      refine r_iconst hC dX3_tell_112 ?_
      refine r_iret hC hR dX3_tell_113 (le_b rfl) (le_b rfl) ?_
      refine ⟨congrArg (fun i => some (xI i)) ?_, rfl⟩
      first | (subst s_1; first | rfl | (show _ = mI u b 11; omega)) | (rw [if_neg (by omega), if_neg (by omega), if_neg (by omega), if_neg (by omega), if_neg (by omega), if_neg (by omega), if_neg (by omega), if_neg (by omega), if_neg (by omega), if_neg (by omega)])
    · skip
      refine r_iconst hC dX3_tell_108 ?_
      refine r_goto (t := 113) hC dX3_tell_109 (by rfl) ?_
      refine r_iret hC hR dX3_tell_113 (le_b rfl) (le_b rfl) ?_
      refine ⟨congrArg (fun i => some (xI i)) ?_, rfl⟩
      first | (subst s_1; first | rfl | (show _ = mI u b 11; omega)) | (rw [if_neg (by omega), if_neg (by omega), if_neg (by omega), if_neg (by omega), if_neg (by omega), if_neg (by omega), if_neg (by omega), if_neg (by omega), if_neg (by omega), if_neg (by omega)])
  · intro n_1
    refine r_aload_n hC dX3_tell_114 rfl ?_
    refine r_getI (j := 9) hC dX3_tell_115 fl_X3_40 rfl rfl hO.o ?_
    refine r_iret hC hR dX3_tell_118 (le_b rfl) (le_b rfl) ?_
    refine ⟨congrArg (fun i => some (xI i)) ?_, rfl⟩
    first | (subst s_1; first | rfl | (show _ = mI u b 11; omega)) | (rw [if_neg (by omega), if_neg (by omega), if_neg (by omega), if_neg (by omega), if_neg (by omega), if_neg (by omega), if_neg (by omega), if_neg (by omega), if_neg (by omega), if_neg (by omega)])

abbrev rmX3_sinceThen : Room := { frames := 0, cells := 0, slots := 0, locals := 0 }
def ReCp (u : Mem) (b o : Nat) (w : Mem) : Prop := Fr u w (fun q => q = b ∨ q = b + 1) (fun _ => False) ∧ (∀ j : Int, 1 ≤ j → j ≤ 13 → mI w b j = mI u o j) ∧ ∀ j : Int, 0 ≤ j → j < 21 → mI w (b + 1) j = mI u (o + 1) j
abbrev rmX3_copyFrom : Room := { frames := 1, cells := 0, slots := 0, locals := 40 }
set_option maxRecDepth 100000 in
theorem k_Re_copy {l : Launch} {D : DD} (hfl : l.stackTraces = false) {u : Mem} {b o : Nat} (hO : ReO u b) (hQ : ReO u o) (hd1 : o ≠ b) (hd2 : o ≠ b + 1) (hd3 : o + 1 ≠ b) (hz : mI u o 11 = 0 ∨ mI u o 11 = 1) : CT l D yX3_copyFrom cX3_copyFrom 2 none rmX3_copyFrom [xA b, xA o] u (fun r w => r = none ∧ ReCp u b o w) := by
  refine CT.of hfl (by decide) (le_b rfl) ?_
  intro C hC hR hL hDD hN
  have hfC : (cxL C).stackTraces = false := by rw [hL]; exact hfl
  show VW C 0 [some (xA b), some (xA o)] [] u 0 0
  refine r_aload_n hC dX3_copyFrom_0 rfl ?_
  refine r_getR (j := 0) hC dX3_copyFrom_1 fl_X3_9 rfl rfl hQ.o hQ.p ?_
  refine r_iconst hC dX3_copyFrom_4 ?_
  refine r_aload_n hC dX3_copyFrom_5 rfl ?_
  refine r_getR (j := 0) hC dX3_copyFrom_6 fl_X3_9 rfl rfl hO.o hO.p ?_
  refine r_iconst hC dX3_copyFrom_9 ?_
  refine r_bipush hC dX3_copyFrom_10 (by rfl) ?_
  refine r_copy hC dX3_copyFrom_12 ml_X3_56 hQ.a hO.a ⟨by omega, by omega, by omega⟩ (le_b rfl) ⟨le_b rfl, le_b rfl⟩ ?_
  refine r_aload_n hC dX3_copyFrom_15 rfl ?_
  refine r_aload_n hC dX3_copyFrom_16 rfl ?_
  refine r_getI (j := 1) hC dX3_copyFrom_17 fl_X3_15 rfl rfl hQ.o ?_
  refine r_putI (j := 1) hC dX3_copyFrom_20 fl_X3_15 rfl hO.o (by rintro _ ⟨⟩; rfl) (Or.inl rfl) ?_
  refine r_aload_n hC dX3_copyFrom_23 rfl ?_
  refine r_aload_n hC dX3_copyFrom_24 rfl ?_
  refine r_getI (j := 2) hC dX3_copyFrom_25 fl_X3_19 rfl rfl hQ.o ?_
  refine r_putI (j := 2) hC dX3_copyFrom_28 fl_X3_19 rfl hO.o (by rintro _ ⟨⟩; rfl) (Or.inl rfl) ?_
  refine r_aload_n hC dX3_copyFrom_31 rfl ?_
  refine r_aload_n hC dX3_copyFrom_32 rfl ?_
  refine r_getI (j := 3) hC dX3_copyFrom_33 fl_X3_22 rfl rfl hQ.o ?_
  refine r_putI (j := 3) hC dX3_copyFrom_36 fl_X3_22 rfl hO.o (by rintro _ ⟨⟩; rfl) (Or.inl rfl) ?_
  refine r_aload_n hC dX3_copyFrom_39 rfl ?_
  refine r_aload_n hC dX3_copyFrom_40 rfl ?_
  refine r_getI (j := 4) hC dX3_copyFrom_41 fl_X3_25 rfl rfl hQ.o ?_
  refine r_putI (j := 4) hC dX3_copyFrom_44 fl_X3_25 rfl hO.o (by rintro _ ⟨⟩; rfl) (Or.inl rfl) ?_
  refine r_aload_n hC dX3_copyFrom_47 rfl ?_
  refine r_aload_n hC dX3_copyFrom_48 rfl ?_
  refine r_getI (j := 5) hC dX3_copyFrom_49 fl_X3_28 rfl rfl hQ.o ?_
  refine r_putI (j := 5) hC dX3_copyFrom_52 fl_X3_28 rfl hO.o (by rintro _ ⟨⟩; rfl) (Or.inl rfl) ?_
  refine r_aload_n hC dX3_copyFrom_55 rfl ?_
  refine r_aload_n hC dX3_copyFrom_56 rfl ?_
  refine r_getI (j := 6) hC dX3_copyFrom_57 fl_X3_31 rfl rfl hQ.o ?_
  refine r_putI (j := 6) hC dX3_copyFrom_60 fl_X3_31 rfl hO.o (by rintro _ ⟨⟩; rfl) (Or.inl rfl) ?_
  refine r_aload_n hC dX3_copyFrom_63 rfl ?_
  refine r_aload_n hC dX3_copyFrom_64 rfl ?_
  refine r_getI (j := 7) hC dX3_copyFrom_65 fl_X3_34 rfl rfl hQ.o ?_
  refine r_putI (j := 7) hC dX3_copyFrom_68 fl_X3_34 rfl hO.o (by rintro _ ⟨⟩; rfl) (Or.inl rfl) ?_
  refine r_aload_n hC dX3_copyFrom_71 rfl ?_
  refine r_aload_n hC dX3_copyFrom_72 rfl ?_
  refine r_getI (j := 8) hC dX3_copyFrom_73 fl_X3_37 rfl rfl hQ.o ?_
  refine r_putI (j := 8) hC dX3_copyFrom_76 fl_X3_37 rfl hO.o (by rintro _ ⟨⟩; rfl) (Or.inl rfl) ?_
  refine r_aload_n hC dX3_copyFrom_79 rfl ?_
  refine r_aload_n hC dX3_copyFrom_80 rfl ?_
  refine r_getI (j := 9) hC dX3_copyFrom_81 fl_X3_40 rfl rfl hQ.o ?_
  refine r_putI (j := 9) hC dX3_copyFrom_84 fl_X3_40 rfl hO.o (by rintro _ ⟨⟩; rfl) (Or.inl rfl) ?_
  refine r_aload_n hC dX3_copyFrom_87 rfl ?_
  refine r_aload_n hC dX3_copyFrom_88 rfl ?_
  refine r_getI (j := 10) hC dX3_copyFrom_89 fl_X3_43 rfl rfl hQ.o ?_
  refine r_putI (j := 10) hC dX3_copyFrom_92 fl_X3_43 rfl hO.o (by rintro _ ⟨⟩; rfl) (Or.inl rfl) ?_
  refine r_aload_n hC dX3_copyFrom_95 rfl ?_
  refine r_aload_n hC dX3_copyFrom_96 rfl ?_
  refine r_getI (j := 11) hC dX3_copyFrom_97 fl_X3_46 rfl rfl hQ.o ?_
  refine r_putI (j := 11) hC dX3_copyFrom_100 fl_X3_46 rfl hO.o (by rintro _ ⟨⟩; rfl) (Or.inr ⟨rfl, by simp only [show ∀ (x : Mem) (k v : Int), mI (sI x b k v) o = mI x o from fun x k v => up_mI_n x k v hd1]; rw [mI_sA_n _ _ hd2]; exact hz⟩) ?_
  refine r_aload_n hC dX3_copyFrom_103 rfl ?_
  refine r_aload_n hC dX3_copyFrom_104 rfl ?_
  refine r_getI (j := 12) hC dX3_copyFrom_105 fl_X3_50 rfl rfl hQ.o ?_
  refine r_putI (j := 12) hC dX3_copyFrom_108 fl_X3_50 rfl hO.o (by rintro _ ⟨⟩; rfl) (Or.inl rfl) ?_
  refine r_aload_n hC dX3_copyFrom_111 rfl ?_
  refine r_aload_n hC dX3_copyFrom_112 rfl ?_
  refine r_getI (j := 13) hC dX3_copyFrom_113 fl_X3_53 rfl rfl hQ.o ?_
  refine r_putI (j := 13) hC dX3_copyFrom_116 fl_X3_53 rfl hO.o (by rintro _ ⟨⟩; rfl) (Or.inl rfl) ?_
  refine r_vret hC hR dX3_copyFrom_119 (le_b rfl) (le_b rfl) ?_
  refine ⟨rfl, ?_, ?_, ?_⟩
  · repeat (first | exact Fr.refl _ _ _ | refine Fr.sI ?_ _ _ (Or.inl rfl) | refine Fr.sA ?_ _ (Or.inr rfl))
  · intro j h1 h2
    have hj : j = 1 ∨ j = 2 ∨ j = 3 ∨ j = 4 ∨ j = 5 ∨ j = 6 ∨ j = 7 ∨ j = 8 ∨ j = 9 ∨ j = 10 ∨ j = 11 ∨ j = 12 ∨ j = 13 := by omega
    rcases hj with rfl | rfl | rfl | rfl | rfl | rfl | rfl | rfl | rfl | rfl | rfl | rfl | rfl <;> simp [mI_sI, mI_sA_n, wr_id, rg_toInt, hd1, hd2, wr_mI]
  · intro j h1 h2
    rw [show ∀ (x : Mem) (k v : Int), mI (sI x b k v) (b + 1) = mI x (b + 1) from fun x k v => up_mI_n x k v (by omega)]
    simp only [show ∀ (x : Mem) (k v : Int), mI (sI x b k v) (b + 1) = mI x (b + 1) from fun x k v => up_mI_n x k v (by omega), mI_cp]
    exact cpF_in ⟨h1, h2⟩
